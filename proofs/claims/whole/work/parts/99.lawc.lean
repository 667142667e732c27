/-! The law: its loop. -/
section LL
variable {p : Program} {l : Launch} {e : Env} {R : Room} {s : State} {m : MethodId} {args : Array Value} {below : List Frame} {meth : Method} {c : Code} {cells slots : Nat} {Q : State → Prop} {G : nl_G} {b L : Nat} {xs : Nat → Int32}
theorem lw_gt {L i : Nat} (hL : L ≤ 2048) (hi : i ≤ 3000) : (Int32.ofNat L - 4 < Int32.ofNat i) ↔ L < i + 4 := by
  have e : Int32.ofNat L - 4 = Int32.ofInt ((L : Int) - 4) := by rw [Int32.ofInt_sub, Int32.ofInt_eq_ofNat]; rfl
  rw [e, ← Int32.ofInt_eq_ofNat (n := i), nx_lt, nx_of (by omega) (by omega), nx_of (by omega) (by omega)]
  omega
set_option maxHeartbeats 4000000 in
theorem lw_loop (C : lk_Cx p R s m args c cells slots G b L xs)
    (kk : ∀ (H1 : Heap) (locs1 : List Loc) (ls1 : Array Slot), va_S (gF G) s.heap H1 locs1 → W p l e R s m args below meth c H1 locs1 cells slots Q (F0 m 907 ls1 [])) :
    ∀ (d i : Nat) (H : Heap) (locs : List Loc) (ls : Array Slot) (h : nl_H), L < i + 4 * d + 4 → i ≤ 3000 → nl_Wd G h s H → rg h → va_S (gF G) s.heap H locs → lv_has ls 4 [(3, .int (Int32.ofNat i)), (2, .ref (gO G 6 0)), (1, .ref (gO G 5 0)), (0, .ref b)] → W p l e R s m args below meth c H locs cells slots Q (F0 m 18 ls []) := by
  obtain ⟨hx, hb, hml, hown, hts, hK⟩ := C.1
  have hX := C.2.2.2.1
  have hbl := C.2.2.2.2.1
  have hbA := C.2.2.2.2.2.1
  have hL := C.2.2.2.2.2.2.1
  intro d
  induction d with
  | zero =>
    intro i H locs ls h hd hi hW hg hS hl
    refine lv_iload_n hx hb kL_18 rfl (lv_at hl 0 rfl) ?_
    refine lv_aload_n hx hb kL_19 rfl (lv_at hl 3 rfl) ?_
    refine va_slen hx hb hX hbl hbA hS kL_20 ?_
    refine lv_iconst (v := 4) hx hb kL_21 (by decide) ?_
    refine lv_isub hx hb kL_22 ?_
    refine lv_icmp_gt hx hb kL_23 (tgt := 907) rfl (fun _ => kk H locs ls hS) (fun q => absurd ((lw_gt hL hi).mpr (by omega)) q)
  | succ d ih =>
    intro i H locs ls h hd hi hW hg hS hl
    refine lv_iload_n hx hb kL_18 rfl (lv_at hl 0 rfl) ?_
    refine lv_aload_n hx hb kL_19 rfl (lv_at hl 3 rfl) ?_
    refine va_slen hx hb hX hbl hbA hS kL_20 ?_
    refine lv_iconst (v := 4) hx hb kL_21 (by decide) ?_
    refine lv_isub hx hb kL_22 ?_
    refine lv_icmp_gt hx hb kL_23 (tgt := 907) rfl (fun _ => kk H locs ls hS) (fun q => ?_)
    have h9 : ¬ L < i + 4 := fun z => q ((lw_gt hL hi).mpr z)
    have hlt : i + 3 < L := by omega
    refine lv_aload_n hx hb kL_26 rfl (lv_at hl 3 rfl) ?_
    refine lv_iload_n hx hb kL_27 rfl (lv_at hl 0 rfl) ?_
    have hc : (Int32.ofNat i).toNatClampNeg = i := Int32.toNatClampNeg_ofNat_of_lt (by omega)
    refine va_sld hx hb hX hbl hbA hS ?_ kL_28 ?_
    · unfold vp_in
      rw [hc]
      intro z
      rcases z with z | z
      · exact absurd ((Int32.ofNat_lt_ofNat (k := i) (n := 0) (by omega) (by omega)).mp z) (by omega)
      · omega
    rw [hc]
    refine lv_bipush (v := 31) hx hb kL_29 (by decide) ?_
    refine lv_iand hx hb kL_31 ?_
    refine lw_sw (l := l) (lk_and (xs i)) C hlt hl hW hg hS (fun H1 locs1 h1 hW1 hg1 hS1 => ?_)
    refine lv_iinc (v := Int32.ofNat (i + 4)) hx hb kL_901 hl (k := 0) rfl (by rw [Int32.ofNat_add]; rfl) (by decide) rfl (fun ls' hl' => ?_)
    refine lv_goto hx hb kL_904 (tgt := 18) rfl ?_
    exact ih (i + 4) H1 locs1 ls' h1 (by omega) (by omega) hW1 hg1 hS1 hl'
end LL
