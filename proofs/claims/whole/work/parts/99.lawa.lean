/-! The law's cases: its rows, with the script outside of the world. -/
theorem lk_and (x : Int32) : 0 ≤ (x &&& 31).toInt ∧ (x &&& 31).toInt ≤ 31 := by
  have e : (x &&& 31).toInt = (x.toBitVec &&& (31 : Int32).toBitVec).toInt := rfl
  have h : (x.toBitVec &&& (31 : Int32).toBitVec).toNat ≤ 31 := by
    rw [BitVec.toNat_and]
    exact Nat.and_le_right
  rw [e, BitVec.toInt_eq_toNat_of_lt (by omega)]
  omega
theorem lk_in (x : Int32) : nl_inR x.toInt := ⟨by have := Int32.le_toInt x; omega, by have := Int32.toInt_lt x; omega⟩
section LK
variable {p : Program} {l : Launch} {e : Env} {R : Room} {s : State} {m : MethodId} {args : Array Value} {below : List Frame} {meth : Method} {c : Code} {cells slots : Nat} {Q : State → Prop} {G : nl_G} {pc : Nat} {ls : Array Slot} {rest : List Value} {H : Heap} {locs : List Loc} {b L : Nat} {xs : Nat → Int32} {i : Nat} {lv : List (Nat × Value)}
/-- a number of the script, at i + j -/
theorem lk_arg (X : nk_Cx p s m args c code 4 7 G) (hX : va_X b L xs s s.heap) (hbl : b < s.heap.size) (hbA : ¬ gF G b) (hL : L ≤ 2048) (hl : lv_has ls 4 lv) (l3 : lv[0]? = some (3, .int (Int32.ofNat i))) (l0 : lv[3]? = some (0, .ref b)) (j : Nat) (hi : i + j < L) (hj : j < 4) (d0 : decode code pc = .ok (.aload_n 0, 1)) (d1 : decode code (pc + 1) = .ok (.iload_n 3, 1)) (d2 : decode code (pc + 2) = .ok (.iconst j, 1)) (d3 : decode code (pc + 3) = .ok (.iadd, 1)) (d4 : decode code (pc + 4) = .ok (.iaload, 1)) (hS : va_S (gF G) s.heap H locs)
    (kk : W p l e R s m args below meth c H locs cells slots Q (F0 m (pc + 5) ls (.int (Int32.ofInt (xs (i + j)).toInt) :: rest))) : W p l e R s m args below meth c H locs cells slots Q (F0 m pc ls rest) := by
  obtain ⟨hx, hb, hml, hown, hts, hK⟩ := X
  refine lv_aload_n hx hb d0 rfl (lv_at hl 3 l0) ?_
  refine lv_iload_n hx hb d1 rfl (lv_at hl 0 l3) ?_
  refine lv_iconst (v := Int32.ofNat j) hx hb d2 (by rcases (show j = 0 ∨ j = 1 ∨ j = 2 ∨ j = 3 by omega) with rfl | rfl | rfl | rfl <;> rfl) ?_
  refine lv_iadd hx hb d3 ?_
  rw [← Int32.ofNat_add]
  have hc : (Int32.ofNat (i + j)).toNatClampNeg = i + j := Int32.toNatClampNeg_ofNat_of_lt (by omega)
  refine va_sld hx hb hX hbl hbA hS ?_ d4 ?_
  · unfold vp_in
    rw [hc]
    intro z
    rcases z with z | z
    · exact absurd ((Int32.ofNat_lt_ofNat (k := i + j) (n := 0) (by omega) (by omega)).mp z) (by omega)
    · omega
  · rw [hc]
    rw [Int32.ofInt_toInt] at kk
    exact kk
/-- one case: both are asked, both answer alike -/
theorem lk_case (X : nk_Cx p s m args c code 4 7 G) (hAp : nl_Ap G) (h6 : gN G 6 = 1) (hl : lv_has ls 4 lv) (l1 : lv[2]? = some (1, .ref (gO G 5 0))) (l2 : lv[1]? = some (2, .ref (gO G 6 0))) {h : nl_H} {y5 y6 k5 k6 pa pb : Nat} {as : List nl_V} {I5 I6 : nl_I} {off : Int} (hag : ag (gL G) 20 y5 y6 as h) (hI5 : nl_inf[y5]? = some I5) (hI6 : nl_inf[y6]? = some I6) (w5 : Cond.methodLink (nl_R 7) k5 I5.1 ∈ nl_WL) (w6 : Cond.methodLink (nl_R 7) k6 I6.1 ∈ nl_WL)
    (i5 : I5.2.2.2.2.2.2 = false ∧ I5.2.2.2.2.1 = 5 ∧ I5.2.2.2.2.2.1 = as.length) (i6 : I6.2.2.2.2.2.2 = false ∧ I6.2.2.2.2.1 = 6 ∧ I6.2.2.2.2.2.1 = as.length) (r5 : ∀ r : Int, nl_rv (nl_r3 I5.2.2.2.1) r = some (.int (Int32.ofInt r))) (r6 : ∀ r : Int, nl_rv (nl_r3 I6.2.2.2.1) r = some (.int (Int32.ofInt r))) (has : ∀ v ∈ as, nl_okv G v) (hfr : 21 ≤ R.frames) (hlo : 2100 ≤ R.locals) (hcs : cells ≤ R.cells ∧ slots ≤ R.slots)
    (d0 : decode code pc = .ok (.aload_n 1, 1)) (p5 : ∀ (H : Heap) (locs : List Loc) (rest : List Value), va_S (gF G) s.heap H locs → W p l e R s m args below meth c H locs cells slots Q (F0 m pa ls ((as.map (nl_cv G)).reverse ++ rest)) → W p l e R s m args below meth c H locs cells slots Q (F0 m (pc + 1) ls rest)) (d5 : decode code pa = .ok (.invokevirtual k5, 3))
    (d1 : decode code (pa + 3) = .ok (.aload_n 2, 1)) (p6 : ∀ (H : Heap) (locs : List Loc) (rest : List Value), va_S (gF G) s.heap H locs → W p l e R s m args below meth c H locs cells slots Q (F0 m pb ls ((as.map (nl_cv G)).reverse ++ rest)) → W p l e R s m args below meth c H locs cells slots Q (F0 m (pa + 3 + 1) ls rest)) (d6 : decode code pb = .ok (.invokevirtual k6, 3)) (d7 : decode code (pb + 3) = .ok (.if_icmp .eq off, 3)) (ht : ((pb + 3 : Nat) : Int) + off = ((901 : Nat) : Int))
    (hW : nl_Wd G h s H) (hS : va_S (gF G) s.heap H locs)
    (kk : ∀ (H1 : Heap) (locs1 : List Loc) (h1 : nl_H), nl_Wd G h1 s H1 → rg h1 → va_S (gF G) s.heap H1 locs1 → W p l e R s m args below meth c H1 locs1 cells slots Q (F0 m 901 ls [])) : W p l e R s m args below meth c H locs cells slots Q (F0 m pc ls []) := by
  obtain ⟨hx, hb, hml, hown, hts, hK⟩ := X
  have X : nk_Cx p s m args c code 4 7 G := ⟨hx, hb, hml, hown, hts, hK⟩
  obtain ⟨a, g1, g2, c5, c6, hrg⟩ := hag
  refine lv_aload_n hx hb d0 rfl (lv_at hl 2 l1) ?_
  refine p5 H locs _ hS ?_
  refine nk_vcall (l := l) X hAp (o := 0) (c9 := 5) (n := 20) c5 hI5 w5 i5.1 i5.2.1 i5.2.2 (by decide) (by rw [hAp.2.2.2.2.2.2.2.2.2.2.2.1]; decide) has (by omega) (by omega) hcs hW hS hl.1 (Nat.le_of_ble_eq_true rfl) d5 (fun H1 locs1 hW1 hS1 => ?_)
  rw [r5]
  refine lv_aload_n hx hb d1 rfl (lv_at hl 1 l2) ?_
  refine p6 H1 locs1 _ hS1 ?_
  refine nk_vcall (l := l) X hAp (o := 0) (c9 := 6) (n := 20) c6 hI6 w6 i6.1 i6.2.1 i6.2.2 (by decide) (by rw [h6]; decide) has (by omega) (by omega) hcs hW1 hS1 hl.1 (Nat.le_of_ble_eq_true rfl) d6 (fun H2 locs2 hW2 hS2 => ?_)
  rw [r6]
  exact lv_icmp_eq hx hb d7 ht (fun _ => kk H2 locs2 g2 hW2 hrg hS2) (fun q => absurd rfl q)
end LK
