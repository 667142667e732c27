/-! Shelf(int) -/
theorem kX2_0 : decode cX2_init 0 = .ok (.aload_n 0, 1) := by decide +kernel
theorem kX2_1 : decode cX2_init 1 = .ok (.invokespecial 1, 3) := by decide +kernel
theorem kX2_4 : decode cX2_init 4 = .ok (.aload_n 0, 1) := by decide +kernel
theorem kX2_5 : decode cX2_init 5 = .ok (.iconst 0, 1) := by decide +kernel
theorem kX2_6 : decode cX2_init 6 = .ok (.putfield 7, 3) := by decide +kernel
theorem kX2_9 : decode cX2_init 9 = .ok (.aload_n 0, 1) := by decide +kernel
theorem kX2_10 : decode cX2_init 10 = .ok (.iload_n 1, 1) := by decide +kernel
theorem kX2_11 : decode cX2_init 11 = .ok (.iconst 1, 1) := by decide +kernel
theorem kX2_12 : decode cX2_init 12 = .ok (.invokestatic 13, 3) := by decide +kernel
theorem kX2_15 : decode cX2_init 15 = .ok (.anewarray 19, 3) := by decide +kernel
theorem kX2_18 : decode cX2_init 18 = .ok (.putfield 21, 3) := by decide +kernel
theorem kX2_21 : decode cX2_init 21 = .ok (.iconst 0, 1) := by decide +kernel
theorem kX2_22 : decode cX2_init 22 = .ok (.istore_n 2, 1) := by decide +kernel
theorem kX2_23 : decode cX2_init 23 = .ok (.iload_n 2, 1) := by decide +kernel
theorem kX2_24 : decode cX2_init 24 = .ok (.aload_n 0, 1) := by decide +kernel
theorem kX2_25 : decode cX2_init 25 = .ok (.getfield 21, 3) := by decide +kernel
theorem kX2_28 : decode cX2_init 28 = .ok (.arraylength, 1) := by decide +kernel
theorem kX2_29 : decode cX2_init 29 = .ok (.if_icmp .ge 22, 3) := by decide +kernel
theorem kX2_32 : decode cX2_init 32 = .ok (.aload_n 0, 1) := by decide +kernel
theorem kX2_33 : decode cX2_init 33 = .ok (.getfield 21, 3) := by decide +kernel
theorem kX2_36 : decode cX2_init 36 = .ok (.iload_n 2, 1) := by decide +kernel
theorem kX2_37 : decode cX2_init 37 = .ok (.new 19, 3) := by decide +kernel
theorem kX2_40 : decode cX2_init 40 = .ok (.dup, 1) := by decide +kernel
theorem kX2_41 : decode cX2_init 41 = .ok (.invokespecial 25, 3) := by decide +kernel
theorem kX2_44 : decode cX2_init 44 = .ok (.aastore, 1) := by decide +kernel
theorem kX2_45 : decode cX2_init 45 = .ok (.iinc 2 1, 3) := by decide +kernel
theorem kX2_48 : decode cX2_init 48 = .ok (.goto (-25), 3) := by decide +kernel
theorem kX2_51 : decode cX2_init 51 = .ok (.return_, 1) := by decide +kernel
theorem nk_arrV {cA : ClassId} {N : Nat} {f g : Nat → Value} (h : ∀ j, j < N → f j = g j) : arrV cA N f = arrV cA N g := by
  unfold arrV
  congr 1
  congr 1
  funext j
  exact h j.val j.isLt
def nk_val (G : nl_G) (b : Nat) (H : Heap) : Prop := t_OB b ((gD G).1 4) (nl_N 4) ((gD G).2 4) H (nk_V4 (b + 1)) ∧ nk_ar G nk_a4 (b + 1) H
theorem nk_ar.kept {G : nl_G} {ar : List (Nat × Nat)} {sz : Nat} {H H1 : Heap} (h : nk_ar G ar sz H) (hq : ∀ q, sz ≤ q → q < sz + ar.length → H1[q]? = H[q]?) : nk_ar G ar sz H1 := fun j q hj => by
  have hlt := (List.getElem?_eq_some_iff.mp hj).1
  rw [hq _ (by omega) (by omega)]
  exact h j q hj
theorem nk_val.kept {G : nl_G} {b : Nat} {H H1 : Heap} (h : nk_val G b H) (hq : ∀ q, b ≤ q → q < b + 9 → H1[q]? = H[q]?) : nk_val G b H1 :=
  ⟨h.1.kept (hq b (by omega) (by omega)), h.2.kept fun q h1 h2 => hq q (by omega) (by have : nk_a4.length = 8 := rfl; omega)⟩
def nk_V2 (sz : Nat) : Nat → Value := fun k => match k with
  | 0 => .ref sz
  | _ => .int 0
def nk_S (G : nl_G) (a sz N i : Nat) (H : Heap) : Prop :=
  H.size = sz + 1 + 9 * i ∧ t_OB a ((gD G).1 2) (nl_N 2) ((gD G).2 2) H (nk_V2 sz) ∧ H[sz]? = some (arrV (gY G 2) N (fun j => if j < i then .ref (sz + 1 + 9 * j) else .null)) ∧ ∀ j, j < i → nk_val G (sz + 1 + 9 * j) H
section NKS
variable {p : Program} {l : Launch} {e : Env} {R : Room} {s : State} {m : MethodId} {args : Array Value} {below : List Frame} {meth : Method} {c : Code} {cells slots : Nat} {Q : State → Prop} {cc : ByteArray} {nL ci : Nat} {G : nl_G} {pc : Nat} {ls : Array Slot} {rest st0 : List Value} {H H0 : Heap} {locs : List Loc} {a : Nat} {V : Nat → Value} {A : Nat → Prop}
/-- one field is written: what of the heap stays -/
theorem nk_put0 (X : nk_Cx p s m args c cc nL ci G) (hin : meth.name = "<init>") {k idx : Nat} {v : Value} (hc : ci < 7) (hk : k < nl_N ci) (hl : (ci, idx, ci, k) ∈ nl_FL) (ho : (nl_T ci k).1 = nl_R ci) {ty : FieldType} (hd : parseFieldDescriptor (nl_T ci k).2.2.1 = some ty) (hn : narrow ty v = v) (hfit : fits ty v = true) (hdg : decode cc pc = .ok (.putfield idx, 3)) (hO : t_OB a ((gD G).1 ci) (nl_N ci) ((gD G).2 ci) H V) (hS : va_S A H0 H locs) (hA : A a)
    (kk : ∀ (H' : Heap) (locs' : List Loc), t_OB a ((gD G).1 ci) (nl_N ci) ((gD G).2 ci) H' (updV V k v) → H'.size = H.size → (∀ q, q ≠ a → H'[q]? = H[q]?) → va_S A H0 H' locs' → W p l e R s m args below meth c H' locs' cells slots Q (F0 m (pc + 3) ls rest)) : W p l e R s m args below meth c H locs cells slots Q (F0 m pc ls (v :: .ref a :: rest)) := by
  obtain ⟨hx, hbb, hml, hown, hts, hK, -⟩ := X
  obtain ⟨cell, q1, q2, q3, q4⟩ := hO
  have hap := va_apart (own := nl_R ci) hts (nl_lays ci hc) (nl_tyf ci) (nl_tyok ci hc) (nl_nmok ci hc) hK (nl_cs_at hc)
  obtain ⟨hSl, hfc, kC, hkC, hkind⟩ := hK.1 ci _ (nl_cs_at hc)
  obtain ⟨cf, kf, fi, f, hi, hsl⟩ := hSl k hk
  have hlay := hts _ (nl_lays ci hc _ (u_in_lay hk))
  have hst := (u_facts hfc hkC (u_lays hts (nl_lays ci hc) hk) hi).1
  have hi2 : s.fieldFound? (nl_R ci) (nl_T ci k).2.1 (nl_T ci k).2.2.1 = some (cf, kf, fi, f) := by rw [← ho]; exact hi
  have hlink := hts _ (nl_FL_all _ hl)
  have fin : ∀ H' : Heap, H'[a]? = some (cell.setSlot f.slot v) → H'.size = H.size → (∀ q, q ≠ a → H'[q]? = H[q]?) → t_OB a ((gD G).1 ci) (nl_N ci) ((gD G).2 ci) H' (updV V k v) ∧ va_S A H0 H' (locs ++ [⟨a, f.slot⟩]) := by
    intro H' e1 e2 e3
    rw [hsl] at e1
    exact ⟨⟨_, e1, q2, q3, t_set q4 hap hk v⟩, hS.put e2 e3 hA⟩
  unfold u_lay at hlay
  cases hfin : (nl_T ci k).2.2.2 with
  | false =>
    rw [if_neg (by rw [hfin]; decide)] at hlay
    have h6 := u_store hfc hkC hkind hlay hi hd hn hfit
    exact W.putK hx hbb (f := f) ⟨hown, hlink, ⟨_, _, _, hi2⟩, hst⟩ (by rw [q2]; exact h6) q1 q3 (by rw [hsl]; exact k2_hasslot (q4 k hk)) rfl rfl hdg fun H' e1 e2 e3 => kk _ _ (fin H' e1 e2 e3).1 e2 e3 (fin H' e1 e2 e3).2
  | true =>
    rw [if_pos hfin] at hlay
    have hcf : m.cls = cf := by
      obtain ⟨_, _, c', _, _, _, -, -, hf', -, -, -, hown2, -⟩ := Cond.laysFinal_spec hlay
      have e1 : c' = cf := by have := hi.symm.trans hf'; simp at this; exact this.1.symm
      rw [ho] at hown2
      rw [← e1]; exact Option.some.inj (hown.symm.trans hown2)
    have h6 := u_fits hfc hkC hkind (Or.inr hlay) hi hd hn hfit
    exact W.putFinK hx hbb hown hlink hi2 hst hcf hin (by rw [q2]; exact h6) q1 q3 (by rw [hsl]; exact k2_hasslot (q4 k hk)) rfl rfl hdg fun H' e1 e2 e3 => kk _ _ (fin H' e1 e2 e3).1 e2 e3 (fin H' e1 e2 e3).2
set_option maxHeartbeats 4000000 in
theorem nk_shl {sz N : Nat} (X : nk_Cx p s m args c cX2_init 3 2 G) (hK : nk_K G s) (hin : meth.name = "<init>") (ha : a < sz) (hz : H0.size = sz) (hN : N ≤ 8) (hRf : 2 ≤ R.frames) (hRl : 60 ≤ R.locals) (hRc : 1 + 9 * N ≤ R.cells) (hRs : N + 109 * N ≤ R.slots)
    (kk : ∀ (H : Heap) (locs : List Loc) (ls : Array Slot), nk_S G a sz N N H → va_S (nk_A a sz) H0 H locs → W p l e R s m args below meth c H locs (1 + 9 * N) (N + 109 * N) Q (F0 m 51 ls [])) :
    ∀ (d i : Nat) (H : Heap) (locs : List Loc) (ls : Array Slot) (w : Int32), i + d = N → nk_S G a sz N i H → va_S (nk_A a sz) H0 H locs → lv_has ls 3 [(2, .int (Int32.ofNat i)), (0, .ref a), (1, .int w)] → W p l e R s m args below meth c H locs (1 + 9 * i) (N + 109 * i) Q (F0 m 23 ls []) := by
  intro d
  induction d with
  | zero =>
    intro i H locs ls w hi hJ hS hl
    obtain rfl : i = N := by omega
    obtain ⟨hx, hb, hml, hown, hts, hKl⟩ := X
    refine lv_iload_n hx hb kX2_23 rfl (lv_at hl 0 rfl) ?_
    refine lv_aload_n hx hb kX2_24 rfl (lv_at hl 1 rfl) ?_
    refine nk_get ⟨hx, hb, hml, hown, hts, hKl⟩ (c2 := 2) (k := 0) (idx := 21) (by decide) (by decide) (by decide) rfl hJ.2.1 (v := .ref sz) rfl kX2_25 ?_
    refine W.alen (n := Int32.ofNat i) hx hb hJ.2.2.1 ((hKl.1.2 2 _ rfl).1 i _) (by rw [arrV_size] <;> rfl) rfl rfl kX2_28 ?_
    refine lv_icmp_ge hx hb kX2_29 (tgt := 51) rfl (fun _ => kk H locs ls hJ hS) (fun q => ?_)
    exact absurd ((Int32.ofNat_le_ofNat (by omega) (by omega)).mpr (Nat.le_refl i)) q
  | succ d ih =>
    intro i H locs ls w hi hJ hS hl
    have hlt : i < N := by omega
    obtain ⟨hx, hb, hml, hown, hts, hKl⟩ := X
    have X : nk_Cx p s m args c cX2_init 3 2 G := ⟨hx, hb, hml, hown, hts, hKl⟩
    refine lv_iload_n hx hb kX2_23 rfl (lv_at hl 0 rfl) ?_
    refine lv_aload_n hx hb kX2_24 rfl (lv_at hl 1 rfl) ?_
    refine nk_get X (c2 := 2) (k := 0) (idx := 21) (by decide) (by decide) (by decide) rfl hJ.2.1 (v := .ref sz) rfl kX2_25 ?_
    refine W.alen (n := Int32.ofNat N) hx hb hJ.2.2.1 ((hKl.1.2 2 _ rfl).1 N _) (by rw [arrV_size] <;> rfl) rfl rfl kX2_28 ?_
    refine lv_icmp_ge hx hb kX2_29 (tgt := 51) rfl (fun q => absurd ((Int32.ofNat_le_ofNat (by omega) (by omega)).mp q) (by omega)) (fun _ => ?_)
    refine lv_aload_n hx hb kX2_32 rfl (lv_at hl 1 rfl) ?_
    refine nk_get X (c2 := 2) (k := 0) (idx := 21) (by decide) (by decide) (by decide) rfl hJ.2.1 (v := .ref sz) rfl kX2_33 ?_
    refine lv_iload_n hx hb kX2_36 rfl (lv_at hl 0 rfl) ?_
    obtain ⟨j1, j2, j3, j4⟩ := hJ
    refine nk_new X (c2 := 4) (idx := 19) (N := 11) (by decide) (nl_w1 122 rfl rfl) (nl_w1 61 rfl rfl) (nl_w1 3 rfl rfl) (by omega) (by omega) kX2_37 hS (fun H1 z1 o1 b1 hS1 => ?_)
    refine lv_dup hx hb kX2_40 rfl ?_
    refine nk_call (b := H.size) (mc := 8) (ms := 98) (Y := nk_Y G 4 H.size H1.size nk_a4 (nk_V4 H1.size)) (rest := [.ref H.size, .int (Int32.ofNat i), .ref sz]) (nk_runN X (y := yX4_init) (bytes := cX4_init) (maxL := 1) (ex := []) (nk_X4 l G H.size H1.size _) (nk_Pc_pre rfl b1 hKl (by omega)) (nl_w1 64 rfl rfl) (nl_w1 3 rfl rfl) (nl_w1 63 rfl rfl) rfl ⟨nl_pn4.2.1, nl_pn4.2.2, by decide +kernel⟩ rfl rfl hK.2.2.2.1 ⟨hRf, by show 8 + (1 + 11) + 30 ≤ _; omega⟩ hl.1 (Nat.le_of_ble_eq_true rfl) kX2_41 ⟨by omega, by omega⟩) hS1 (fun q z => by rcases z with z | z <;> (right; omega)) (fun H2 locs2 hY o2 hS2 => ?_)
    have hKn := hKl.1.1 4 _ (nl_cs_at (by decide))
    have hcls := hKn.2
    obtain ⟨kA, comp, k1, k2, k3, -⟩ := (hKl.1.2 2 _ rfl).2
    have hcomp : comp = (gD G).1 4 := Option.some.inj (k3.symm.trans hcls.1)
    subst hcomp
    obtain ⟨kC, hkC, hkk⟩ := hcls.2
    obtain ⟨y1, y2, y3⟩ := hY
    have hl8 : nk_a4.length = 8 := rfl
    obtain ⟨cellV, g1, g2, g3, g4⟩ := y2
    have e2 : H2[sz]? = some (arrV (gY G 2) N (fun j => if j < i then .ref (sz + 1 + 9 * j) else .null)) := by rw [o2 _ (by omega) (by omega), o1 _ (by omega)]; exact j3
    have hci : (Int32.ofNat i).toNatClampNeg = i := Int32.toNatClampNeg_ofNat_of_lt (by omega)
    refine W.aast hx hb e2 (fun q h => by cases h) (fun h => by cases h) k1 k2 rfl hkC ⟨(fun z => absurd ((Int32.ofNat_lt_ofNat (k := i) (n := 0) (by omega) (by omega)).mp z) (by omega)), by rw [arrV_size, hci]; exact hlt⟩ g1 (fun q h => by rw [g3] at h; cases h) (by rw [g2]; exact hkC) (by rw [g2]; exact va_assign hcls) rfl rfl kX2_44 fun H3 e3 z3 o3 => ?_
    have o3 : ∀ q : Nat, q ≠ sz → H3[q]? = H2[q]? := o3
    refine lv_iinc (v := Int32.ofNat (i + 1)) hx hb kX2_45 hl (k := 0) rfl (by rw [Int32.ofNat_add]; rfl) (by decide) rfl (fun ls' hl' => ?_)
    refine lv_goto hx hb kX2_48 (tgt := 23) rfl ?_
    have hH : H.size = sz + 1 + 9 * i := j1
    rw [show 1 + 9 * i + 1 + 8 = 1 + 9 * (i + 1) by omega, show N + 109 * i + 11 + 98 = N + 109 * (i + 1) by omega]
    refine ih (i + 1) H3 _ ls' w (by omega) ⟨by omega, ?_, ?_, fun j hj => ?_⟩ (hS2.put z3 o3 (Or.inr (Nat.le_refl _))) hl'
    · exact j2.kept (by rw [o3 a (by omega), o2 a (by omega) (by omega), o1 a (by omega)])
    · rw [e3, hci, arrV_store]
      congr 1
      refine nk_arrV fun j hj => ?_
      show (if j = i then Value.ref H.size else if j < i then Value.ref (sz + 1 + 9 * j) else Value.null) = _
      by_cases h : j = i
      · rw [if_pos h, if_pos (by omega), h, hH]
      · rw [if_neg h]
        by_cases h2 : j < i
        · rw [if_pos h2, if_pos (by omega)]
        · rw [if_neg h2, if_neg (by omega)]
    · by_cases h : j = i
      · subst h
        rw [← hH]
        refine nk_val.kept (H := H2) ⟨?_, ?_⟩ (fun q h1 h2 => o3 q (by omega))
        · exact ⟨cellV, g1, g2, g3, by rw [← z1]; exact g4⟩
        · rw [← z1]; exact y3
      · refine (j4 j (by omega)).kept fun q h1 h2 => ?_
        rw [o3 q (by omega), o2 q (by omega) (by omega), o1 q (by omega)]
end NKS
