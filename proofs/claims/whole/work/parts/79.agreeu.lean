/-! Both answer alike: lay. -/
/-- the model with m houses of the plan Q laid so far -/
def ly (X Q : nl_O) (i : Nat) : Prop := X 0 0 = (i : Int) ∧ ∀ j, j < i → X 4 j = Q 1 j ∧ X 5 j = Q 2 j ∧ X 6 j = Q 3 j ∧ X 3 j = Q 0 j
theorem lp_lay38 {LS : Int} {n : Nat} (hn : 1 ≤ n) {h : nl_H} {Q : nl_O} {m : Nat} (hm : m ≤ 7) (h5 : Q 5 0 = (m : Int)) (h6 : Q 6 0 = (m : Int)) : ∀ (d i : Nat) (X : nl_O), i + d = m → rp X Q → ly X Q i → ∃ U, nl_Rn LS cd_X6_lay (nl_c LS n) ct_X6_lay 1 38 [some (vO 6 0), some (vI (i : Int))] (sm h X) ((m : Int), sm h U) ∧ ly U Q m ∧ U 1 0 = 0 ∧ U 2 0 = 0 ∧ (∀ i, i < 7 → U 8 i = (i : Int) ∧ U 7 i = 0 ∧ U 9 i = 0) ∧ (∀ i, i < 49 → U 10 i = 0) ∧ U 11 0 = 0 ∧ U 24 0 = 0 ∧ U 29 0 = 0 ∧ ∀ k i : Nat, k = 15 ∨ k = 16 → U k i = X k i := by
  intro d
  induction d with
  | zero =>
    intro i X hi hR hL
    obtain rfl : i = m := by omega
    obtain ⟨Y, c1, b1, b2, b3, b4, b5⟩ := sq_begin (LS := LS) (n := n) hn (h := h) (V := X)
    have y0 : Y 0 0 = (i : Int) := by rw [b5 0 0 (by omega)]; exact hL.1
    have e19 : X 19 0 = (i : Int) := by rw [hR.2.1]; exact h6
    have o : ∀ k j : Nat, k ≠ 11 → k ≠ 24 → k ≠ 29 → vu (vu (vu Y 11 0 0) 24 0 0) 29 0 0 k j = Y k j := fun k j h1 h2 h3 => by rw [vu_k h3, vu_k h2, vu_k h1]
    refine ⟨vu (vu (vu Y 11 0 0) 24 0 0) 29 0 0, .ret ?_, ⟨by rw [o 0 0 (by omega) (by omega) (by omega)]; exact y0, fun j hj => ?_⟩, ?_, ?_, fun j hj => ?_, fun j hj => ?_, ?_, ?_, vu_at, fun k j hk => ?_⟩
    · rw [sg_X6_lay_38]
      simp (disch := omega) only [↓reduceIte, i_le, i_nle, i_lt, i_nlt, i_eq, i_ne, and_self, and_true, true_and, and_false, false_and, or_true, true_or, or_false, false_or, nx_of, Int.toNat_natCast, Option.bind_some, rm_0, rm_1, rm_2, rm_3, rm_4, rm_5, rm_6, rm_7, rm_8, rm_9, rm_10, rm_11, rm_12, rm_13, rm_14, rm_15, rm_16, rm_17, rm_18, rm_19, rm_20, rm_21, rm_22, rm_23, rm_24, rm_25, rm_26, rm_27, rm_28, rm_29, um_0, um_1, um_2, um_3, um_4, um_5, um_6, um_7, um_8, um_9, um_10, um_11, um_12, um_13, um_14, um_15, um_16, um_17, um_18, um_19, um_20, um_21, um_22, um_23, um_24, um_25, um_26, um_27, um_28, um_29, rm_k, um_k, vu_at, vu_ne, ↓bd c1, c1, e19, y0]
    · rw [o _ _ (by omega) (by omega) (by omega), o _ _ (by omega) (by omega) (by omega), o _ _ (by omega) (by omega) (by omega), o _ _ (by omega) (by omega) (by omega), b5 4 j (by omega), b5 5 j (by omega), b5 6 j (by omega), b5 3 j (by omega)]
      exact hL.2 j hj
    · rw [o _ _ (by omega) (by omega) (by omega)]; exact b1
    · rw [o _ _ (by omega) (by omega) (by omega)]; exact b2
    · rw [o _ _ (by omega) (by omega) (by omega), o _ _ (by omega) (by omega) (by omega), o _ _ (by omega) (by omega) (by omega)]; exact b3 j hj
    · rw [o _ _ (by omega) (by omega) (by omega)]; exact b4 j hj
    · rw [vu_k (by omega), vu_k (by omega), vu_at]
    · rw [vu_k (by omega), vu_at]
    · rw [o _ _ (by omega) (by omega) (by omega)]; exact b5 k j (by omega)
  | succ d ih =>
    intro i X hi hR hL
    have e19 : X 19 0 = (m : Int) := by rw [hR.2.1]; exact h6
    have r1 := hR.2.2.1 i (by omega)
    have r2 := hR.2.2.2 i (by omega)
    have e3 : 3 * (i : Int) = ((3 * i : Nat) : Int) := by omega
    have e4 : ((3 * i : Nat) : Int) + 1 = ((3 * i + 1 : Nat) : Int) := by omega
    have e5 : ((3 * i : Nat) : Int) + 2 = ((3 * i + 2 : Nat) : Int) := by omega
    have c1 := sq_firstHouse (LS := LS) (n := n) hn (h := h) (V := X) (i := i) (a := Q 1 i) (b := Q 2 i) (c := Q 3 i) (d := Q 0 i) hL.1 (by omega)
    generalize hZ : vu (vu (vu (vu (vu X 4 i (Q 1 i)) 5 i (Q 2 i)) 6 i (Q 3 i)) 3 i (Q 0 i)) 0 0 ((i : Int) + 1) = Z at c1
    have zo : ∀ k j : Nat, k ≠ 0 → k ≠ 3 → k ≠ 4 → k ≠ 5 → k ≠ 6 → Z k j = X k j := fun k j h0 h3 h4 h5 h6 => by rw [← hZ, vu_k h0, vu_k h3, vu_k h6, vu_k h5, vu_k h4]
    obtain ⟨U, k1, k2, k3, k4, k5, k6, k7, k8, k9, k10⟩ := ih (i + 1) Z (by omega) ⟨by rw [zo _ _ (by omega) (by omega) (by omega) (by omega) (by omega)]; exact hR.1, by rw [zo _ _ (by omega) (by omega) (by omega) (by omega) (by omega)]; exact hR.2.1, fun j hj => by rw [zo _ _ (by omega) (by omega) (by omega) (by omega) (by omega)]; exact hR.2.2.1 j hj, fun j hj => by rw [zo _ _ (by omega) (by omega) (by omega) (by omega) (by omega), zo _ _ (by omega) (by omega) (by omega) (by omega) (by omega), zo _ _ (by omega) (by omega) (by omega) (by omega) (by omega)]; exact hR.2.2.2 j hj⟩ ⟨by rw [← hZ, vu_at]; rfl, fun j hj => by
      rw [← hZ, vu_k (show 4 ≠ 0 by omega), vu_k (show 4 ≠ 3 by omega), vu_k (show 4 ≠ 6 by omega), vu_k (show 4 ≠ 5 by omega), vu_k (show 5 ≠ 0 by omega), vu_k (show 5 ≠ 3 by omega), vu_k (show 5 ≠ 6 by omega), vu_k (show 6 ≠ 0 by omega), vu_k (show 6 ≠ 3 by omega), vu_k (show 3 ≠ 0 by omega)]
      by_cases w : j = i
      · subst w; rw [vu_at, vu_at, vu_at, vu_at]; exact ⟨rfl, rfl, rfl, rfl⟩
      · rw [vu_ne (show ¬ (4 = 4 ∧ j = i) by omega), vu_ne (show ¬ (5 = 5 ∧ j = i) by omega), vu_ne (show ¬ (6 = 6 ∧ j = i) by omega), vu_ne (show ¬ (3 = 3 ∧ j = i) by omega), vu_k (show 5 ≠ 4 by omega), vu_k (show 6 ≠ 5 by omega), vu_k (show 6 ≠ 4 by omega), vu_k (show 3 ≠ 6 by omega), vu_k (show 3 ≠ 5 by omega), vu_k (show 3 ≠ 4 by omega)]
        exact hL.2 j (by omega)⟩
    refine ⟨U, .go ?_ k1, k2, k3, k4, k5, k6, k7, k8, k9, fun k j hk => by rw [k10 k j hk]; exact zo k j (by omega) (by omega) (by omega) (by omega) (by omega)⟩
    rw [sg_X6_lay_38]
    simp (disch := omega) only [↓reduceIte, i_le, i_nle, i_lt, i_nlt, i_eq, i_ne, and_self, and_true, true_and, and_false, false_and, or_true, true_or, or_false, false_or, nx_of, Int.toNat_natCast, Option.bind_some, rm_0, rm_1, rm_2, rm_3, rm_4, rm_5, rm_6, rm_7, rm_8, rm_9, rm_10, rm_11, rm_12, rm_13, rm_14, rm_15, rm_16, rm_17, rm_18, rm_19, rm_20, rm_21, rm_22, rm_23, rm_24, rm_25, rm_26, rm_27, rm_28, rm_29, um_0, um_1, um_2, um_3, um_4, um_5, um_6, um_7, um_8, um_9, um_10, um_11, um_12, um_13, um_14, um_15, um_16, um_17, um_18, um_19, um_20, um_21, um_22, um_23, um_24, um_25, um_26, um_27, um_28, um_29, rm_k, um_k, vu_at, vu_ne, ↓bd c1, c1, e19, e3, e4, e5, r1, r2.1, r2.2.1, r2.2.2]
    rfl
theorem ag_lay {LS : Int} {n : Nat} (hn : 20 ≤ n) {g : nl_H} (r : rg g) : ag LS n m_X5_lay m_X6_lay [] g := by
  have r' : rl g (mv (g 6 0)) := r
  obtain ⟨a1, a2, a3, a4, a5, L, t1, t2, t3, t4⟩ := r'
  have q5 : vu (vu (g 1 0) 5 0 0) 6 0 0 5 0 = 0 := by rw [vu_k (by omega), vu_at]
  have q6 : vu (vu (g 1 0) 5 0 0) 6 0 0 6 0 = 0 := vu_at
  have pk : pok (vu (vu (g 1 0) 5 0 0) 6 0 0) := ⟨by omega, by omega, fun i hi => by omega, fun i hi => by omega⟩
  obtain ⟨pk2, hF⟩ := pAll_in (g 5 0 0) L L 0 pk
  have hL := t3.1
  have hF' : -1 ≤ tF g L ∧ tF g L ≤ 300 := by unfold tF; omega
  have pk3 : pok (tP g L) := pk2
  have w5 := pk3.1
  have w6 := pk3.2.1
  have fm := fun h => sq_fault (LS := LS) (n := n - 1) (by omega) (h := h) (V := mv (g 6 0)) t3 t4 t2 q5 q6
  have eF : (pAll (g 5 0 0) L L 0 (vu (vu (g 1 0) 5 0 0) 6 0 0)).1 = tF g L := rfl
  have eP : (pAll (g 5 0 0) L L 0 (vu (vu (g 1 0) 5 0 0) 6 0 0)).2 = tP g L := rfl
  rw [eF, eP] at fm
  obtain ⟨n, rfl⟩ : ∃ k, n = k + 1 := ⟨n - 1, by omega⟩
  rw [Nat.add_sub_cancel] at fm
  by_cases yes : tF g L = -1 ∧ 2 ≤ tP g L 5 0 ∧ tP g L 5 0 = tP g L 6 0
  · obtain ⟨P, hP, c⟩ := pu_lay1 (LS := LS) (n := n + 1) (by omega) (h := g) t1 t3 w5 yes
    obtain ⟨W, f1, f2, f3⟩ := fm (hLay g P)
    obtain ⟨m, hm⟩ : ∃ m : Nat, tP g L 6 0 = m := ⟨(tP g L 6 0).toNat, by omega⟩
    have h5 : tP g L 5 0 = (m : Int) := by omega
    have hR := f3 yes.1
    rw [if_pos yes.1] at f1
    have e18 : W 18 0 = (m : Int) := by rw [hR.1]; exact h5
    have e19 : W 19 0 = (m : Int) := by rw [hR.2.1]; exact hm
    have z : ∀ k j : Nat, k ≠ 0 → vu W 0 0 0 k j = W k j := fun k j hk => vu_k hk
    obtain ⟨U, k1, k2, k3, k4, k5, k6, k7, k8, k9, k10⟩ := lp_lay38 (LS := LS) (n := n) (by omega) (h := hLay g P) (Q := tP g L) (m := m) (by omega) h5 hm m 0 (vu W 0 0 0) (by omega) ⟨by rw [z _ _ (by omega)]; exact hR.1, by rw [z _ _ (by omega)]; exact hR.2.1, fun j hj => by rw [z _ _ (by omega)]; exact hR.2.2.1 j hj, fun j hj => by rw [z _ _ (by omega), z _ _ (by omega), z _ _ (by omega)]; exact hR.2.2.2 j hj⟩ ⟨vu_at, fun j hj => by omega⟩
    have cm : nl_c LS (n + 1) m_X6_lay [vO 6 0] (sm (hLay g P) (mv (g 6 0))) = some ((m : Int), sm (hLay g P) U) := by
      refine cl_X6_lay (.go ?_ k1)
      rw [sg_X6_lay_0]
      simp (disch := omega) only [↓reduceIte, i_le, i_nle, i_lt, i_nlt, i_eq, i_ne, and_self, and_true, true_and, and_false, false_and, or_true, true_or, or_false, false_or, nx_of, Int.toNat_natCast, Option.bind_some, rm_0, rm_1, rm_2, rm_3, rm_4, rm_5, rm_6, rm_7, rm_8, rm_9, rm_10, rm_11, rm_12, rm_13, rm_14, rm_15, rm_16, rm_17, rm_18, rm_19, rm_20, rm_21, rm_22, rm_23, rm_24, rm_25, rm_26, rm_27, rm_28, rm_29, um_0, um_1, um_2, um_3, um_4, um_5, um_6, um_7, um_8, um_9, um_10, um_11, um_12, um_13, um_14, um_15, um_16, um_17, um_18, um_19, um_20, um_21, um_22, um_23, um_24, um_25, um_26, um_27, um_28, um_29, rm_k, um_k, vu_at, vu_ne, ↓bd f1, f1, e18, e19]
      rfl
    have eh : ∀ c o : Nat, (c ≠ 1 ∧ c ≠ 2 ∧ c ≠ 3 ∧ ¬ (c = 4 ∧ o = 0)) → hLay g P c o = g c o := by
      intro c o hc
      unfold hLay
      rw [so_ne (by omega), so_ne (by omega), so_ne (by omega), so_ne (by omega), so_ne (by omega)]
    refine ag_of rfl c (eh 6 0 (by omega)) cm hm.symm ?_
    have h40 : hLay g P 4 0 = vS2 (g 4 0) P 49 := by
      unfold hLay
      rw [so_ne (by omega), so_ne (by omega), so_ne (by omega), so_at]
    have u0 := k2.1
    have pe : ∀ k i : Nat, k ≠ 4 → k ≠ 7 → P k i = tP g L k i := fun k i h1 h2 => congrFun (hP k h1 h2) i
    have v0 : vS2 (g 4 0) P 49 0 0 = (m : Int) := by
      unfold vS2 vS1
      rw [if_neg (by omega), if_pos (by omega), pe 6 0 (by omega) (by omega), hm, if_neg (by omega)]
    have ve : veq (hLay g P 4 0) U := by
      rw [h40]
      refine ⟨⟨by rw [v0]; exact u0.symm, ?_, ?_⟩, fun k i h1 h2 h3 => ?_, fun i k h1 h2 => ?_⟩
      · unfold vS2 vS1
        rw [if_neg (by omega), if_neg (by omega), if_pos (by omega)]; exact k3.symm
      · unfold vS2 vS1
        rw [if_neg (by omega), if_neg (by omega), if_pos (by omega)]; exact k4.symm
      · rw [v0] at h3
        have kk := k2.2 i (by omega)
        have k5i := k5 i (by omega)
        unfold vS2 vS1
        rw [if_neg (by omega), if_neg (by omega), if_neg (by omega)]
        rcases (show k = 3 ∨ k = 4 ∨ k = 5 ∨ k = 6 ∨ k = 7 ∨ k = 8 ∨ k = 9 by omega) with rfl | rfl | rfl | rfl | rfl | rfl | rfl
        · rw [if_pos (by omega), pe _ _ (by omega) (by omega)]; exact kk.2.2.2.symm
        · rw [if_pos (by omega), pe _ _ (by omega) (by omega)]; exact kk.1.symm
        · rw [if_pos (by omega), pe _ _ (by omega) (by omega)]; exact kk.2.1.symm
        · rw [if_pos (by omega), pe _ _ (by omega) (by omega)]; exact kk.2.2.1.symm
        · rw [if_neg (by omega), if_pos (by omega)]; exact k5i.2.1.symm
        · rw [if_neg (by omega), if_neg (by omega), if_pos (by omega)]; exact k5i.1.symm
        · rw [if_neg (by omega), if_pos (by omega)]; exact k5i.2.2.symm
      · rw [v0] at h1 h2
        unfold vS2
        rw [if_pos (by omega)]; exact (k6 _ (by omega)).symm
    have hvg : vgd U := by
      refine ⟨⟨by rw [u0]; omega, by rw [k3]; omega, by rw [k3, k4]; omega, fun i hi => ?_, fun i k hi hk => ?_⟩, fun i j hi hj e => ?_, by rw [k3]; omega⟩
      · rw [u0] at hi
        have kk := k2.2 i (by omega)
        have k5i := k5 i (by omega)
        have p1 := pk3.2.2.1 i (by omega)
        have p2 := pk3.2.2.2 i (by omega)
        rw [kk.1, kk.2.1, kk.2.2.1, kk.2.2.2, k5i.1, k5i.2.1, k5i.2.2, k3, u0]
        omega
      · rw [u0] at hi hk
        rw [k6 _ (by omega), k3]
        omega
      · rw [u0] at hi hj
        rw [(k5 i (by omega)).1, (k5 j (by omega)).1] at e
        omega
    refine ⟨hvg, ve, ?_, ?_, ?_, ?_⟩
    · have e20 : hLay g P 2 0 = vu (g 2 0) 1 0 0 := by
        unfold hLay
        rw [so_ne (by omega), so_ne (by omega), so_at]
      rw [e20]
      exact rsh_0 a3.1 k8
    · have e21 : hLay g P 2 1 = vu (g 2 1) 1 0 0 := by
        unfold hLay
        rw [so_ne (by omega), so_at]
      rw [e21]
      exact rsh_0 a4.1 k9
    · have e30 : hLay g P 3 0 = vu (g 3 0) 3 0 0 := by
        unfold hLay
        rw [so_at]
      rw [e30]
      exact ⟨⟨by rw [vu_at]; omega, fun i hi => by rw [vu_at] at hi; omega⟩, by rw [vu_at]; exact k7, fun i hi => by rw [vu_at] at hi; omega⟩
    · rw [eh 5 0 (by omega)]
      refine ⟨L, t1, ?_, t3, fun i hi => ?_⟩
      · rw [k10 16 0 (by omega), z _ _ (by omega), f2 16 0 (by omega)]; exact t2
      · rw [k10 15 i (by omega), z _ _ (by omega), f2 15 i (by omega)]; exact t4 i hi
  · obtain ⟨P, c⟩ := pu_lay0 (LS := LS) (n := n + 1) (by omega) (h := g) t1 t3 hF' w5 (by omega) (fun P' hP' => ⟨congrFun (hP' 5 (by omega) (by omega)) 0, congrFun (hP' 6 (by omega) (by omega)) 0⟩) yes
    obtain ⟨W, f1, f2, f3⟩ := fm (so g 1 0 P)
    refine ag_of (V := mv (g 6 0)) (W := W) (b := -2) rfl c (so_ne (by omega)) ?_ rfl (rl_ms (rl_so r (by omega)) (sr_ms f2))
    refine cl_X6_lay (.ret ?_)
    rw [sg_X6_lay_0]
    by_cases q : tF g L = -1
    · rw [if_pos q] at f1
      have hR := f3 q
      have e18 := hR.1
      have e19 := hR.2.1
      by_cases p1 : tP g L 5 0 < 2
      · simp (disch := omega) only [↓reduceIte, i_le, i_nle, i_lt, i_nlt, i_eq, i_ne, and_self, and_true, true_and, and_false, false_and, or_true, true_or, or_false, false_or, nx_of, Int.toNat_natCast, Option.bind_some, rm_0, rm_1, rm_2, rm_3, rm_4, rm_5, rm_6, rm_7, rm_8, rm_9, rm_10, rm_11, rm_12, rm_13, rm_14, rm_15, rm_16, rm_17, rm_18, rm_19, rm_20, rm_21, rm_22, rm_23, rm_24, rm_25, rm_26, rm_27, rm_28, rm_29, um_0, um_1, um_2, um_3, um_4, um_5, um_6, um_7, um_8, um_9, um_10, um_11, um_12, um_13, um_14, um_15, um_16, um_17, um_18, um_19, um_20, um_21, um_22, um_23, um_24, um_25, um_26, um_27, um_28, um_29, rm_k, um_k, vu_at, vu_ne, ↓bd f1, f1, e18, e19]
      · simp (disch := omega) only [↓reduceIte, i_le, i_nle, i_lt, i_nlt, i_eq, i_ne, and_self, and_true, true_and, and_false, false_and, or_true, true_or, or_false, false_or, nx_of, Int.toNat_natCast, Option.bind_some, rm_0, rm_1, rm_2, rm_3, rm_4, rm_5, rm_6, rm_7, rm_8, rm_9, rm_10, rm_11, rm_12, rm_13, rm_14, rm_15, rm_16, rm_17, rm_18, rm_19, rm_20, rm_21, rm_22, rm_23, rm_24, rm_25, rm_26, rm_27, rm_28, rm_29, um_0, um_1, um_2, um_3, um_4, um_5, um_6, um_7, um_8, um_9, um_10, um_11, um_12, um_13, um_14, um_15, um_16, um_17, um_18, um_19, um_20, um_21, um_22, um_23, um_24, um_25, um_26, um_27, um_28, um_29, rm_k, um_k, vu_at, vu_ne, ↓bd f1, f1, e18, e19]
    · rw [if_neg q] at f1
      simp (disch := omega) only [↓reduceIte, i_le, i_nle, i_lt, i_nlt, i_eq, i_ne, and_self, and_true, true_and, and_false, false_and, or_true, true_or, or_false, false_or, nx_of, Int.toNat_natCast, Option.bind_some, rm_0, rm_1, rm_2, rm_3, rm_4, rm_5, rm_6, rm_7, rm_8, rm_9, rm_10, rm_11, rm_12, rm_13, rm_14, rm_15, rm_16, rm_17, rm_18, rm_19, rm_20, rm_21, rm_22, rm_23, rm_24, rm_25, rm_26, rm_27, rm_28, rm_29, um_0, um_1, um_2, um_3, um_4, um_5, um_6, um_7, um_8, um_9, um_10, um_11, um_12, um_13, um_14, um_15, um_16, um_17, um_18, um_19, um_20, um_21, um_22, um_23, um_24, um_25, um_26, um_27, um_28, um_29, rm_k, um_k, vu_at, vu_ne, ↓bd f1, f1]
