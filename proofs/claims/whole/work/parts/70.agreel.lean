/-! Both answer alike: likely. -/
theorem ld_gcd {a b : Nat} (hb : 0 < b) : ∀ d, Nat.gcd a b ≤ d → ld a b d = Nat.gcd a b := by
  have hp : 0 < Nat.gcd a b := Nat.gcd_pos_of_pos_right a hb
  intro d
  induction d with
  | zero => intro h; omega
  | succ d ih =>
    intro h
    simp only [ld]
    by_cases q0 : d = 0
    · rw [if_pos q0]; omega
    · rw [if_neg q0]
      by_cases q : a % (d + 1) = 0 ∧ b % (d + 1) = 0
      · rw [if_pos q]
        have h1 : (d + 1) ∣ Nat.gcd a b := Nat.dvd_gcd (Nat.dvd_of_mod_eq_zero q.1) (Nat.dvd_of_mod_eq_zero q.2)
        have h2 := Nat.le_of_dvd hp h1
        omega
      · rw [if_neg q]
        by_cases p : Nat.gcd a b = d + 1
        · exact absurd ⟨Nat.mod_eq_zero_of_dvd (p ▸ Nat.gcd_dvd_left a b), Nat.mod_eq_zero_of_dvd (p ▸ Nat.gcd_dvd_right a b)⟩ q
        · exact ih (by omega)
theorem ld_g {a b : Nat} (hb : 0 < b) : ld a b b = Nat.gcd a b := ld_gcd hb b (Nat.gcd_le_right a hb)
theorem nl_cmp_0 : nl_cmp 0 0 = 0 := rfl
theorem nl_cmp_p {x : Int} (h : 0 < x) : nl_cmp x 0 = 1 := if_pos h
theorem lp_common {LS : Int} {den : nl_D} {h : nl_H} {y0 y2 : Int} : ∀ (m b a : Nat) (w8 : Option nl_V), b ≤ m → a ≤ 1000 → b ≤ 1000 → nl_Rn LS cd_X6_common den ct_X6_common 2 6 [some (vL y0), none, some (vL y2), none, some (vL (a : Int)), none, some (vL (b : Int)), none, w8, none] h (((Nat.gcd a b : Nat) : Int), h) := by
  have l0 : nl_nl 0 = 0 := nx_ofL (by omega) (by omega)
  intro m
  induction m with
  | zero =>
    intro b a w8 hb ha hb2
    obtain rfl : b = 0 := by omega
    have l1 : nl_nl ((0 : Nat) : Int) = 0 := nx_ofL (by omega) (by omega)
    refine .ret ?_
    rw [sg_X6_common_6, Nat.gcd_zero_right]
    simp (disch := omega) only [↓reduceIte, i_le, i_nle, i_lt, i_nlt, i_eq, i_ne, and_self, and_true, true_and, and_false, false_and, or_true, true_or, or_false, false_or, nx_of, Int.toNat_natCast, Option.bind_some, rm_0, rm_1, rm_2, rm_3, rm_4, rm_5, rm_6, rm_7, rm_8, rm_9, rm_10, rm_11, rm_12, rm_13, rm_14, rm_15, rm_16, rm_17, rm_18, rm_19, rm_20, rm_21, rm_22, rm_23, rm_24, rm_25, rm_26, rm_27, rm_28, rm_29, um_0, um_1, um_2, um_3, um_4, um_5, um_6, um_7, um_8, um_9, um_10, um_11, um_12, um_13, um_14, um_15, um_16, um_17, um_18, um_19, um_20, um_21, um_22, um_23, um_24, um_25, um_26, um_27, um_28, um_29, rm_k, um_k, vu_at, vu_ne, l0, l1, nl_cmp_0]
  | succ m ih =>
    intro b a w8 hb ha hb2
    by_cases q : b = 0
    · subst q
      have l1 : nl_nl ((0 : Nat) : Int) = 0 := nx_ofL (by omega) (by omega)
      refine .ret ?_
      rw [sg_X6_common_6, Nat.gcd_zero_right]
      simp (disch := omega) only [↓reduceIte, i_le, i_nle, i_lt, i_nlt, i_eq, i_ne, and_self, and_true, true_and, and_false, false_and, or_true, true_or, or_false, false_or, nx_of, Int.toNat_natCast, Option.bind_some, rm_0, rm_1, rm_2, rm_3, rm_4, rm_5, rm_6, rm_7, rm_8, rm_9, rm_10, rm_11, rm_12, rm_13, rm_14, rm_15, rm_16, rm_17, rm_18, rm_19, rm_20, rm_21, rm_22, rm_23, rm_24, rm_25, rm_26, rm_27, rm_28, rm_29, um_0, um_1, um_2, um_3, um_4, um_5, um_6, um_7, um_8, um_9, um_10, um_11, um_12, um_13, um_14, um_15, um_16, um_17, um_18, um_19, um_20, um_21, um_22, um_23, um_24, um_25, um_26, um_27, um_28, um_29, rm_k, um_k, vu_at, vu_ne, l0, l1, nl_cmp_0]
    · have l1 : nl_nl (b : Int) = b := nx_ofL (by omega) (by omega)
      have l2 : nl_nl (a : Int) = a := nx_ofL (by omega) (by omega)
      have lm := Nat.mod_lt a (show 0 < b by omega)
      have cp : nl_cmp (b : Int) 0 = 1 := nl_cmp_p (by omega)
      have eg : Nat.gcd a b = Nat.gcd b (a % b) := by rw [Nat.gcd_comm, Nat.gcd_rec, Nat.gcd_comm]
      have et := nx_tm a b
      rw [eg]
      refine .go ?_ (ih (a % b) b (some (vL ((a % b : Nat) : Int))) (by omega) (by omega) (by omega))
      rw [sg_X6_common_6]
      simp (disch := omega) only [↓reduceIte, i_le, i_nle, i_lt, i_nlt, i_eq, i_ne, and_self, and_true, true_and, and_false, false_and, or_true, true_or, or_false, false_or, nx_of, Int.toNat_natCast, Option.bind_some, rm_0, rm_1, rm_2, rm_3, rm_4, rm_5, rm_6, rm_7, rm_8, rm_9, rm_10, rm_11, rm_12, rm_13, rm_14, rm_15, rm_16, rm_17, rm_18, rm_19, rm_20, rm_21, rm_22, rm_23, rm_24, rm_25, rm_26, rm_27, rm_28, rm_29, um_0, um_1, um_2, um_3, um_4, um_5, um_6, um_7, um_8, um_9, um_10, um_11, um_12, um_13, um_14, um_15, um_16, um_17, um_18, um_19, um_20, um_21, um_22, um_23, um_24, um_25, um_26, um_27, um_28, um_29, rm_k, um_k, vu_at, vu_ne, l0, l1, l2, cp, et]
theorem sq_common {LS : Int} {n : Nat} (hn : 1 ≤ n) {h : nl_H} {a b : Nat} (ha : a ≤ 1000) (hb : b ≤ 1000) : nl_c LS n m_X6_common [vL (a : Int), vL (b : Int)] h = some (((Nat.gcd a b : Nat) : Int), h) := by
  obtain ⟨n, rfl, hn1⟩ := nl_suc hn
  refine cl_X6_common (.go ?_ (lp_common (y0 := (a : Int)) (y2 := (b : Int)) b b a none (by omega) ha hb))
  rw [sg_X6_common_0]
theorem vMst_7 (W : nl_O) (j : Nat) (x : Int) (i : Nat) : ∀ k, vMst (vu W 7 j x) i k = vMst W i k := by
  intro k
  induction k with
  | zero => rfl
  | succ k ih => simp only [vMst]; rw [ih, vu_k (by omega)]
theorem vHv_7 (W : nl_O) (j : Nat) (x : Int) (i k : Nat) : vHv (vu W 7 j x) i k = vHv W i k := by
  have eN : vN (vu W 7 j x) = vN W := by unfold vN; rw [vu_k (by omega)]
  unfold vHv
  rw [vMst_7, eN, vu_k (show 4 ≠ 7 by omega), vu_k (show 3 ≠ 7 by omega), vu_k (show 0 ≠ 7 by omega)]
theorem vTi_ok {N : Int} {V : nl_O} (hV : vok N V) {i : Nat} {x : Int} (hx : 0 ≤ x ∧ x ≤ 40) : vok N (vu V 7 i x) := by
  obtain ⟨w1, w2, w3, w4, w5⟩ := hV
  have z : ∀ k j, k ≠ 7 → vu V 7 i x k j = V k j := fun k j h => vu_k h
  refine ⟨by rw [z 0 0 (by omega)]; exact w1, by rw [z 1 0 (by omega)]; exact w2, by rw [z 2 0 (by omega)]; exact w3, fun j hj => ?_, fun j k hj hk => ?_⟩
  · rw [z 0 0 (by omega)] at hj ⊢
    rw [z 3 j (by omega), z 4 j (by omega), z 5 j (by omega), z 6 j (by omega), z 8 j (by omega), z 9 j (by omega)]
    have b := w4 j hj
    refine ⟨b.1, b.2.1, b.2.2.1, b.2.2.2.1, ?_, b.2.2.2.2.2.1, b.2.2.2.2.2.2⟩
    by_cases q : j = i
    · subst q; rw [vu_at]; exact hx
    · rw [vu_ne (by omega)]; exact b.2.2.2.2.1
  · rw [z 0 0 (by omega)] at hj hk
    rw [z 10 _ (by omega)]
    exact w5 j k hj hk
theorem lp_likely6 {LS : Int} {n : Nat} (hn : 4 ≤ n) {h : nl_H} {V : nl_O} {N x u z : Int} {i : Nat} (hN : N ≤ 100000) (hV : vok N V) (hi : (i : Int) < V 0 0) (hx : 0 ≤ x ∧ x ≤ 9) (hu : u = if 40 < V 7 i + x then 40 else V 7 i + x) (hz : z = 0 ∨ z = 1) : ∀ (d k : Nat) (g : Int), (k : Int) + d = V 0 0 → 0 ≤ g → g ≤ 10 * k → nl_Rn LS cd_X6_likely (nl_c LS n) ct_X6_likely 1 43 [some (vO 6 0), some (vI (i : Int)), some (vI x), some (vI z), some (vI (V 7 i)), some (vL g), none, some (vI (k : Int)), none, none, none] (sm h V) (lkA V (vAb V i x (V 7 i) u d k g) z, sm h V) := by
  have h0 := hV.1
  have e := vN_eq hV
  have b7 := (hV.2.2.2.1 i hi).2.2.2.2.1
  have hu2 : 0 ≤ u ∧ u ≤ 40 := by rw [hu]; split <;> omega
  intro d
  induction d with
  | zero =>
    intro k g hk hg1 hg2
    obtain ⟨G, rfl⟩ : ∃ G : Nat, g = G := ⟨g.toNat, by omega⟩
    have e10 : 10 * (V 0 0) = ((10 * vN V : Nat) : Int) := by omega
    have c1 := sq_common (LS := LS) (n := n) (by omega) (h := sm h V) (a := G) (b := 10 * vN V) (by omega) (by omega)
    have hp : 0 < Nat.gcd G (10 * vN V) := Nat.gcd_pos_of_pos_right G (by omega)
    have hq := Nat.gcd_le_right (n := 10 * vN V) G (by omega)
    have l1 : nl_nl (G : Int) = G := nx_ofL (by omega) (by omega)
    have l2 : nl_nl ((10 * vN V : Nat) : Int) = ((10 * vN V : Nat) : Int) := nx_ofL (by omega) (by omega)
    have l3 : nl_nl ((Nat.gcd G (10 * vN V) : Nat) : Int) = ((Nat.gcd G (10 * vN V) : Nat) : Int) := nx_ofL (by omega) (by omega)
    have t1 := nx_td G (Nat.gcd G (10 * vN V))
    have t2 := nx_td (10 * vN V) (Nat.gcd G (10 * vN V))
    have g0 : ((Nat.gcd G (10 * vN V) : Nat) : Int) ≠ 0 := by omega
    refine .ret ?_
    rw [sg_X6_likely_43]
    simp only [vAb, lkA]
    rw [Int.toNat_natCast, ld_g (show 0 < 10 * vN V by omega)]
    rcases hz with rfl | rfl
    · simp (disch := omega) only [↓reduceIte, i_le, i_nle, i_lt, i_nlt, i_eq, i_ne, and_self, and_true, true_and, and_false, false_and, or_true, true_or, or_false, false_or, nx_of, Int.toNat_natCast, Option.bind_some, rm_0, rm_1, rm_2, rm_3, rm_4, rm_5, rm_6, rm_7, rm_8, rm_9, rm_10, rm_11, rm_12, rm_13, rm_14, rm_15, rm_16, rm_17, rm_18, rm_19, rm_20, rm_21, rm_22, rm_23, rm_24, rm_25, rm_26, rm_27, rm_28, rm_29, um_0, um_1, um_2, um_3, um_4, um_5, um_6, um_7, um_8, um_9, um_10, um_11, um_12, um_13, um_14, um_15, um_16, um_17, um_18, um_19, um_20, um_21, um_22, um_23, um_24, um_25, um_26, um_27, um_28, um_29, rm_k, um_k, vu_at, vu_ne, ↓bd c1, c1, e10, l1, l2, l3, t1, t2]
    · simp (disch := omega) only [↓reduceIte, i_le, i_nle, i_lt, i_nlt, i_eq, i_ne, and_self, and_true, true_and, and_false, false_and, or_true, true_or, or_false, false_or, nx_of, Int.toNat_natCast, Option.bind_some, rm_0, rm_1, rm_2, rm_3, rm_4, rm_5, rm_6, rm_7, rm_8, rm_9, rm_10, rm_11, rm_12, rm_13, rm_14, rm_15, rm_16, rm_17, rm_18, rm_19, rm_20, rm_21, rm_22, rm_23, rm_24, rm_25, rm_26, rm_27, rm_28, rm_29, um_0, um_1, um_2, um_3, um_4, um_5, um_6, um_7, um_8, um_9, um_10, um_11, um_12, um_13, um_14, um_15, um_16, um_17, um_18, um_19, um_20, um_21, um_22, um_23, um_24, um_25, um_26, um_27, um_28, um_29, rm_k, um_k, vu_at, vu_ne, ↓bd c1, c1, e10, l1, l2, l3, t1, t2]
  | succ d ih =>
    intro k g hk hg1 hg2
    have c2 := sq_lesser (LS := LS) (n := n) (by omega) (h := sm h V) (b := V 7 i + x) (by omega)
    rw [← hu] at c2
    have hT := vTi_ok (i := i) hV hu2
    have z0 : vu V 7 i u 0 0 = V 0 0 := vu_k (by omega)
    have c3 := sq_keeps (LS := LS) (n := n) hn (h := h) (V := vu V 7 i u) (i := i) (k := k) hN hT (by omega) (by omega)
    rw [vHv_7, vu_at, vu_k (show 5 ≠ 7 by omega)] at c3
    have c4 := sq_keeps (LS := LS) (n := n) hn (h := h) (V := V) (i := i) (k := k) hN hV (by omega) (by omega)
    have ev : vu (vu V 7 i u) 7 i (V 7 i) = V := by rw [vu_vu, vu_self]
    have k9 := ih (k + 1) (g + (if vHv V i k ≤ V 5 i - V 7 i then 10 - x else 0) + (if vHv V i k ≤ V 5 i - u then x else 0)) (by omega) (by split <;> split <;> omega) (by split <;> split <;> omega)
    have ea : vAb V i x (V 7 i) u d (k + 1) (g + (if vHv V i k ≤ V 5 i - V 7 i then 10 - x else 0) + (if vHv V i k ≤ V 5 i - u then x else 0)) = vAb V i x (V 7 i) u (d + 1) k g := rfl
    rw [ea] at k9
    refine .go ?_ k9
    rw [sg_X6_likely_43]
    by_cases q1 : vHv V i k ≤ V 5 i - V 7 i <;> by_cases q2 : vHv V i k ≤ V 5 i - u
    · rw [if_pos q1] at c4
      rw [if_pos q2] at c3
      rw [if_pos q1, if_pos q2, show g + (10 - x) + x = g + x + (10 - x) by omega]
      simp (disch := omega) only [↓reduceIte, i_le, i_nle, i_lt, i_nlt, i_eq, i_ne, and_self, and_true, true_and, and_false, false_and, or_true, true_or, or_false, false_or, nx_of, Int.toNat_natCast, Option.bind_some, rm_0, rm_1, rm_2, rm_3, rm_4, rm_5, rm_6, rm_7, rm_8, rm_9, rm_10, rm_11, rm_12, rm_13, rm_14, rm_15, rm_16, rm_17, rm_18, rm_19, rm_20, rm_21, rm_22, rm_23, rm_24, rm_25, rm_26, rm_27, rm_28, rm_29, um_0, um_1, um_2, um_3, um_4, um_5, um_6, um_7, um_8, um_9, um_10, um_11, um_12, um_13, um_14, um_15, um_16, um_17, um_18, um_19, um_20, um_21, um_22, um_23, um_24, um_25, um_26, um_27, um_28, um_29, rm_k, um_k, vu_at, vu_ne, ↓bd c2, ↓bd c3, ↓bd c4, c2, c3, c4, ev]
      rfl
    · rw [if_pos q1] at c4
      rw [if_neg q2] at c3
      rw [if_pos q1, if_neg q2, show g + (10 - x) + 0 = g + 0 + (10 - x) by omega]
      simp (disch := omega) only [↓reduceIte, i_le, i_nle, i_lt, i_nlt, i_eq, i_ne, and_self, and_true, true_and, and_false, false_and, or_true, true_or, or_false, false_or, nx_of, Int.toNat_natCast, Option.bind_some, rm_0, rm_1, rm_2, rm_3, rm_4, rm_5, rm_6, rm_7, rm_8, rm_9, rm_10, rm_11, rm_12, rm_13, rm_14, rm_15, rm_16, rm_17, rm_18, rm_19, rm_20, rm_21, rm_22, rm_23, rm_24, rm_25, rm_26, rm_27, rm_28, rm_29, um_0, um_1, um_2, um_3, um_4, um_5, um_6, um_7, um_8, um_9, um_10, um_11, um_12, um_13, um_14, um_15, um_16, um_17, um_18, um_19, um_20, um_21, um_22, um_23, um_24, um_25, um_26, um_27, um_28, um_29, rm_k, um_k, vu_at, vu_ne, ↓bd c2, ↓bd c3, ↓bd c4, c2, c3, c4, ev]
      rfl
    · have : V 7 i ≤ u := by rw [hu]; split <;> omega
      exfalso
      omega
    · rw [if_neg q1] at c4
      rw [if_neg q2] at c3
      rw [if_neg q1, if_neg q2]
      simp (disch := omega) only [↓reduceIte, i_le, i_nle, i_lt, i_nlt, i_eq, i_ne, and_self, and_true, true_and, and_false, false_and, or_true, true_or, or_false, false_or, nx_of, Int.toNat_natCast, Option.bind_some, rm_0, rm_1, rm_2, rm_3, rm_4, rm_5, rm_6, rm_7, rm_8, rm_9, rm_10, rm_11, rm_12, rm_13, rm_14, rm_15, rm_16, rm_17, rm_18, rm_19, rm_20, rm_21, rm_22, rm_23, rm_24, rm_25, rm_26, rm_27, rm_28, rm_29, um_0, um_1, um_2, um_3, um_4, um_5, um_6, um_7, um_8, um_9, um_10, um_11, um_12, um_13, um_14, um_15, um_16, um_17, um_18, um_19, um_20, um_21, um_22, um_23, um_24, um_25, um_26, um_27, um_28, um_29, rm_k, um_k, vu_at, vu_ne, ↓bd c2, ↓bd c3, ↓bd c4, c2, c3, c4, ev]
      rfl
theorem sq_likely {LS : Int} {n : Nat} (hn : 5 ≤ n) {h : nl_H} {V : nl_O} {x y z N : Int} (hx : nl_inR x) (hy : nl_inR y) (hz : nl_inR z) (hN : N ≤ 100000) (hV : vok N V) : nl_c LS n m_X6_likely [vO 6 0, vI x, vI y, vI z] (sm h V) = some (rLikely V x y z, sm h V) := by
  obtain ⟨n, rfl, hn1⟩ := nl_suc hn
  have h0 := hV.1
  have e := vN_eq hV
  have c1 := sq_isOne (LS := LS) (n := n) (by omega) (h := h) (V := V) hx (by omega)
  have c2 := sq_in (LS := LS) (n := n) (by omega) (h := sm h V) (x := y) (a := 0) (b := 9) hy (by omega) (by omega)
  have c3 := sq_in (LS := LS) (n := n) (by omega) (h := sm h V) (x := z) (a := 0) (b := 1) hz (by omega) (by omega)
  obtain ⟨hx1, hx2⟩ := hx
  obtain ⟨hy1, hy2⟩ := hy
  obtain ⟨hz1, hz2⟩ := hz
  unfold rLikely
  by_cases q1 : 0 ≤ x ∧ x < V 0 0
  · rw [if_pos q1] at c1
    by_cases q2 : 0 ≤ y ∧ y ≤ 9
    · rw [if_pos q2] at c2
      by_cases q3 : 0 ≤ z ∧ z ≤ 1
      · rw [if_pos q3] at c3
        rw [if_pos ⟨q1, q2, q3⟩]
        obtain ⟨i, rfl⟩ : ∃ i : Nat, x = i := ⟨x.toNat, by omega⟩
        rw [Int.toNat_natCast]
        have k9 := lp_likely6 (LS := LS) hn1 (h := h) (i := i) (x := y) (z := z) hN hV q1.2 q2 rfl (by omega) (vN V) 0 0 (by omega) (by omega) (by omega)
        refine cl_X6_likely (.go ?_ k9)
        rw [sg_X6_likely_0]
        simp (disch := omega) only [↓reduceIte, i_le, i_nle, i_lt, i_nlt, i_eq, i_ne, and_self, and_true, true_and, and_false, false_and, or_true, true_or, or_false, false_or, nx_of, Int.toNat_natCast, Option.bind_some, rm_0, rm_1, rm_2, rm_3, rm_4, rm_5, rm_6, rm_7, rm_8, rm_9, rm_10, rm_11, rm_12, rm_13, rm_14, rm_15, rm_16, rm_17, rm_18, rm_19, rm_20, rm_21, rm_22, rm_23, rm_24, rm_25, rm_26, rm_27, rm_28, rm_29, um_0, um_1, um_2, um_3, um_4, um_5, um_6, um_7, um_8, um_9, um_10, um_11, um_12, um_13, um_14, um_15, um_16, um_17, um_18, um_19, um_20, um_21, um_22, um_23, um_24, um_25, um_26, um_27, um_28, um_29, rm_k, um_k, vu_at, vu_ne, ↓bd c1, ↓bd c2, ↓bd c3, c1, c2, c3]
        rfl
      · rw [if_neg q3] at c3
        rw [if_neg (by omega)]
        refine cl_X6_likely (.ret ?_)
        rw [sg_X6_likely_0]
        simp (disch := omega) only [↓reduceIte, i_le, i_nle, i_lt, i_nlt, i_eq, i_ne, and_self, and_true, true_and, and_false, false_and, or_true, true_or, or_false, false_or, nx_of, Int.toNat_natCast, Option.bind_some, rm_0, rm_1, rm_2, rm_3, rm_4, rm_5, rm_6, rm_7, rm_8, rm_9, rm_10, rm_11, rm_12, rm_13, rm_14, rm_15, rm_16, rm_17, rm_18, rm_19, rm_20, rm_21, rm_22, rm_23, rm_24, rm_25, rm_26, rm_27, rm_28, rm_29, um_0, um_1, um_2, um_3, um_4, um_5, um_6, um_7, um_8, um_9, um_10, um_11, um_12, um_13, um_14, um_15, um_16, um_17, um_18, um_19, um_20, um_21, um_22, um_23, um_24, um_25, um_26, um_27, um_28, um_29, rm_k, um_k, vu_at, vu_ne, ↓bd c1, ↓bd c2, ↓bd c3, c1, c2, c3]
    · rw [if_neg q2] at c2
      rw [if_neg (by omega)]
      refine cl_X6_likely (.ret ?_)
      rw [sg_X6_likely_0]
      simp (disch := omega) only [↓reduceIte, i_le, i_nle, i_lt, i_nlt, i_eq, i_ne, and_self, and_true, true_and, and_false, false_and, or_true, true_or, or_false, false_or, nx_of, Int.toNat_natCast, Option.bind_some, rm_0, rm_1, rm_2, rm_3, rm_4, rm_5, rm_6, rm_7, rm_8, rm_9, rm_10, rm_11, rm_12, rm_13, rm_14, rm_15, rm_16, rm_17, rm_18, rm_19, rm_20, rm_21, rm_22, rm_23, rm_24, rm_25, rm_26, rm_27, rm_28, rm_29, um_0, um_1, um_2, um_3, um_4, um_5, um_6, um_7, um_8, um_9, um_10, um_11, um_12, um_13, um_14, um_15, um_16, um_17, um_18, um_19, um_20, um_21, um_22, um_23, um_24, um_25, um_26, um_27, um_28, um_29, rm_k, um_k, vu_at, vu_ne, ↓bd c1, ↓bd c2, c1, c2]
  · rw [if_neg q1] at c1
    rw [if_neg (by omega)]
    refine cl_X6_likely (.ret ?_)
    rw [sg_X6_likely_0]
    simp (disch := omega) only [↓reduceIte, i_le, i_nle, i_lt, i_nlt, i_eq, i_ne, and_self, and_true, true_and, and_false, false_and, or_true, true_or, or_false, false_or, nx_of, Int.toNat_natCast, Option.bind_some, rm_0, rm_1, rm_2, rm_3, rm_4, rm_5, rm_6, rm_7, rm_8, rm_9, rm_10, rm_11, rm_12, rm_13, rm_14, rm_15, rm_16, rm_17, rm_18, rm_19, rm_20, rm_21, rm_22, rm_23, rm_24, rm_25, rm_26, rm_27, rm_28, rm_29, um_0, um_1, um_2, um_3, um_4, um_5, um_6, um_7, um_8, um_9, um_10, um_11, um_12, um_13, um_14, um_15, um_16, um_17, um_18, um_19, um_20, um_21, um_22, um_23, um_24, um_25, um_26, um_27, um_28, um_29, rm_k, um_k, vu_at, vu_ne, ↓bd c1, c1]
theorem vAb_veq {N : Int} {V W : nl_O} (hV : vok N V) (h : veq V W) {i : Nat} (hi : (i : Int) < V 0 0) {x t u : Int} : ∀ (d k : Nat) (g : Int), (k : Int) + d ≤ V 0 0 → vAb V i x t u d k g = vAb W i x t u d k g := by
  intro d
  induction d with
  | zero => intro k g _; rfl
  | succ d ih =>
    intro k g hk
    simp only [vAb]
    rw [vHv_veq hV h hi (k := k) (by omega), h.2.1 5 i (by omega) (by omega) hi, ih _ _ (by omega)]
theorem ag_likely {LS : Int} {n : Nat} (hn : 20 ≤ n) {g : nl_H} (r : rg g) {x y z : Int} (hx : nl_inR x) (hy : nl_inR y) (hz : nl_inR z) : ag LS n m_X5_likely m_X6_likely [vI x, vI y, vI z] g := by
  have hV := vgd_N r.1
  have a2 := r.2.1
  have hW := vok_veq hV a2
  have e0 := a2.1.1
  have e := vN_eq hW
  refine ag_of rfl (pu_likely (by omega) hx hy hz (by omega) hW) rfl (sq_likely (by omega) hx hy hz (by omega) hV) ?_ r
  unfold rLikely
  by_cases q : (0 ≤ x ∧ x < mv (g 6 0) 0 0) ∧ (0 ≤ y ∧ y ≤ 9) ∧ 0 ≤ z ∧ z ≤ 1
  · have q' : (0 ≤ x ∧ x < g 4 0 0 0) ∧ (0 ≤ y ∧ y ≤ 9) ∧ 0 ≤ z ∧ z ≤ 1 := by omega
    rw [if_pos q, if_pos q', vAb_veq hW a2 (i := x.toNat) (by omega) _ _ _ (by omega), a2.2.1 7 x.toNat (by omega) (by omega) (by omega), vN_veq a2]
    unfold lkA
    rw [vN_veq a2]
  · have q' : ¬ ((0 ≤ x ∧ x < g 4 0 0 0) ∧ (0 ≤ y ∧ y ≤ 9) ∧ 0 ≤ z ∧ z ≤ 1) := by omega
    rw [if_neg q, if_neg q']
