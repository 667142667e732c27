/-! The model reads a text: numbers, items. -/
theorem sq_here {LS : Int} {n : Nat} (hn : 1 ≤ n) {h : nl_H} {V : nl_O} {L p : Nat} (h16 : V 16 0 = (L : Int)) (h17 : V 17 0 = (p : Int)) (hL : L ≤ 200) (hp : p ≤ 300) : nl_c LS n m_X6_here [vO 6 0] (sm h V) = some (if p < L then V 15 p else 0, sm h V) := by
  obtain ⟨n, rfl, hn1⟩ := nl_suc hn
  refine cl_X6_here (.ret ?_)
  rw [sg_X6_here_0]
  by_cases q : p < L
  · rw [if_pos q]
    simp (disch := omega) only [↓reduceIte, i_le, i_nle, i_lt, i_nlt, i_eq, i_ne, and_self, and_true, true_and, and_false, false_and, or_true, true_or, or_false, false_or, nx_of, Int.toNat_natCast, Option.bind_some, rm_0, rm_1, rm_2, rm_3, rm_4, rm_5, rm_6, rm_7, rm_8, rm_9, rm_10, rm_11, rm_12, rm_13, rm_14, rm_15, rm_16, rm_17, rm_18, rm_19, rm_20, rm_21, rm_22, rm_23, rm_24, rm_25, rm_26, rm_27, rm_28, rm_29, um_0, um_1, um_2, um_3, um_4, um_5, um_6, um_7, um_8, um_9, um_10, um_11, um_12, um_13, um_14, um_15, um_16, um_17, um_18, um_19, um_20, um_21, um_22, um_23, um_24, um_25, um_26, um_27, um_28, um_29, rm_k, um_k, vu_at, vu_ne, h16, h17]
  · rw [if_neg q]
    simp (disch := omega) only [↓reduceIte, i_le, i_nle, i_lt, i_nlt, i_eq, i_ne, and_self, and_true, true_and, and_false, false_and, or_true, true_or, or_false, false_or, nx_of, Int.toNat_natCast, Option.bind_some, rm_0, rm_1, rm_2, rm_3, rm_4, rm_5, rm_6, rm_7, rm_8, rm_9, rm_10, rm_11, rm_12, rm_13, rm_14, rm_15, rm_16, rm_17, rm_18, rm_19, rm_20, rm_21, rm_22, rm_23, rm_24, rm_25, rm_26, rm_27, rm_28, rm_29, um_0, um_1, um_2, um_3, um_4, um_5, um_6, um_7, um_8, um_9, um_10, um_11, um_12, um_13, um_14, um_15, um_16, um_17, um_18, um_19, um_20, um_21, um_22, um_23, um_24, um_25, um_26, um_27, um_28, um_29, rm_k, um_k, vu_at, vu_ne, h16, h17]
theorem sq_isFigure {LS : Int} {n : Nat} (hn : 2 ≤ n) {h : nl_H} {V : nl_O} {L p : Nat} (h16 : V 16 0 = (L : Int)) (h17 : V 17 0 = (p : Int)) (hT : tok (V 15) L) (hp : p ≤ 300) : nl_c LS n m_X6_isFigure [vO 6 0] (sm h V) = some (if p < L ∧ 48 ≤ V 15 p ∧ V 15 p ≤ 57 then 1 else 0, sm h V) := by
  obtain ⟨n, rfl, hn1⟩ := nl_suc hn
  have hL := hT.1
  have c1 := sq_here (LS := LS) hn1 (h := h) h16 h17 hL hp
  refine cl_X6_isFigure (.ret ?_)
  rw [sg_X6_isFigure_0]
  by_cases q : p < L
  · have t := hT.2 p q
    have c2 := sq_in (LS := LS) hn1 (h := sm h V) (x := V 15 p) (a := 48) (b := 57) ⟨by omega, by omega⟩ (by omega) (by omega)
    rw [if_pos q] at c1
    by_cases q2 : 48 ≤ V 15 p ∧ V 15 p ≤ 57
    · rw [if_pos q2] at c2
      rw [if_pos ⟨q, q2⟩]
      simp (disch := omega) only [↓reduceIte, i_le, i_nle, i_lt, i_nlt, i_eq, i_ne, and_self, and_true, true_and, and_false, false_and, or_true, true_or, or_false, false_or, nx_of, Int.toNat_natCast, Option.bind_some, rm_0, rm_1, rm_2, rm_3, rm_4, rm_5, rm_6, rm_7, rm_8, rm_9, rm_10, rm_11, rm_12, rm_13, rm_14, rm_15, rm_16, rm_17, rm_18, rm_19, rm_20, rm_21, rm_22, rm_23, rm_24, rm_25, rm_26, rm_27, rm_28, rm_29, um_0, um_1, um_2, um_3, um_4, um_5, um_6, um_7, um_8, um_9, um_10, um_11, um_12, um_13, um_14, um_15, um_16, um_17, um_18, um_19, um_20, um_21, um_22, um_23, um_24, um_25, um_26, um_27, um_28, um_29, rm_k, um_k, vu_at, vu_ne, ↓bd c1, ↓bd c2, c1, c2]
    · rw [if_neg q2] at c2
      rw [if_neg (fun z => q2 z.2)]
      simp (disch := omega) only [↓reduceIte, i_le, i_nle, i_lt, i_nlt, i_eq, i_ne, and_self, and_true, true_and, and_false, false_and, or_true, true_or, or_false, false_or, nx_of, Int.toNat_natCast, Option.bind_some, rm_0, rm_1, rm_2, rm_3, rm_4, rm_5, rm_6, rm_7, rm_8, rm_9, rm_10, rm_11, rm_12, rm_13, rm_14, rm_15, rm_16, rm_17, rm_18, rm_19, rm_20, rm_21, rm_22, rm_23, rm_24, rm_25, rm_26, rm_27, rm_28, rm_29, um_0, um_1, um_2, um_3, um_4, um_5, um_6, um_7, um_8, um_9, um_10, um_11, um_12, um_13, um_14, um_15, um_16, um_17, um_18, um_19, um_20, um_21, um_22, um_23, um_24, um_25, um_26, um_27, um_28, um_29, rm_k, um_k, vu_at, vu_ne, ↓bd c1, ↓bd c2, c1, c2]
  · have c2 := sq_in (LS := LS) hn1 (h := sm h V) (x := 0) (a := 48) (b := 57) ⟨by omega, by omega⟩ (by omega) (by omega)
    rw [if_neg q] at c1
    rw [if_neg (by omega)] at c2
    rw [if_neg (fun z => q z.1)]
    simp (disch := omega) only [↓reduceIte, i_le, i_nle, i_lt, i_nlt, i_eq, i_ne, and_self, and_true, true_and, and_false, false_and, or_true, true_or, or_false, false_or, nx_of, Int.toNat_natCast, Option.bind_some, rm_0, rm_1, rm_2, rm_3, rm_4, rm_5, rm_6, rm_7, rm_8, rm_9, rm_10, rm_11, rm_12, rm_13, rm_14, rm_15, rm_16, rm_17, rm_18, rm_19, rm_20, rm_21, rm_22, rm_23, rm_24, rm_25, rm_26, rm_27, rm_28, rm_29, um_0, um_1, um_2, um_3, um_4, um_5, um_6, um_7, um_8, um_9, um_10, um_11, um_12, um_13, um_14, um_15, um_16, um_17, um_18, um_19, um_20, um_21, um_22, um_23, um_24, um_25, um_26, um_27, um_28, um_29, rm_k, um_k, vu_at, vu_ne, ↓bd c1, ↓bd c2, c1, c2]
/-- all but where it reads and the number read -/
def s2 (W V : nl_O) : Prop := ∀ k i : Nat, k ≠ 17 → k ≠ 22 → W k i = V k i
def nOk (T : Nat → Int) (L p : Nat) (hi en : Int) : Prop := (p < (rn T L p).2 ∧ (rn T L p).2 < L ∧ T (rn T L p).2 = en) ∧ (rn T L p).1 ≤ hi
theorem sq_number {LS : Int} {n : Nat} (hn : 3 ≤ n) {h : nl_H} {V : nl_O} {L p : Nat} {hi en : Int} (h16 : V 16 0 = (L : Int)) (h17 : V 17 0 = (p : Int)) (hT : tok (V 15) L) (hp : p ≤ 250) (hh : 0 ≤ hi ∧ hi ≤ 99) (he : 40 ≤ en ∧ en ≤ 60) : ∃ W a, nl_c LS n m_X6_number [vO 6 0, vI 0, vI hi, vI en] (sm h V) = some (a, sm h W) ∧ s2 W V ∧ ((nOk (V 15) L p hi en ∧ a = 1 ∧ W 17 0 = (((rn (V 15) L p).2 + 1 : Nat) : Int) ∧ W 22 0 = (rn (V 15) L p).1) ∨ (¬ nOk (V 15) L p hi en ∧ a = 0)) := by
  obtain ⟨n, rfl, hn1⟩ := nl_suc hn
  have hL := hT.1
  have c1 := sq_isFigure (LS := LS) (n := n) (by omega) (h := h) h16 h17 hT (by omega)
  by_cases q : p < L ∧ 48 ≤ V 15 p ∧ V 15 p ≤ 57
  · rw [if_pos q] at c1
    have c2 := sq_here (LS := LS) (n := n) (by omega) (h := h) h16 h17 hL (by omega)
    rw [if_pos q.1] at c2
    have g16 : vu V 17 0 ((p : Int) + 1) 16 0 = (L : Int) := by rw [vu_k (by omega)]; exact h16
    have g17 : vu V 17 0 ((p : Int) + 1) 17 0 = ((p + 1 : Nat) : Int) := by rw [vu_at]; rfl
    have g15 : ∀ j, vu V 17 0 ((p : Int) + 1) 15 j = V 15 j := fun j => vu_k (by omega)
    have gT : tok (vu V 17 0 ((p : Int) + 1) 15) L := ⟨hL, fun j hj => by rw [g15]; exact hT.2 j hj⟩
    have c3 := sq_isFigure (LS := LS) (n := n) (by omega) (h := h) g16 g17 gT (by omega)
    rw [g15] at c3
    by_cases q2 : p + 1 < L ∧ 48 ≤ V 15 (p + 1) ∧ V 15 (p + 1) ≤ 57
    · rw [if_pos q2] at c3
      have c4 := sq_here (LS := LS) (n := n) (by omega) (h := h) g16 g17 hL (by omega)
      rw [if_pos q2.1, g15] at c4
      have er : rn (V 15) L p = ((V 15 p - 48) * 10 + V 15 (p + 1) - 48, p + 2) := by unfold rn; rw [if_pos q, if_pos q2]
      generalize hv : 10 * (V 15 p - 48) + V 15 (p + 1) - 48 = v
      have ev : (V 15 p - 48) * 10 + V 15 (p + 1) - 48 = v := by omega
      rw [ev] at er
      have f16 : vu (vu (vu V 17 0 ((p : Int) + 1)) 17 0 ((p : Int) + 1 + 1)) 22 0 v 16 0 = (L : Int) := by rw [vu_k (by omega), vu_k (by omega)]; exact g16
      have f17 : vu (vu (vu V 17 0 ((p : Int) + 1)) 17 0 ((p : Int) + 1 + 1)) 22 0 v 17 0 = ((p + 2 : Nat) : Int) := by rw [vu_k (by omega), vu_at]; omega
      have f15 : ∀ j, vu (vu (vu V 17 0 ((p : Int) + 1)) 17 0 ((p : Int) + 1 + 1)) 22 0 v 15 j = V 15 j := fun j => by rw [vu_k (by omega), vu_k (by omega)]; exact g15 j
      have c5 := sq_here (LS := LS) (n := n) (by omega) (h := h) f16 f17 hL (by omega)
      rw [f15] at c5
      have c6 := sq_in (LS := LS) (n := n) (by omega) (h := sm h (vu (vu (vu V 17 0 ((p : Int) + 1)) 17 0 ((p : Int) + 1 + 1)) 22 0 v)) (x := v) (a := 0) (b := hi) ⟨by omega, by omega⟩ (by omega) (by omega)
      by_cases q3 : p + 2 < L ∧ V 15 (p + 2) = en
      · rw [if_pos q3.1] at c5
        have t5 := hT.2 _ q3.1
        by_cases q4 : v ≤ hi
        · rw [if_pos (by omega)] at c6
          refine ⟨vu (vu (vu (vu V 17 0 ((p : Int) + 1)) 17 0 ((p : Int) + 1 + 1)) 22 0 v) 17 0 ((p : Int) + 1 + 1 + 1), 1, cl_X6_number (.ret ?_), fun k i k1 k2 => by rw [vu_k k1, vu_k k2, vu_k k1, vu_k k1], .inl ⟨?_, rfl, ?_, ?_⟩⟩
          · rw [sg_X6_number_0]
            simp (disch := omega) only [↓reduceIte, i_le, i_nle, i_lt, i_nlt, i_eq, i_ne, and_self, and_true, true_and, and_false, false_and, or_true, true_or, or_false, false_or, nx_of, Int.toNat_natCast, Option.bind_some, rm_0, rm_1, rm_2, rm_3, rm_4, rm_5, rm_6, rm_7, rm_8, rm_9, rm_10, rm_11, rm_12, rm_13, rm_14, rm_15, rm_16, rm_17, rm_18, rm_19, rm_20, rm_21, rm_22, rm_23, rm_24, rm_25, rm_26, rm_27, rm_28, rm_29, um_0, um_1, um_2, um_3, um_4, um_5, um_6, um_7, um_8, um_9, um_10, um_11, um_12, um_13, um_14, um_15, um_16, um_17, um_18, um_19, um_20, um_21, um_22, um_23, um_24, um_25, um_26, um_27, um_28, um_29, rm_k, um_k, vu_at, vu_ne, ↓bd c1, ↓bd c2, ↓bd c3, ↓bd c4, ↓bd c5, ↓bd c6, c1, c2, c3, c4, c5, c6, h17, hv]
          · unfold nOk; rw [er]; exact ⟨⟨by dsimp only; omega, q3.1, q3.2⟩, q4⟩
          · rw [vu_at, er]; dsimp only; omega
          · rw [vu_k (by omega), vu_at, er]
        · rw [if_neg (by omega)] at c6
          refine ⟨vu (vu (vu V 17 0 ((p : Int) + 1)) 17 0 ((p : Int) + 1 + 1)) 22 0 v, 0, cl_X6_number (.ret ?_), fun k i k1 k2 => by rw [vu_k k2, vu_k k1, vu_k k1], .inr ⟨?_, rfl⟩⟩
          · rw [sg_X6_number_0]
            simp (disch := omega) only [↓reduceIte, i_le, i_nle, i_lt, i_nlt, i_eq, i_ne, and_self, and_true, true_and, and_false, false_and, or_true, true_or, or_false, false_or, nx_of, Int.toNat_natCast, Option.bind_some, rm_0, rm_1, rm_2, rm_3, rm_4, rm_5, rm_6, rm_7, rm_8, rm_9, rm_10, rm_11, rm_12, rm_13, rm_14, rm_15, rm_16, rm_17, rm_18, rm_19, rm_20, rm_21, rm_22, rm_23, rm_24, rm_25, rm_26, rm_27, rm_28, rm_29, um_0, um_1, um_2, um_3, um_4, um_5, um_6, um_7, um_8, um_9, um_10, um_11, um_12, um_13, um_14, um_15, um_16, um_17, um_18, um_19, um_20, um_21, um_22, um_23, um_24, um_25, um_26, um_27, um_28, um_29, rm_k, um_k, vu_at, vu_ne, ↓bd c1, ↓bd c2, ↓bd c3, ↓bd c4, ↓bd c5, ↓bd c6, c1, c2, c3, c4, c5, c6, h17, hv]
          · unfold nOk; rw [er]; exact fun z => q4 z.2
      · refine ⟨vu (vu (vu V 17 0 ((p : Int) + 1)) 17 0 ((p : Int) + 1 + 1)) 22 0 v, 0, cl_X6_number (.ret ?_), fun k i k1 k2 => by rw [vu_k k2, vu_k k1, vu_k k1], .inr ⟨?_, rfl⟩⟩
        · rw [sg_X6_number_0]
          by_cases q5 : p + 2 < L
          · rw [if_pos q5] at c5
            have t5 := hT.2 _ q5
            simp (disch := omega) only [↓reduceIte, i_le, i_nle, i_lt, i_nlt, i_eq, i_ne, and_self, and_true, true_and, and_false, false_and, or_true, true_or, or_false, false_or, nx_of, Int.toNat_natCast, Option.bind_some, rm_0, rm_1, rm_2, rm_3, rm_4, rm_5, rm_6, rm_7, rm_8, rm_9, rm_10, rm_11, rm_12, rm_13, rm_14, rm_15, rm_16, rm_17, rm_18, rm_19, rm_20, rm_21, rm_22, rm_23, rm_24, rm_25, rm_26, rm_27, rm_28, rm_29, um_0, um_1, um_2, um_3, um_4, um_5, um_6, um_7, um_8, um_9, um_10, um_11, um_12, um_13, um_14, um_15, um_16, um_17, um_18, um_19, um_20, um_21, um_22, um_23, um_24, um_25, um_26, um_27, um_28, um_29, rm_k, um_k, vu_at, vu_ne, ↓bd c1, ↓bd c2, ↓bd c3, ↓bd c4, ↓bd c5, c1, c2, c3, c4, c5, h17, hv]
          · rw [if_neg q5] at c5
            simp (disch := omega) only [↓reduceIte, i_le, i_nle, i_lt, i_nlt, i_eq, i_ne, and_self, and_true, true_and, and_false, false_and, or_true, true_or, or_false, false_or, nx_of, Int.toNat_natCast, Option.bind_some, rm_0, rm_1, rm_2, rm_3, rm_4, rm_5, rm_6, rm_7, rm_8, rm_9, rm_10, rm_11, rm_12, rm_13, rm_14, rm_15, rm_16, rm_17, rm_18, rm_19, rm_20, rm_21, rm_22, rm_23, rm_24, rm_25, rm_26, rm_27, rm_28, rm_29, um_0, um_1, um_2, um_3, um_4, um_5, um_6, um_7, um_8, um_9, um_10, um_11, um_12, um_13, um_14, um_15, um_16, um_17, um_18, um_19, um_20, um_21, um_22, um_23, um_24, um_25, um_26, um_27, um_28, um_29, rm_k, um_k, vu_at, vu_ne, ↓bd c1, ↓bd c2, ↓bd c3, ↓bd c4, ↓bd c5, c1, c2, c3, c4, c5, h17, hv]
        · unfold nOk; rw [er]; exact fun z => q3 ⟨z.1.2.1, z.1.2.2⟩
    · rw [if_neg q2] at c3
      have er : rn (V 15) L p = (V 15 p - 48, p + 1) := by unfold rn; rw [if_pos q, if_neg q2]
      generalize hv : V 15 p - 48 = v at er
      have f16 : vu (vu V 17 0 ((p : Int) + 1)) 22 0 v 16 0 = (L : Int) := by rw [vu_k (by omega)]; exact g16
      have f17 : vu (vu V 17 0 ((p : Int) + 1)) 22 0 v 17 0 = ((p + 1 : Nat) : Int) := by rw [vu_k (by omega)]; exact g17
      have f15 : ∀ j, vu (vu V 17 0 ((p : Int) + 1)) 22 0 v 15 j = V 15 j := fun j => by rw [vu_k (by omega)]; exact g15 j
      have c5 := sq_here (LS := LS) (n := n) (by omega) (h := h) f16 f17 hL (by omega)
      rw [f15] at c5
      have c6 := sq_in (LS := LS) (n := n) (by omega) (h := sm h (vu (vu V 17 0 ((p : Int) + 1)) 22 0 v)) (x := v) (a := 0) (b := hi) ⟨by omega, by omega⟩ (by omega) (by omega)
      by_cases q3 : p + 1 < L ∧ V 15 (p + 1) = en
      · rw [if_pos q3.1] at c5
        have t5 := hT.2 _ q3.1
        by_cases q4 : v ≤ hi
        · rw [if_pos (by omega)] at c6
          refine ⟨vu (vu (vu V 17 0 ((p : Int) + 1)) 22 0 v) 17 0 ((p : Int) + 1 + 1), 1, cl_X6_number (.ret ?_), fun k i k1 k2 => by rw [vu_k k1, vu_k k2, vu_k k1], .inl ⟨?_, rfl, ?_, ?_⟩⟩
          · rw [sg_X6_number_0]
            simp (disch := omega) only [↓reduceIte, i_le, i_nle, i_lt, i_nlt, i_eq, i_ne, and_self, and_true, true_and, and_false, false_and, or_true, true_or, or_false, false_or, nx_of, Int.toNat_natCast, Option.bind_some, rm_0, rm_1, rm_2, rm_3, rm_4, rm_5, rm_6, rm_7, rm_8, rm_9, rm_10, rm_11, rm_12, rm_13, rm_14, rm_15, rm_16, rm_17, rm_18, rm_19, rm_20, rm_21, rm_22, rm_23, rm_24, rm_25, rm_26, rm_27, rm_28, rm_29, um_0, um_1, um_2, um_3, um_4, um_5, um_6, um_7, um_8, um_9, um_10, um_11, um_12, um_13, um_14, um_15, um_16, um_17, um_18, um_19, um_20, um_21, um_22, um_23, um_24, um_25, um_26, um_27, um_28, um_29, rm_k, um_k, vu_at, vu_ne, ↓bd c1, ↓bd c2, ↓bd c3, ↓bd c5, ↓bd c6, c1, c2, c3, c5, c6, h17, hv]
          · unfold nOk; rw [er]; exact ⟨⟨by dsimp only; omega, q3.1, q3.2⟩, q4⟩
          · rw [vu_at, er]; dsimp only; omega
          · rw [vu_k (by omega), vu_at, er]
        · rw [if_neg (by omega)] at c6
          refine ⟨vu (vu V 17 0 ((p : Int) + 1)) 22 0 v, 0, cl_X6_number (.ret ?_), fun k i k1 k2 => by rw [vu_k k2, vu_k k1], .inr ⟨?_, rfl⟩⟩
          · rw [sg_X6_number_0]
            simp (disch := omega) only [↓reduceIte, i_le, i_nle, i_lt, i_nlt, i_eq, i_ne, and_self, and_true, true_and, and_false, false_and, or_true, true_or, or_false, false_or, nx_of, Int.toNat_natCast, Option.bind_some, rm_0, rm_1, rm_2, rm_3, rm_4, rm_5, rm_6, rm_7, rm_8, rm_9, rm_10, rm_11, rm_12, rm_13, rm_14, rm_15, rm_16, rm_17, rm_18, rm_19, rm_20, rm_21, rm_22, rm_23, rm_24, rm_25, rm_26, rm_27, rm_28, rm_29, um_0, um_1, um_2, um_3, um_4, um_5, um_6, um_7, um_8, um_9, um_10, um_11, um_12, um_13, um_14, um_15, um_16, um_17, um_18, um_19, um_20, um_21, um_22, um_23, um_24, um_25, um_26, um_27, um_28, um_29, rm_k, um_k, vu_at, vu_ne, ↓bd c1, ↓bd c2, ↓bd c3, ↓bd c5, ↓bd c6, c1, c2, c3, c5, c6, h17, hv]
          · unfold nOk; rw [er]; exact fun z => q4 z.2
      · refine ⟨vu (vu V 17 0 ((p : Int) + 1)) 22 0 v, 0, cl_X6_number (.ret ?_), fun k i k1 k2 => by rw [vu_k k2, vu_k k1], .inr ⟨?_, rfl⟩⟩
        · rw [sg_X6_number_0]
          by_cases q5 : p + 1 < L
          · rw [if_pos q5] at c5
            have t5 := hT.2 _ q5
            simp (disch := omega) only [↓reduceIte, i_le, i_nle, i_lt, i_nlt, i_eq, i_ne, and_self, and_true, true_and, and_false, false_and, or_true, true_or, or_false, false_or, nx_of, Int.toNat_natCast, Option.bind_some, rm_0, rm_1, rm_2, rm_3, rm_4, rm_5, rm_6, rm_7, rm_8, rm_9, rm_10, rm_11, rm_12, rm_13, rm_14, rm_15, rm_16, rm_17, rm_18, rm_19, rm_20, rm_21, rm_22, rm_23, rm_24, rm_25, rm_26, rm_27, rm_28, rm_29, um_0, um_1, um_2, um_3, um_4, um_5, um_6, um_7, um_8, um_9, um_10, um_11, um_12, um_13, um_14, um_15, um_16, um_17, um_18, um_19, um_20, um_21, um_22, um_23, um_24, um_25, um_26, um_27, um_28, um_29, rm_k, um_k, vu_at, vu_ne, ↓bd c1, ↓bd c2, ↓bd c3, ↓bd c5, c1, c2, c3, c5, h17, hv]
          · rw [if_neg q5] at c5
            simp (disch := omega) only [↓reduceIte, i_le, i_nle, i_lt, i_nlt, i_eq, i_ne, and_self, and_true, true_and, and_false, false_and, or_true, true_or, or_false, false_or, nx_of, Int.toNat_natCast, Option.bind_some, rm_0, rm_1, rm_2, rm_3, rm_4, rm_5, rm_6, rm_7, rm_8, rm_9, rm_10, rm_11, rm_12, rm_13, rm_14, rm_15, rm_16, rm_17, rm_18, rm_19, rm_20, rm_21, rm_22, rm_23, rm_24, rm_25, rm_26, rm_27, rm_28, rm_29, um_0, um_1, um_2, um_3, um_4, um_5, um_6, um_7, um_8, um_9, um_10, um_11, um_12, um_13, um_14, um_15, um_16, um_17, um_18, um_19, um_20, um_21, um_22, um_23, um_24, um_25, um_26, um_27, um_28, um_29, rm_k, um_k, vu_at, vu_ne, ↓bd c1, ↓bd c2, ↓bd c3, ↓bd c5, c1, c2, c3, c5, h17, hv]
        · unfold nOk; rw [er]; exact fun z => q3 ⟨z.1.2.1, z.1.2.2⟩
  · rw [if_neg q] at c1
    refine ⟨V, 0, cl_X6_number (.ret ?_), fun _ _ _ _ => rfl, .inr ⟨?_, rfl⟩⟩
    · rw [sg_X6_number_0]
      simp (disch := omega) only [↓reduceIte, i_le, i_nle, i_lt, i_nlt, i_eq, i_ne, and_self, and_true, true_and, and_false, false_and, or_true, true_or, or_false, false_or, nx_of, Int.toNat_natCast, Option.bind_some, rm_0, rm_1, rm_2, rm_3, rm_4, rm_5, rm_6, rm_7, rm_8, rm_9, rm_10, rm_11, rm_12, rm_13, rm_14, rm_15, rm_16, rm_17, rm_18, rm_19, rm_20, rm_21, rm_22, rm_23, rm_24, rm_25, rm_26, rm_27, rm_28, rm_29, um_0, um_1, um_2, um_3, um_4, um_5, um_6, um_7, um_8, um_9, um_10, um_11, um_12, um_13, um_14, um_15, um_16, um_17, um_18, um_19, um_20, um_21, um_22, um_23, um_24, um_25, um_26, um_27, um_28, um_29, rm_k, um_k, vu_at, vu_ne, ↓bd c1, c1]
    · have er : rn (V 15) L p = (0, p) := by unfold rn; rw [if_neg q]
      unfold nOk
      rw [er]
      exact fun z => absurd z.1.1 (by dsimp only; omega)
