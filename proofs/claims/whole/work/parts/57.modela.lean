/-! The model's acts. -/
theorem mNt_veq (V : nl_O) : veq (mNt V) V := ⟨⟨mNt_o (by omega) (by omega), mNt_o (by omega) (by omega), mNt_o (by omega) (by omega)⟩, fun _ _ _ _ _ => mNt_o (by omega) (by omega), fun _ _ _ _ => mNt_o (by omega) (by omega)⟩
theorem sq_pass {LS : Int} {n : Nat} (hn : 7 ≤ n) {h : nl_H} {V : nl_O} {x N : Int} (hx : nl_inR x) (hN : N ≤ 80000) (hV : vok N V) (h24 : 0 ≤ V 24 0 ∧ V 24 0 ≤ 8) : nl_c LS n m_X6_pass [vO 6 0, vI x] (sm h V) = some (if 1 ≤ x ∧ x ≤ 20 then (if V 1 0 + x ≤ 999 then ((vNights x.toNat (mNt V)).2, sm h (vPass x.toNat (mNt V))) else (-2, sm h V)) else (-1, sm h V)) := by
  obtain ⟨n, rfl, hn1⟩ := nl_suc hn
  have h1 := hV.2.1
  have c1 := sq_in (LS := LS) (n := n) (by omega) (h := sm h V) (x := x) (a := 1) (b := 20) hx (by omega) (by omega)
  have c2 := sq_notes (LS := LS) (n := n) (by omega) (h := h) h24
  obtain ⟨hx1, hx2⟩ := hx
  refine cl_X6_pass (.ret ?_)
  rw [sg_X6_pass_0]
  by_cases q : 1 ≤ x ∧ x ≤ 20
  · rw [if_pos q] at c1 ⊢
    obtain ⟨d, rfl⟩ : ∃ d : Nat, x = d := ⟨x.toNat, by omega⟩
    have c3 := sq_goesOn (LS := LS) (n := n) hn1 (h := h) (V := mNt V) (d := d) (by omega) hN (vok_veq hV (mNt_veq V))
    by_cases q2 : V 1 0 + d ≤ 999
    · rw [if_pos q2]
      simp (disch := omega) only [↓reduceIte, i_le, i_nle, i_lt, i_nlt, i_eq, i_ne, and_self, and_true, true_and, and_false, false_and, or_true, true_or, or_false, false_or, nx_of, Int.toNat_natCast, Option.bind_some, rm_0, rm_1, rm_2, rm_3, rm_4, rm_5, rm_6, rm_7, rm_8, rm_9, rm_10, rm_11, rm_12, rm_13, rm_14, rm_15, rm_16, rm_17, rm_18, rm_19, rm_20, rm_21, rm_22, rm_23, rm_24, rm_25, rm_26, rm_27, rm_28, rm_29, um_0, um_1, um_2, um_3, um_4, um_5, um_6, um_7, um_8, um_9, um_10, um_11, um_12, um_13, um_14, um_15, um_16, um_17, um_18, um_19, um_20, um_21, um_22, um_23, um_24, um_25, um_26, um_27, um_28, um_29, rm_k, um_k, vu_at, vu_ne, ↓bd c1, ↓bd c2, ↓bd c3, c1, c2, c3]
    · rw [if_neg q2]
      simp (disch := omega) only [↓reduceIte, i_le, i_nle, i_lt, i_nlt, i_eq, i_ne, and_self, and_true, true_and, and_false, false_and, or_true, true_or, or_false, false_or, nx_of, Int.toNat_natCast, Option.bind_some, rm_0, rm_1, rm_2, rm_3, rm_4, rm_5, rm_6, rm_7, rm_8, rm_9, rm_10, rm_11, rm_12, rm_13, rm_14, rm_15, rm_16, rm_17, rm_18, rm_19, rm_20, rm_21, rm_22, rm_23, rm_24, rm_25, rm_26, rm_27, rm_28, rm_29, um_0, um_1, um_2, um_3, um_4, um_5, um_6, um_7, um_8, um_9, um_10, um_11, um_12, um_13, um_14, um_15, um_16, um_17, um_18, um_19, um_20, um_21, um_22, um_23, um_24, um_25, um_26, um_27, um_28, um_29, rm_k, um_k, vu_at, vu_ne, ↓bd c1, c1]
  · rw [if_neg q] at c1 ⊢
    simp (disch := omega) only [↓reduceIte, i_le, i_nle, i_lt, i_nlt, i_eq, i_ne, and_self, and_true, true_and, and_false, false_and, or_true, true_or, or_false, false_or, nx_of, Int.toNat_natCast, Option.bind_some, rm_0, rm_1, rm_2, rm_3, rm_4, rm_5, rm_6, rm_7, rm_8, rm_9, rm_10, rm_11, rm_12, rm_13, rm_14, rm_15, rm_16, rm_17, rm_18, rm_19, rm_20, rm_21, rm_22, rm_23, rm_24, rm_25, rm_26, rm_27, rm_28, rm_29, um_0, um_1, um_2, um_3, um_4, um_5, um_6, um_7, um_8, um_9, um_10, um_11, um_12, um_13, um_14, um_15, um_16, um_17, um_18, um_19, um_20, um_21, um_22, um_23, um_24, um_25, um_26, um_27, um_28, um_29, rm_k, um_k, vu_at, vu_ne, ↓bd c1, c1]
theorem sq_swap {LS : Int} {n : Nat} (hn : 3 ≤ n) {h : nl_H} {V : nl_O} {x y N : Int} (hx : nl_inR x) (hy : nl_inR y) (hV : vok N V) (h24 : 0 ≤ V 24 0 ∧ V 24 0 ≤ 8) : nl_c LS n m_X6_swap [vO 6 0, vI x, vI y] (sm h V) = some (if ((0 ≤ x ∧ x < V 0 0) ∧ 0 ≤ y ∧ y < V 0 0) ∧ x ≠ y then (vTrade (mNt V) x.toNat y.toNat 8 x.toNat, sm h (vTrade (mNt V) x.toNat y.toNat)) else (-1, sm h V)) := by
  obtain ⟨n, rfl, hn1⟩ := nl_suc hn
  have h0 := hV.1
  have c1 := sq_isOne (LS := LS) (n := n) (by omega) (h := h) (V := V) hx (by omega)
  have c2 := sq_isOne (LS := LS) (n := n) (by omega) (h := h) (V := V) hy (by omega)
  have c3 := sq_notes (LS := LS) (n := n) (by omega) (h := h) h24
  obtain ⟨hx1, hx2⟩ := hx
  obtain ⟨hy1, hy2⟩ := hy
  refine cl_X6_swap (.ret ?_)
  rw [sg_X6_swap_0]
  by_cases q : 0 ≤ x ∧ x < V 0 0
  · rw [if_pos q] at c1
    by_cases q2 : 0 ≤ y ∧ y < V 0 0
    · rw [if_pos q2] at c2
      by_cases q3 : x = y
      · rw [if_neg (by omega)]
        simp (disch := omega) only [↓reduceIte, i_le, i_nle, i_lt, i_nlt, i_eq, i_ne, and_self, and_true, true_and, and_false, false_and, or_true, true_or, or_false, false_or, nx_of, Int.toNat_natCast, Option.bind_some, rm_0, rm_1, rm_2, rm_3, rm_4, rm_5, rm_6, rm_7, rm_8, rm_9, rm_10, rm_11, rm_12, rm_13, rm_14, rm_15, rm_16, rm_17, rm_18, rm_19, rm_20, rm_21, rm_22, rm_23, rm_24, rm_25, rm_26, rm_27, rm_28, rm_29, um_0, um_1, um_2, um_3, um_4, um_5, um_6, um_7, um_8, um_9, um_10, um_11, um_12, um_13, um_14, um_15, um_16, um_17, um_18, um_19, um_20, um_21, um_22, um_23, um_24, um_25, um_26, um_27, um_28, um_29, rm_k, um_k, vu_at, vu_ne, ↓bd c1, ↓bd c2, c1, c2]
      · rw [if_pos ⟨⟨q, q2⟩, q3⟩]
        obtain ⟨a, rfl⟩ : ∃ a : Nat, x = a := ⟨x.toNat, by omega⟩
        obtain ⟨b, rfl⟩ : ∃ b : Nat, y = b := ⟨y.toNat, by omega⟩
        have c4 := sq_trades (LS := LS) (n := n) (by omega) (h := h) (V := mNt V) (a := a) (b := b) (by omega) (by omega)
        simp (disch := omega) only [↓reduceIte, i_le, i_nle, i_lt, i_nlt, i_eq, i_ne, and_self, and_true, true_and, and_false, false_and, or_true, true_or, or_false, false_or, nx_of, Int.toNat_natCast, Option.bind_some, rm_0, rm_1, rm_2, rm_3, rm_4, rm_5, rm_6, rm_7, rm_8, rm_9, rm_10, rm_11, rm_12, rm_13, rm_14, rm_15, rm_16, rm_17, rm_18, rm_19, rm_20, rm_21, rm_22, rm_23, rm_24, rm_25, rm_26, rm_27, rm_28, rm_29, um_0, um_1, um_2, um_3, um_4, um_5, um_6, um_7, um_8, um_9, um_10, um_11, um_12, um_13, um_14, um_15, um_16, um_17, um_18, um_19, um_20, um_21, um_22, um_23, um_24, um_25, um_26, um_27, um_28, um_29, rm_k, um_k, vu_at, vu_ne, ↓bd c1, ↓bd c2, ↓bd c3, ↓bd c4, c1, c2, c3, c4]
    · rw [if_neg q2] at c2
      rw [if_neg (by omega)]
      simp (disch := omega) only [↓reduceIte, i_le, i_nle, i_lt, i_nlt, i_eq, i_ne, and_self, and_true, true_and, and_false, false_and, or_true, true_or, or_false, false_or, nx_of, Int.toNat_natCast, Option.bind_some, rm_0, rm_1, rm_2, rm_3, rm_4, rm_5, rm_6, rm_7, rm_8, rm_9, rm_10, rm_11, rm_12, rm_13, rm_14, rm_15, rm_16, rm_17, rm_18, rm_19, rm_20, rm_21, rm_22, rm_23, rm_24, rm_25, rm_26, rm_27, rm_28, rm_29, um_0, um_1, um_2, um_3, um_4, um_5, um_6, um_7, um_8, um_9, um_10, um_11, um_12, um_13, um_14, um_15, um_16, um_17, um_18, um_19, um_20, um_21, um_22, um_23, um_24, um_25, um_26, um_27, um_28, um_29, rm_k, um_k, vu_at, vu_ne, ↓bd c1, ↓bd c2, c1, c2]
  · rw [if_neg q] at c1
    rw [if_neg (by omega)]
    simp (disch := omega) only [↓reduceIte, i_le, i_nle, i_lt, i_nlt, i_eq, i_ne, and_self, and_true, true_and, and_false, false_and, or_true, true_or, or_false, false_or, nx_of, Int.toNat_natCast, Option.bind_some, rm_0, rm_1, rm_2, rm_3, rm_4, rm_5, rm_6, rm_7, rm_8, rm_9, rm_10, rm_11, rm_12, rm_13, rm_14, rm_15, rm_16, rm_17, rm_18, rm_19, rm_20, rm_21, rm_22, rm_23, rm_24, rm_25, rm_26, rm_27, rm_28, rm_29, um_0, um_1, um_2, um_3, um_4, um_5, um_6, um_7, um_8, um_9, um_10, um_11, um_12, um_13, um_14, um_15, um_16, um_17, um_18, um_19, um_20, um_21, um_22, um_23, um_24, um_25, um_26, um_27, um_28, um_29, rm_k, um_k, vu_at, vu_ne, ↓bd c1, c1]
theorem sq_rest {LS : Int} {n : Nat} (hn : 3 ≤ n) {h : nl_H} {V : nl_O} {x N : Int} (hx : nl_inR x) (hV : vok N V) (h24 : 0 ≤ V 24 0 ∧ V 24 0 ≤ 8) : nl_c LS n m_X6_rest [vO 6 0, vI x] (sm h V) = some (if 0 ≤ x ∧ x < V 0 0 then (if V 7 x.toNat = 0 then (-2, sm h V) else (vRest (mNt V) x.toNat 7 x.toNat, sm h (vRest (mNt V) x.toNat))) else (-1, sm h V)) := by
  obtain ⟨n, rfl, hn1⟩ := nl_suc hn
  have h0 := hV.1
  have c1 := sq_isOne (LS := LS) (n := n) (by omega) (h := h) (V := V) hx (by omega)
  have c3 := sq_notes (LS := LS) (n := n) (by omega) (h := h) h24
  obtain ⟨hx1, hx2⟩ := hx
  refine cl_X6_rest (.ret ?_)
  rw [sg_X6_rest_0]
  by_cases q : 0 ≤ x ∧ x < V 0 0
  · rw [if_pos q] at c1 ⊢
    obtain ⟨a, rfl⟩ : ∃ a : Nat, x = a := ⟨x.toNat, by omega⟩
    have b7 := (hV.2.2.2.1 a q.2).2.2.2.2.1
    have e7 : mNt V 7 a = V 7 a := mNt_o (by omega) (by omega)
    have c4 := sq_rests (LS := LS) (n := n) (by omega) (h := h) (V := mNt V) (i := a) (by omega) (by omega)
    rw [Int.toNat_natCast]
    by_cases q2 : V 7 a = 0
    · rw [if_pos q2]
      simp (disch := omega) only [↓reduceIte, i_le, i_nle, i_lt, i_nlt, i_eq, i_ne, and_self, and_true, true_and, and_false, false_and, or_true, true_or, or_false, false_or, nx_of, Int.toNat_natCast, Option.bind_some, rm_0, rm_1, rm_2, rm_3, rm_4, rm_5, rm_6, rm_7, rm_8, rm_9, rm_10, rm_11, rm_12, rm_13, rm_14, rm_15, rm_16, rm_17, rm_18, rm_19, rm_20, rm_21, rm_22, rm_23, rm_24, rm_25, rm_26, rm_27, rm_28, rm_29, um_0, um_1, um_2, um_3, um_4, um_5, um_6, um_7, um_8, um_9, um_10, um_11, um_12, um_13, um_14, um_15, um_16, um_17, um_18, um_19, um_20, um_21, um_22, um_23, um_24, um_25, um_26, um_27, um_28, um_29, rm_k, um_k, vu_at, vu_ne, ↓bd c1, c1]
    · rw [if_neg q2]
      simp (disch := omega) only [↓reduceIte, i_le, i_nle, i_lt, i_nlt, i_eq, i_ne, and_self, and_true, true_and, and_false, false_and, or_true, true_or, or_false, false_or, nx_of, Int.toNat_natCast, Option.bind_some, rm_0, rm_1, rm_2, rm_3, rm_4, rm_5, rm_6, rm_7, rm_8, rm_9, rm_10, rm_11, rm_12, rm_13, rm_14, rm_15, rm_16, rm_17, rm_18, rm_19, rm_20, rm_21, rm_22, rm_23, rm_24, rm_25, rm_26, rm_27, rm_28, rm_29, um_0, um_1, um_2, um_3, um_4, um_5, um_6, um_7, um_8, um_9, um_10, um_11, um_12, um_13, um_14, um_15, um_16, um_17, um_18, um_19, um_20, um_21, um_22, um_23, um_24, um_25, um_26, um_27, um_28, um_29, rm_k, um_k, vu_at, vu_ne, ↓bd c1, ↓bd c3, ↓bd c4, c1, c3, c4]
  · rw [if_neg q] at c1 ⊢
    simp (disch := omega) only [↓reduceIte, i_le, i_nle, i_lt, i_nlt, i_eq, i_ne, and_self, and_true, true_and, and_false, false_and, or_true, true_or, or_false, false_or, nx_of, Int.toNat_natCast, Option.bind_some, rm_0, rm_1, rm_2, rm_3, rm_4, rm_5, rm_6, rm_7, rm_8, rm_9, rm_10, rm_11, rm_12, rm_13, rm_14, rm_15, rm_16, rm_17, rm_18, rm_19, rm_20, rm_21, rm_22, rm_23, rm_24, rm_25, rm_26, rm_27, rm_28, rm_29, um_0, um_1, um_2, um_3, um_4, um_5, um_6, um_7, um_8, um_9, um_10, um_11, um_12, um_13, um_14, um_15, um_16, um_17, um_18, um_19, um_20, um_21, um_22, um_23, um_24, um_25, um_26, um_27, um_28, um_29, rm_k, um_k, vu_at, vu_ne, ↓bd c1, c1]
theorem sq_burden {LS : Int} {n : Nat} (hn : 3 ≤ n) {h : nl_H} {V : nl_O} {x y N : Int} (hx : nl_inR x) (hy : nl_inR y) (hV : vok N V) (h24 : 0 ≤ V 24 0 ∧ V 24 0 ≤ 8) : nl_c LS n m_X6_burden [vO 6 0, vI x, vI y] (sm h V) = some (if (0 ≤ x ∧ x < V 0 0) ∧ 0 ≤ y ∧ y ≤ 20 then (if V 3 x.toNat = y then (-2, sm h V) else (V 3 x.toNat, sm h (vu (mNt V) 3 x.toNat y))) else (-1, sm h V)) := by
  obtain ⟨n, rfl, hn1⟩ := nl_suc hn
  have h0 := hV.1
  have c1 := sq_isOne (LS := LS) (n := n) (by omega) (h := h) (V := V) hx (by omega)
  have c2 := sq_in (LS := LS) (n := n) (by omega) (h := sm h V) (x := y) (a := 0) (b := 20) hy (by omega) (by omega)
  have c3 := sq_notes (LS := LS) (n := n) (by omega) (h := h) h24
  obtain ⟨hx1, hx2⟩ := hx
  obtain ⟨hy1, hy2⟩ := hy
  refine cl_X6_burden (.ret ?_)
  rw [sg_X6_burden_0]
  by_cases q : 0 ≤ x ∧ x < V 0 0
  · rw [if_pos q] at c1
    by_cases q2 : 0 ≤ y ∧ y ≤ 20
    · rw [if_pos q2] at c2
      rw [if_pos ⟨q, q2⟩]
      obtain ⟨a, rfl⟩ : ∃ a : Nat, x = a := ⟨x.toNat, by omega⟩
      have b3 := (hV.2.2.2.1 a q.2).1
      rw [Int.toNat_natCast]
      by_cases q3 : V 3 a = y
      · rw [if_pos q3]
        simp (disch := omega) only [↓reduceIte, i_le, i_nle, i_lt, i_nlt, i_eq, i_ne, and_self, and_true, true_and, and_false, false_and, or_true, true_or, or_false, false_or, nx_of, Int.toNat_natCast, Option.bind_some, rm_0, rm_1, rm_2, rm_3, rm_4, rm_5, rm_6, rm_7, rm_8, rm_9, rm_10, rm_11, rm_12, rm_13, rm_14, rm_15, rm_16, rm_17, rm_18, rm_19, rm_20, rm_21, rm_22, rm_23, rm_24, rm_25, rm_26, rm_27, rm_28, rm_29, um_0, um_1, um_2, um_3, um_4, um_5, um_6, um_7, um_8, um_9, um_10, um_11, um_12, um_13, um_14, um_15, um_16, um_17, um_18, um_19, um_20, um_21, um_22, um_23, um_24, um_25, um_26, um_27, um_28, um_29, rm_k, um_k, vu_at, vu_ne, ↓bd c1, ↓bd c2, c1, c2]
      · rw [if_neg q3]
        simp (disch := omega) only [↓reduceIte, i_le, i_nle, i_lt, i_nlt, i_eq, i_ne, and_self, and_true, true_and, and_false, false_and, or_true, true_or, or_false, false_or, nx_of, Int.toNat_natCast, Option.bind_some, rm_0, rm_1, rm_2, rm_3, rm_4, rm_5, rm_6, rm_7, rm_8, rm_9, rm_10, rm_11, rm_12, rm_13, rm_14, rm_15, rm_16, rm_17, rm_18, rm_19, rm_20, rm_21, rm_22, rm_23, rm_24, rm_25, rm_26, rm_27, rm_28, rm_29, um_0, um_1, um_2, um_3, um_4, um_5, um_6, um_7, um_8, um_9, um_10, um_11, um_12, um_13, um_14, um_15, um_16, um_17, um_18, um_19, um_20, um_21, um_22, um_23, um_24, um_25, um_26, um_27, um_28, um_29, rm_k, um_k, vu_at, vu_ne, ↓bd c1, ↓bd c2, ↓bd c3, c1, c2, c3]
    · rw [if_neg q2] at c2
      rw [if_neg (by omega)]
      simp (disch := omega) only [↓reduceIte, i_le, i_nle, i_lt, i_nlt, i_eq, i_ne, and_self, and_true, true_and, and_false, false_and, or_true, true_or, or_false, false_or, nx_of, Int.toNat_natCast, Option.bind_some, rm_0, rm_1, rm_2, rm_3, rm_4, rm_5, rm_6, rm_7, rm_8, rm_9, rm_10, rm_11, rm_12, rm_13, rm_14, rm_15, rm_16, rm_17, rm_18, rm_19, rm_20, rm_21, rm_22, rm_23, rm_24, rm_25, rm_26, rm_27, rm_28, rm_29, um_0, um_1, um_2, um_3, um_4, um_5, um_6, um_7, um_8, um_9, um_10, um_11, um_12, um_13, um_14, um_15, um_16, um_17, um_18, um_19, um_20, um_21, um_22, um_23, um_24, um_25, um_26, um_27, um_28, um_29, rm_k, um_k, vu_at, vu_ne, ↓bd c1, ↓bd c2, c1, c2]
  · rw [if_neg q] at c1
    rw [if_neg (by omega)]
    simp (disch := omega) only [↓reduceIte, i_le, i_nle, i_lt, i_nlt, i_eq, i_ne, and_self, and_true, true_and, and_false, false_and, or_true, true_or, or_false, false_or, nx_of, Int.toNat_natCast, Option.bind_some, rm_0, rm_1, rm_2, rm_3, rm_4, rm_5, rm_6, rm_7, rm_8, rm_9, rm_10, rm_11, rm_12, rm_13, rm_14, rm_15, rm_16, rm_17, rm_18, rm_19, rm_20, rm_21, rm_22, rm_23, rm_24, rm_25, rm_26, rm_27, rm_28, rm_29, um_0, um_1, um_2, um_3, um_4, um_5, um_6, um_7, um_8, um_9, um_10, um_11, um_12, um_13, um_14, um_15, um_16, um_17, um_18, um_19, um_20, um_21, um_22, um_23, um_24, um_25, um_26, um_27, um_28, um_29, rm_k, um_k, vu_at, vu_ne, ↓bd c1, c1]
theorem sq_undo {LS : Int} {n : Nat} (hn : 2 ≤ n) {h : nl_H} {V : nl_O} {f : Nat} (h24 : V 24 0 = f) (hf : f ≤ 8) : nl_c LS n m_X6_undo [vO 6 0] (sm h V) = some (if f < 1 then (-2, sm h V) else ((f : Int) - 1, sm h (mTk (vu V 24 0 ((f : Int) - 1)) 23 (79 * (f - 1))))) := by
  obtain ⟨n, rfl, hn1⟩ := nl_suc hn
  refine cl_X6_undo (.ret ?_)
  rw [sg_X6_undo_0]
  by_cases q : f < 1
  · rw [if_pos q]
    simp (disch := omega) only [↓reduceIte, i_le, i_nle, i_lt, i_nlt, i_eq, i_ne, and_self, and_true, true_and, and_false, false_and, or_true, true_or, or_false, false_or, nx_of, Int.toNat_natCast, Option.bind_some, rm_0, rm_1, rm_2, rm_3, rm_4, rm_5, rm_6, rm_7, rm_8, rm_9, rm_10, rm_11, rm_12, rm_13, rm_14, rm_15, rm_16, rm_17, rm_18, rm_19, rm_20, rm_21, rm_22, rm_23, rm_24, rm_25, rm_26, rm_27, rm_28, rm_29, um_0, um_1, um_2, um_3, um_4, um_5, um_6, um_7, um_8, um_9, um_10, um_11, um_12, um_13, um_14, um_15, um_16, um_17, um_18, um_19, um_20, um_21, um_22, um_23, um_24, um_25, um_26, um_27, um_28, um_29, rm_k, um_k, vu_at, vu_ne, h24]
  · rw [if_neg q]
    have e1 : 79 * ((f : Int) - 1) = ((79 * (f - 1) : Nat) : Int) := by omega
    have c1 := sq_takes (LS := LS) hn1 (h := h) (V := vu V 24 0 ((f : Int) - 1)) (k := 23) (a := 79 * (f - 1)) (by omega) (by show _ ≤ (632 : Int); omega) (by omega)
    simp (disch := omega) only [↓reduceIte, i_le, i_nle, i_lt, i_nlt, i_eq, i_ne, and_self, and_true, true_and, and_false, false_and, or_true, true_or, or_false, false_or, nx_of, Int.toNat_natCast, Option.bind_some, rm_0, rm_1, rm_2, rm_3, rm_4, rm_5, rm_6, rm_7, rm_8, rm_9, rm_10, rm_11, rm_12, rm_13, rm_14, rm_15, rm_16, rm_17, rm_18, rm_19, rm_20, rm_21, rm_22, rm_23, rm_24, rm_25, rm_26, rm_27, rm_28, rm_29, um_0, um_1, um_2, um_3, um_4, um_5, um_6, um_7, um_8, um_9, um_10, um_11, um_12, um_13, um_14, um_15, um_16, um_17, um_18, um_19, um_20, um_21, um_22, um_23, um_24, um_25, um_26, um_27, um_28, um_29, rm_k, um_k, vu_at, vu_ne, ↓bd c1, c1, h24, e1, mTk_hi]
theorem sq_keep {LS : Int} {n : Nat} (hn : 2 ≤ n) {h : nl_H} {V : nl_O} {f : Nat} (h29 : V 29 0 = f) (hf : f ≤ 2) : nl_c LS n m_X6_keep [vO 6 0] (sm h V) = some (if f < 2 then ((f : Int) + 1, sm h (vu (mLy V 28 (79 * f)) 29 0 ((f : Int) + 1))) else (-3, sm h V)) := by
  obtain ⟨n, rfl, hn1⟩ := nl_suc hn
  refine cl_X6_keep (.ret ?_)
  rw [sg_X6_keep_0]
  by_cases q : f < 2
  · rw [if_pos q]
    have e1 : 79 * (f : Int) = ((79 * f : Nat) : Int) := by omega
    have c1 := sq_lays (LS := LS) hn1 (h := h) (V := V) (k := 28) (a := 79 * f) (by omega) (by show _ ≤ (158 : Int); omega) (by omega)
    simp (disch := omega) only [↓reduceIte, i_le, i_nle, i_lt, i_nlt, i_eq, i_ne, and_self, and_true, true_and, and_false, false_and, or_true, true_or, or_false, false_or, nx_of, Int.toNat_natCast, Option.bind_some, rm_0, rm_1, rm_2, rm_3, rm_4, rm_5, rm_6, rm_7, rm_8, rm_9, rm_10, rm_11, rm_12, rm_13, rm_14, rm_15, rm_16, rm_17, rm_18, rm_19, rm_20, rm_21, rm_22, rm_23, rm_24, rm_25, rm_26, rm_27, rm_28, rm_29, um_0, um_1, um_2, um_3, um_4, um_5, um_6, um_7, um_8, um_9, um_10, um_11, um_12, um_13, um_14, um_15, um_16, um_17, um_18, um_19, um_20, um_21, um_22, um_23, um_24, um_25, um_26, um_27, um_28, um_29, rm_k, um_k, vu_at, vu_ne, ↓bd c1, c1, h29, e1, mLy_o]
  · rw [if_neg q]
    simp (disch := omega) only [↓reduceIte, i_le, i_nle, i_lt, i_nlt, i_eq, i_ne, and_self, and_true, true_and, and_false, false_and, or_true, true_or, or_false, false_or, nx_of, Int.toNat_natCast, Option.bind_some, rm_0, rm_1, rm_2, rm_3, rm_4, rm_5, rm_6, rm_7, rm_8, rm_9, rm_10, rm_11, rm_12, rm_13, rm_14, rm_15, rm_16, rm_17, rm_18, rm_19, rm_20, rm_21, rm_22, rm_23, rm_24, rm_25, rm_26, rm_27, rm_28, rm_29, um_0, um_1, um_2, um_3, um_4, um_5, um_6, um_7, um_8, um_9, um_10, um_11, um_12, um_13, um_14, um_15, um_16, um_17, um_18, um_19, um_20, um_21, um_22, um_23, um_24, um_25, um_26, um_27, um_28, um_29, rm_k, um_k, vu_at, vu_ne, h29]
theorem sq_back {LS : Int} {n : Nat} (hn : 2 ≤ n) {h : nl_H} {V : nl_O} {f : Nat} (h29 : V 29 0 = f) (hf : f ≤ 2) : nl_c LS n m_X6_back [vO 6 0] (sm h V) = some (if f < 1 then (-2, sm h V) else ((f : Int) - 1, sm h (vu (mTk (vu V 29 0 ((f : Int) - 1)) 28 (79 * (f - 1))) 24 0 0))) := by
  obtain ⟨n, rfl, hn1⟩ := nl_suc hn
  refine cl_X6_back (.ret ?_)
  rw [sg_X6_back_0]
  by_cases q : f < 1
  · rw [if_pos q]
    simp (disch := omega) only [↓reduceIte, i_le, i_nle, i_lt, i_nlt, i_eq, i_ne, and_self, and_true, true_and, and_false, false_and, or_true, true_or, or_false, false_or, nx_of, Int.toNat_natCast, Option.bind_some, rm_0, rm_1, rm_2, rm_3, rm_4, rm_5, rm_6, rm_7, rm_8, rm_9, rm_10, rm_11, rm_12, rm_13, rm_14, rm_15, rm_16, rm_17, rm_18, rm_19, rm_20, rm_21, rm_22, rm_23, rm_24, rm_25, rm_26, rm_27, rm_28, rm_29, um_0, um_1, um_2, um_3, um_4, um_5, um_6, um_7, um_8, um_9, um_10, um_11, um_12, um_13, um_14, um_15, um_16, um_17, um_18, um_19, um_20, um_21, um_22, um_23, um_24, um_25, um_26, um_27, um_28, um_29, rm_k, um_k, vu_at, vu_ne, h29]
  · rw [if_neg q]
    have e1 : 79 * ((f : Int) - 1) = ((79 * (f - 1) : Nat) : Int) := by omega
    have c1 := sq_takes (LS := LS) hn1 (h := h) (V := vu V 29 0 ((f : Int) - 1)) (k := 28) (a := 79 * (f - 1)) (by omega) (by show _ ≤ (158 : Int); omega) (by omega)
    simp (disch := omega) only [↓reduceIte, i_le, i_nle, i_lt, i_nlt, i_eq, i_ne, and_self, and_true, true_and, and_false, false_and, or_true, true_or, or_false, false_or, nx_of, Int.toNat_natCast, Option.bind_some, rm_0, rm_1, rm_2, rm_3, rm_4, rm_5, rm_6, rm_7, rm_8, rm_9, rm_10, rm_11, rm_12, rm_13, rm_14, rm_15, rm_16, rm_17, rm_18, rm_19, rm_20, rm_21, rm_22, rm_23, rm_24, rm_25, rm_26, rm_27, rm_28, rm_29, um_0, um_1, um_2, um_3, um_4, um_5, um_6, um_7, um_8, um_9, um_10, um_11, um_12, um_13, um_14, um_15, um_16, um_17, um_18, um_19, um_20, um_21, um_22, um_23, um_24, um_25, um_26, um_27, um_28, um_29, rm_k, um_k, vu_at, vu_ne, ↓bd c1, c1, h29, e1, mTk_hi]
