/-! The model's notes: lays, takes. -/
def mNo (V : nl_O) (i : Nat) : Int := if i = 0 then V 1 0 else if i = 1 then V 2 0 else if i < 9 then V 8 (i - 2) else if i < 16 then V 7 (i - 9) else if i < 23 then V 9 (i - 16) else if i < 30 then V 3 (i - 23) else V 10 (i - 30)
def mL1 (V : nl_O) (k a j : Nat) : nl_O := fun k' i =>
  if k' = k ∧ (i = a ∨ i = a + 1 ∨ (a + 2 ≤ i ∧ i < a + 2 + j) ∨ (a + 9 ≤ i ∧ i < a + 9 + j) ∨ (a + 16 ≤ i ∧ i < a + 16 + j) ∨ (a + 23 ≤ i ∧ i < a + 23 + j)) then mNo V (i - a) else V k' i
def mL2 (V : nl_O) (k a j : Nat) : nl_O := fun k' i => if k' = k ∧ a ≤ i ∧ i < a + 30 + j then mNo V (i - a) else V k' i
def mLy (V : nl_O) (k a : Nat) : nl_O := mL2 V k a 49
theorem mL1_0 {V : nl_O} {k a : Nat} : vu (vu V k a (V 1 0)) k (a + 1) (V 2 0) = mL1 V k a 0 := by
  funext k' i
  unfold vu mL1
  by_cases q : k' = k
  · subst q
    by_cases q1 : i = a + 1
    · subst q1
      rw [if_pos ⟨rfl, rfl⟩, if_pos ⟨rfl, by omega⟩]
      unfold mNo
      rw [if_neg (by omega), if_pos (by omega)]
    · by_cases q2 : i = a
      · subst q2
        rw [if_neg (by omega), if_pos ⟨rfl, rfl⟩, if_pos ⟨rfl, by omega⟩]
        unfold mNo
        rw [if_pos (by omega)]
      · rw [if_neg (by omega), if_neg (by omega), if_neg (by omega)]
  · rw [if_neg (by omega), if_neg (by omega), if_neg (by omega)]
theorem mL1_s {V : nl_O} {k a j : Nat} (hj : j < 7) : vu (vu (vu (vu (mL1 V k a j) k (a + 2 + j) (V 8 j)) k (a + 9 + j) (V 7 j)) k (a + 16 + j) (V 9 j)) k (a + 23 + j) (V 3 j) = mL1 V k a (j + 1) := by
  funext k' i
  unfold vu mL1
  by_cases q : k' = k
  · subst q
    by_cases q1 : i = a + 2 + j
    · subst q1
      rw [if_neg (by omega), if_neg (by omega), if_neg (by omega), if_pos ⟨rfl, rfl⟩, if_pos ⟨rfl, by omega⟩]
      unfold mNo
      rw [if_neg (by omega), if_neg (by omega), if_pos (by omega), show a + 2 + j - a - 2 = j by omega]
    · by_cases q2 : i = a + 9 + j
      · subst q2
        rw [if_neg (by omega), if_neg (by omega), if_pos ⟨rfl, rfl⟩, if_pos ⟨rfl, by omega⟩]
        unfold mNo
        rw [if_neg (by omega), if_neg (by omega), if_neg (by omega), if_pos (by omega), show a + 9 + j - a - 9 = j by omega]
      · by_cases q3 : i = a + 16 + j
        · subst q3
          rw [if_neg (by omega), if_pos ⟨rfl, rfl⟩, if_pos ⟨rfl, by omega⟩]
          unfold mNo
          rw [if_neg (by omega), if_neg (by omega), if_neg (by omega), if_neg (by omega), if_pos (by omega), show a + 16 + j - a - 16 = j by omega]
        · by_cases q4 : i = a + 23 + j
          · subst q4
            rw [if_pos ⟨rfl, rfl⟩, if_pos ⟨rfl, by omega⟩]
            unfold mNo
            rw [if_neg (by omega), if_neg (by omega), if_neg (by omega), if_neg (by omega), if_neg (by omega), if_pos (by omega), show a + 23 + j - a - 23 = j by omega]
          · rw [if_neg (by omega), if_neg (by omega), if_neg (by omega), if_neg (by omega)]
            by_cases q5 : k' = k' ∧ (i = a ∨ i = a + 1 ∨ (a + 2 ≤ i ∧ i < a + 2 + j) ∨ (a + 9 ≤ i ∧ i < a + 9 + j) ∨ (a + 16 ≤ i ∧ i < a + 16 + j) ∨ (a + 23 ≤ i ∧ i < a + 23 + j))
            · rw [if_pos q5, if_pos (by omega)]
            · rw [if_neg q5, if_neg (by omega)]
  · rw [if_neg (by omega), if_neg (by omega), if_neg (by omega), if_neg (by omega), if_neg (by omega), if_neg (by omega)]
theorem mL1_7 {V : nl_O} {k a : Nat} : mL1 V k a 7 = mL2 V k a 0 := by
  funext k' i
  unfold mL1 mL2
  by_cases q : k' = k ∧ a ≤ i ∧ i < a + 30 + 0
  · rw [if_pos q, if_pos (by omega)]
  · rw [if_neg q, if_neg (by omega)]
theorem mL2_s {V : nl_O} {k a j : Nat} : vu (mL2 V k a j) k (a + 30 + j) (V 10 j) = mL2 V k a (j + 1) := by
  funext k' i
  unfold vu mL2
  by_cases q : k' = k ∧ i = a + 30 + j
  · obtain ⟨rfl, rfl⟩ := q
    rw [if_pos ⟨rfl, rfl⟩, if_pos (by omega)]
    unfold mNo
    rw [if_neg (by omega), if_neg (by omega), if_neg (by omega), if_neg (by omega), if_neg (by omega), if_neg (by omega), show a + 30 + j - a - 30 = j by omega]
  · rw [if_neg q]
    by_cases q2 : k' = k ∧ a ≤ i ∧ i < a + 30 + j
    · rw [if_pos q2, if_pos (by omega)]
    · rw [if_neg q2, if_neg (by omega)]
theorem mL1_lo {V : nl_O} {k a j k' i : Nat} (hk : k' ≠ k) : mL1 V k a j k' i = V k' i := by
  unfold mL1; rw [if_neg (by omega)]
theorem mL2_lo {V : nl_O} {k a j k' i : Nat} (hk : k' ≠ k) : mL2 V k a j k' i = V k' i := by
  unfold mL2; rw [if_neg (by omega)]
theorem lp_lays1 {LS : Int} {den : nl_D} {h : nl_H} {V : nl_O} {k a : Nat} (hk : 10 < k) (hs : (a : Int) + 79 ≤ nl_al LS 6 0 k) (ha : a ≤ 1000) {r : Int × nl_H} (kk : nl_Rn LS cd_X6_lays den ct_X6_lays 0 87 [some (vO 6 0), some (vA 6 0 k), some (vI (a : Int)), some (vI 0)] (sm h (mL1 V k a 7)) r) : ∀ (d j : Nat), j + d = 7 → nl_Rn LS cd_X6_lays den ct_X6_lays 0 18 [some (vO 6 0), some (vA 6 0 k), some (vI (a : Int)), some (vI (j : Int))] (sm h (mL1 V k a j)) r := by
  intro d
  induction d with
  | zero =>
    intro j hj
    obtain rfl : j = 7 := by omega
    refine .go ?_ kk
    rw [sg_X6_lays_18]
    simp (disch := omega) only [nx_of, if_pos, if_neg, if_true, if_false, true_or, or_true, Int.toNat_natCast, Option.bind_some]
  | succ d ih =>
    intro j hj
    have e2 : (a : Int) + 2 + (j : Int) = ((a + 2 + j : Nat) : Int) := by omega
    have e9 : (a : Int) + 9 + (j : Int) = ((a + 9 + j : Nat) : Int) := by omega
    have e16 : (a : Int) + 16 + (j : Int) = ((a + 16 + j : Nat) : Int) := by omega
    have e23 : (a : Int) + 23 + (j : Int) = ((a + 23 + j : Nat) : Int) := by omega
    have k9 := ih (j + 1) (by omega)
    rw [← mL1_s (by omega)] at k9
    refine .go ?_ k9
    rw [sg_X6_lays_18]
    simp (disch := omega) only [nx_of, if_pos, if_neg, if_true, if_false, true_or, or_true, Int.toNat_natCast, Option.bind_some, rm_0, rm_1, rm_2, rm_3, rm_4, rm_5, rm_6, rm_7, rm_8, rm_9, rm_10, rm_11, rm_12, rm_13, rm_14, rm_15, rm_16, rm_17, rm_18, rm_19, rm_20, rm_21, rm_22, rm_23, rm_24, rm_25, rm_26, rm_27, rm_28, rm_29, um_0, um_1, um_2, um_3, um_4, um_5, um_6, um_7, um_8, um_9, um_10, um_11, um_12, um_13, um_14, um_15, um_16, um_17, um_18, um_19, um_20, um_21, um_22, um_23, um_24, um_25, um_26, um_27, um_28, um_29, rm_k, um_k, vu_at, vu_ne, e2, e9, e16, e23, mL1_lo]
    rfl
theorem lp_lays2 {LS : Int} {den : nl_D} {h : nl_H} {V : nl_O} {k a : Nat} (hk : 10 < k) (hs : (a : Int) + 79 ≤ nl_al LS 6 0 k) (ha : a ≤ 1000) : ∀ (d j : Nat), j + d = 49 → nl_Rn LS cd_X6_lays den ct_X6_lays 0 87 [some (vO 6 0), some (vA 6 0 k), some (vI (a : Int)), some (vI (j : Int))] (sm h (mL2 V k a j)) (0, sm h (mLy V k a)) := by
  intro d
  induction d with
  | zero =>
    intro j hj
    obtain rfl : j = 49 := by omega
    refine .ret ?_
    rw [sg_X6_lays_87]
    simp (disch := omega) only [nx_of, if_pos, if_neg, if_true, if_false, true_or, or_true, Int.toNat_natCast, Option.bind_some]
    rfl
  | succ d ih =>
    intro j hj
    have e30 : (a : Int) + 30 + (j : Int) = ((a + 30 + j : Nat) : Int) := by omega
    have k9 := ih (j + 1) (by omega)
    rw [← mL2_s] at k9
    refine .go ?_ k9
    rw [sg_X6_lays_87]
    simp (disch := omega) only [nx_of, if_pos, if_neg, if_true, if_false, true_or, or_true, Int.toNat_natCast, Option.bind_some, rm_0, rm_1, rm_2, rm_3, rm_4, rm_5, rm_6, rm_7, rm_8, rm_9, rm_10, rm_11, rm_12, rm_13, rm_14, rm_15, rm_16, rm_17, rm_18, rm_19, rm_20, rm_21, rm_22, rm_23, rm_24, rm_25, rm_26, rm_27, rm_28, rm_29, um_0, um_1, um_2, um_3, um_4, um_5, um_6, um_7, um_8, um_9, um_10, um_11, um_12, um_13, um_14, um_15, um_16, um_17, um_18, um_19, um_20, um_21, um_22, um_23, um_24, um_25, um_26, um_27, um_28, um_29, rm_k, um_k, vu_at, vu_ne, e30, mL2_lo]
    rfl
theorem sq_lays {LS : Int} {n : Nat} (hn : 1 ≤ n) {h : nl_H} {V : nl_O} {k a : Nat} (hk : 10 < k) (hs : (a : Int) + 79 ≤ nl_al LS 6 0 k) (ha : a ≤ 1000) : nl_c LS n m_X6_lays [vO 6 0, vA 6 0 k, vI (a : Int)] (sm h V) = some (0, sm h (mLy V k a)) := by
  obtain ⟨n, rfl, hn1⟩ := nl_suc hn
  have e1 : (a : Int) + 1 = ((a + 1 : Nat) : Int) := by omega
  have k8 := lp_lays2 (LS := LS) (den := nl_c LS n) (h := h) (V := V) hk hs ha 49 0 (by omega)
  rw [← mL1_7] at k8
  have k9 := lp_lays1 (LS := LS) (den := nl_c LS n) (h := h) (V := V) hk hs ha k8 7 0 (by omega)
  rw [← mL1_0] at k9
  refine cl_X6_lays (.go ?_ k9)
  rw [sg_X6_lays_0]
  simp (disch := omega) only [nx_of, if_pos, if_neg, if_true, if_false, true_or, or_true, Int.toNat_natCast, Option.bind_some, rm_0, rm_1, rm_2, rm_3, rm_4, rm_5, rm_6, rm_7, rm_8, rm_9, rm_10, rm_11, rm_12, rm_13, rm_14, rm_15, rm_16, rm_17, rm_18, rm_19, rm_20, rm_21, rm_22, rm_23, rm_24, rm_25, rm_26, rm_27, rm_28, rm_29, um_0, um_1, um_2, um_3, um_4, um_5, um_6, um_7, um_8, um_9, um_10, um_11, um_12, um_13, um_14, um_15, um_16, um_17, um_18, um_19, um_20, um_21, um_22, um_23, um_24, um_25, um_26, um_27, um_28, um_29, rm_k, um_k, vu_at, vu_ne, e1]
  rfl
def mK1 (V : nl_O) (k a j : Nat) : nl_O := fun k' i => if k' = 1 ∧ i = 0 then V k a else if k' = 2 ∧ i = 0 then V k (a + 1) else if k' = 8 ∧ i < j then V k (a + 2 + i) else if k' = 7 ∧ i < j then V k (a + 9 + i) else if k' = 9 ∧ i < j then V k (a + 16 + i) else if k' = 3 ∧ i < j then V k (a + 23 + i) else V k' i
def mK2 (V : nl_O) (k a j : Nat) : nl_O := fun k' i => if k' = 10 ∧ i < j then V k (a + 30 + i) else mK1 V k a 7 k' i
def mTk (V : nl_O) (k a : Nat) : nl_O := mK2 V k a 49
theorem mK1_0 {V : nl_O} {k a : Nat} : vu (vu V 1 0 (V k a)) 2 0 (V k (a + 1)) = mK1 V k a 0 := by
  funext k' i
  unfold vu mK1
  by_cases q1 : k' = 1 ∧ i = 0
  · rw [if_neg (by omega), if_pos q1, if_pos q1]
  · by_cases q2 : k' = 2 ∧ i = 0
    · rw [if_pos q2, if_neg q1, if_pos q2]
    · rw [if_neg q2, if_neg q1, if_neg q1, if_neg q2, if_neg (by omega), if_neg (by omega), if_neg (by omega), if_neg (by omega)]
theorem mK1_s {V : nl_O} {k a j : Nat} : vu (vu (vu (vu (mK1 V k a j) 8 j (V k (a + 2 + j))) 7 j (V k (a + 9 + j))) 9 j (V k (a + 16 + j))) 3 j (V k (a + 23 + j)) = mK1 V k a (j + 1) := by
  funext k' i
  unfold vu mK1
  by_cases q3 : k' = 3 ∧ i = j
  · obtain ⟨rfl, rfl⟩ := q3
    rw [if_pos ⟨rfl, rfl⟩, if_neg (by omega), if_neg (by omega), if_neg (by omega), if_neg (by omega), if_neg (by omega), if_pos (by omega)]
  · by_cases q9 : k' = 9 ∧ i = j
    · obtain ⟨rfl, rfl⟩ := q9
      rw [if_neg (by omega), if_pos ⟨rfl, rfl⟩, if_neg (by omega), if_neg (by omega), if_neg (by omega), if_neg (by omega), if_pos (by omega)]
    · by_cases q7 : k' = 7 ∧ i = j
      · obtain ⟨rfl, rfl⟩ := q7
        rw [if_neg (by omega), if_neg (by omega), if_pos ⟨rfl, rfl⟩, if_neg (by omega), if_neg (by omega), if_neg (by omega), if_pos (by omega)]
      · by_cases q8 : k' = 8 ∧ i = j
        · obtain ⟨rfl, rfl⟩ := q8
          rw [if_neg (by omega), if_neg (by omega), if_neg (by omega), if_pos ⟨rfl, rfl⟩, if_neg (by omega), if_neg (by omega), if_pos (by omega)]
        · rw [if_neg q3, if_neg q9, if_neg q7, if_neg q8]
          by_cases p1 : k' = 1 ∧ i = 0
          · rw [if_pos p1, if_pos p1]
          · rw [if_neg p1, if_neg p1]
            by_cases p2 : k' = 2 ∧ i = 0
            · rw [if_pos p2, if_pos p2]
            · rw [if_neg p2, if_neg p2]
              by_cases p8 : k' = 8 ∧ i < j
              · rw [if_pos p8, if_pos (c := k' = 8 ∧ i < j + 1) (by omega)]
              · rw [if_neg p8, if_neg (c := k' = 8 ∧ i < j + 1) (by omega)]
                by_cases p7 : k' = 7 ∧ i < j
                · rw [if_pos p7, if_pos (c := k' = 7 ∧ i < j + 1) (by omega)]
                · rw [if_neg p7, if_neg (c := k' = 7 ∧ i < j + 1) (by omega)]
                  by_cases p9 : k' = 9 ∧ i < j
                  · rw [if_pos p9, if_pos (c := k' = 9 ∧ i < j + 1) (by omega)]
                  · rw [if_neg p9, if_neg (c := k' = 9 ∧ i < j + 1) (by omega)]
                    by_cases p3 : k' = 3 ∧ i < j
                    · rw [if_pos p3, if_pos (c := k' = 3 ∧ i < j + 1) (by omega)]
                    · rw [if_neg p3, if_neg (c := k' = 3 ∧ i < j + 1) (by omega)]
theorem mK2_0 {V : nl_O} {k a : Nat} : mK2 V k a 0 = mK1 V k a 7 := by
  funext k' i
  unfold mK2
  rw [if_neg (by omega)]
theorem mK2_s {V : nl_O} {k a j : Nat} : vu (mK2 V k a j) 10 j (V k (a + 30 + j)) = mK2 V k a (j + 1) := by
  funext k' i
  unfold vu mK2
  by_cases q : k' = 10 ∧ i = j
  · obtain ⟨rfl, rfl⟩ := q
    rw [if_pos ⟨rfl, rfl⟩, if_pos (by omega)]
  · rw [if_neg q]
    by_cases q2 : k' = 10 ∧ i < j
    · rw [if_pos q2, if_pos (by omega)]
    · rw [if_neg q2, if_neg (by omega)]
theorem mK1_hi {V : nl_O} {k a j k' i : Nat} (hk : 10 < k') : mK1 V k a j k' i = V k' i := by
  unfold mK1
  rw [if_neg (by omega), if_neg (by omega), if_neg (by omega), if_neg (by omega), if_neg (by omega), if_neg (by omega)]
theorem mK2_hi {V : nl_O} {k a j k' i : Nat} (hk : 10 < k') : mK2 V k a j k' i = V k' i := by
  unfold mK2
  rw [if_neg (by omega), mK1_hi hk]
theorem lp_takes1 {LS : Int} {den : nl_D} {h : nl_H} {V : nl_O} {k a : Nat} (hk : 10 < k) (hs : (a : Int) + 79 ≤ nl_al LS 6 0 k) (ha : a ≤ 1000) {r : Int × nl_H} (kk : nl_Rn LS cd_X6_takes den ct_X6_takes 0 87 [some (vO 6 0), some (vA 6 0 k), some (vI (a : Int)), some (vI 0)] (sm h (mK1 V k a 7)) r) : ∀ (d j : Nat), j + d = 7 → nl_Rn LS cd_X6_takes den ct_X6_takes 0 18 [some (vO 6 0), some (vA 6 0 k), some (vI (a : Int)), some (vI (j : Int))] (sm h (mK1 V k a j)) r := by
  intro d
  induction d with
  | zero =>
    intro j hj
    obtain rfl : j = 7 := by omega
    refine .go ?_ kk
    rw [sg_X6_takes_18]
    simp (disch := omega) only [nx_of, if_pos, if_neg, if_true, if_false, true_or, or_true, Int.toNat_natCast, Option.bind_some]
  | succ d ih =>
    intro j hj
    have e2 : (a : Int) + 2 + (j : Int) = ((a + 2 + j : Nat) : Int) := by omega
    have e9 : (a : Int) + 9 + (j : Int) = ((a + 9 + j : Nat) : Int) := by omega
    have e16 : (a : Int) + 16 + (j : Int) = ((a + 16 + j : Nat) : Int) := by omega
    have e23 : (a : Int) + 23 + (j : Int) = ((a + 23 + j : Nat) : Int) := by omega
    have k9 := ih (j + 1) (by omega)
    rw [← mK1_s] at k9
    refine .go ?_ k9
    rw [sg_X6_takes_18]
    simp (disch := omega) only [nx_of, if_pos, if_neg, if_true, if_false, true_or, or_true, Int.toNat_natCast, Option.bind_some, rm_0, rm_1, rm_2, rm_3, rm_4, rm_5, rm_6, rm_7, rm_8, rm_9, rm_10, rm_11, rm_12, rm_13, rm_14, rm_15, rm_16, rm_17, rm_18, rm_19, rm_20, rm_21, rm_22, rm_23, rm_24, rm_25, rm_26, rm_27, rm_28, rm_29, um_0, um_1, um_2, um_3, um_4, um_5, um_6, um_7, um_8, um_9, um_10, um_11, um_12, um_13, um_14, um_15, um_16, um_17, um_18, um_19, um_20, um_21, um_22, um_23, um_24, um_25, um_26, um_27, um_28, um_29, rm_k, um_k, vu_at, vu_ne, e2, e9, e16, e23, mK1_hi]
    rfl
theorem lp_takes2 {LS : Int} {den : nl_D} {h : nl_H} {V : nl_O} {k a : Nat} (hk : 10 < k) (hs : (a : Int) + 79 ≤ nl_al LS 6 0 k) (ha : a ≤ 1000) : ∀ (d j : Nat), j + d = 49 → nl_Rn LS cd_X6_takes den ct_X6_takes 0 87 [some (vO 6 0), some (vA 6 0 k), some (vI (a : Int)), some (vI (j : Int))] (sm h (mK2 V k a j)) (0, sm h (mTk V k a)) := by
  intro d
  induction d with
  | zero =>
    intro j hj
    obtain rfl : j = 49 := by omega
    refine .ret ?_
    rw [sg_X6_takes_87]
    simp (disch := omega) only [nx_of, if_pos, if_neg, if_true, if_false, true_or, or_true, Int.toNat_natCast, Option.bind_some]
    rfl
  | succ d ih =>
    intro j hj
    have e30 : (a : Int) + 30 + (j : Int) = ((a + 30 + j : Nat) : Int) := by omega
    have k9 := ih (j + 1) (by omega)
    rw [← mK2_s] at k9
    refine .go ?_ k9
    rw [sg_X6_takes_87]
    simp (disch := omega) only [nx_of, if_pos, if_neg, if_true, if_false, true_or, or_true, Int.toNat_natCast, Option.bind_some, rm_0, rm_1, rm_2, rm_3, rm_4, rm_5, rm_6, rm_7, rm_8, rm_9, rm_10, rm_11, rm_12, rm_13, rm_14, rm_15, rm_16, rm_17, rm_18, rm_19, rm_20, rm_21, rm_22, rm_23, rm_24, rm_25, rm_26, rm_27, rm_28, rm_29, um_0, um_1, um_2, um_3, um_4, um_5, um_6, um_7, um_8, um_9, um_10, um_11, um_12, um_13, um_14, um_15, um_16, um_17, um_18, um_19, um_20, um_21, um_22, um_23, um_24, um_25, um_26, um_27, um_28, um_29, rm_k, um_k, vu_at, vu_ne, e30, mK2_hi]
    rfl
theorem sq_takes {LS : Int} {n : Nat} (hn : 1 ≤ n) {h : nl_H} {V : nl_O} {k a : Nat} (hk : 10 < k) (hs : (a : Int) + 79 ≤ nl_al LS 6 0 k) (ha : a ≤ 1000) : nl_c LS n m_X6_takes [vO 6 0, vA 6 0 k, vI (a : Int)] (sm h V) = some (0, sm h (mTk V k a)) := by
  obtain ⟨n, rfl, hn1⟩ := nl_suc hn
  have e1 : (a : Int) + 1 = ((a + 1 : Nat) : Int) := by omega
  have k8 := lp_takes2 (LS := LS) (den := nl_c LS n) (h := h) (V := V) hk hs ha 49 0 (by omega)
  rw [mK2_0] at k8
  have k9 := lp_takes1 (LS := LS) (den := nl_c LS n) (h := h) (V := V) hk hs ha k8 7 0 (by omega)
  rw [← mK1_0] at k9
  refine cl_X6_takes (.go ?_ k9)
  rw [sg_X6_takes_0]
  simp (disch := omega) only [nx_of, if_pos, if_neg, if_true, if_false, true_or, or_true, Int.toNat_natCast, Option.bind_some, rm_0, rm_1, rm_2, rm_3, rm_4, rm_5, rm_6, rm_7, rm_8, rm_9, rm_10, rm_11, rm_12, rm_13, rm_14, rm_15, rm_16, rm_17, rm_18, rm_19, rm_20, rm_21, rm_22, rm_23, rm_24, rm_25, rm_26, rm_27, rm_28, rm_29, um_0, um_1, um_2, um_3, um_4, um_5, um_6, um_7, um_8, um_9, um_10, um_11, um_12, um_13, um_14, um_15, um_16, um_17, um_18, um_19, um_20, um_21, um_22, um_23, um_24, um_25, um_26, um_27, um_28, um_29, rm_k, um_k, vu_at, vu_ne, e1]
  rfl
