/-! The model's weight and keeps. -/
theorem sp_weight {LS : Int} {n : Nat} (hn : 3 ≤ n) {h : nl_H} {i k : Nat} {N : Int} (hN : N ≤ 100000) (hV : vok N (mv (h 6 0))) (hi : (i : Int) < h 6 0 0 0) (hk : (k : Int) < h 6 0 0 0) : nl_c LS n m_X6_weight [vO 6 0, vI (i : Int), vI (k : Int)] h = some (vHv (mv (h 6 0)) i k, h) := by
  obtain ⟨n, rfl, hn1⟩ := nl_suc hn
  have hn9 : 2 ≤ h 6 0 0 0 ∧ h 6 0 0 0 ≤ 7 := hV.1
  have hvn : (vN (mv (h 6 0)) : Int) = h 6 0 0 0 := vN_eq hV
  have b1 : 0 ≤ h 6 0 10 k ∧ h 6 0 10 k ≤ 20 := (hV.2.2.2.1 k hk).1
  have b2 : 0 ≤ h 6 0 1 i ∧ h 6 0 1 i ≤ 3 := (hV.2.2.2.1 i hi).2.1
  have b3 := vMst_in hV hi (vN (mv (h 6 0))) (by have : mv (h 6 0) 0 0 = h 6 0 0 0 := rfl; omega)
  have c1 := sp_mostOften (LS := LS) hn1 hN hV hi
  have c2 := sp_greater (LS := LS) (n := n) (by omega) (h := h) (a := 0) (b := h 6 0 10 k - 3) ⟨by omega, by omega⟩ ⟨by omega, by omega⟩
  have e2 : (h 6 0 10 k).tdiv 2 = h 6 0 10 k / 2 := Int.tdiv_eq_ediv_of_nonneg b1.1
  have l2 : nl_nz 2 = 2 := nx_of (by omega) (by omega)
  unfold mMst at c1
  dsimp only at c1
  refine cl_X6_weight (.ret ?_)
  rw [sg_X6_weight_0]
  unfold vHv
  rw [mv_V.2.2.2.2.1, mv_V.2.2.2.1, mv_V.1]
  have k9 : h 6 0 1 i = 0 ∨ h 6 0 1 i = 1 ∨ h 6 0 1 i = 2 ∨ h 6 0 1 i = 3 := by omega
  rcases k9 with k9 | k9 | k9 | k9
  · simp (disch := omega) only [nx_of, if_pos, if_neg, if_true, if_false, true_or, or_true, Int.toNat_natCast, Option.bind_some]
  · simp (disch := omega) only [nx_of, if_pos, if_neg, if_true, if_false, true_or, or_true, Int.toNat_natCast, Option.bind_some]
  · by_cases k8 : (k : Int) = (vMst (mv (h 6 0)) i (vN (mv (h 6 0)))).2
    · rw [if_neg (by omega)] at c1
      simp (disch := omega) only [nx_of, if_pos, if_neg, if_true, if_false, true_or, or_true, Int.toNat_natCast, Option.bind_some, c1, e2, l2]
    · by_cases k7 : (vMst (mv (h 6 0)) i (vN (mv (h 6 0)))).2 = -1
      · rw [if_pos k7] at c1
        simp (disch := omega) only [nx_of, if_pos, if_neg, if_true, if_false, true_or, or_true, Int.toNat_natCast, Option.bind_some, c1]
      · rw [if_neg k7] at c1
        simp (disch := omega) only [nx_of, if_pos, if_neg, if_true, if_false, true_or, or_true, Int.toNat_natCast, Option.bind_some, c1]
  · by_cases k8 : (k : Int) = 0 <;> by_cases k7 : (k : Int) = h 6 0 0 0 - 1 <;> by_cases k6 : h 6 0 10 k - 3 < 0 <;>
      simp (disch := omega) only [nx_of, if_pos, if_neg, if_true, if_false, true_or, or_true, Int.toNat_natCast, Option.bind_some, c2]
theorem sp_keeps {LS : Int} {n : Nat} (hn : 4 ≤ n) {h : nl_H} {i k : Nat} {N : Int} (hN : N ≤ 100000) (hV : vok N (mv (h 6 0))) (hi : (i : Int) < h 6 0 0 0) (hk : (k : Int) < h 6 0 0 0) : nl_c LS n m_X6_keeps [vO 6 0, vI (i : Int), vI (k : Int)] h = some (if vHv (mv (h 6 0)) i k ≤ h 6 0 2 i - h 6 0 7 i then 1 else 0, h) := by
  obtain ⟨n, rfl, hn1⟩ := nl_suc hn
  have hn9 : 2 ≤ h 6 0 0 0 ∧ h 6 0 0 0 ≤ 7 := hV.1
  have b2 : 0 ≤ h 6 0 2 i ∧ h 6 0 2 i ≤ 40 := (hV.2.2.2.1 i hi).2.2.1
  have b7 : 0 ≤ h 6 0 7 i ∧ h 6 0 7 i ≤ 40 := (hV.2.2.2.1 i hi).2.2.2.2.1
  have b3 := vHv_in hV (i := i) (k := k) hk
  have c1 := sp_weight (LS := LS) hn1 hN hV hi hk
  refine cl_X6_keeps (.ret ?_)
  rw [sg_X6_keeps_0]
  by_cases q : vHv (mv (h 6 0)) i k ≤ h 6 0 2 i - h 6 0 7 i
  · rw [if_pos q]; simp (disch := omega) only [nx_of, if_pos, if_neg, if_true, if_false, true_or, or_true, Int.toNat_natCast, Option.bind_some, c1]
  · rw [if_neg q]; simp (disch := omega) only [nx_of, if_pos, if_neg, if_true, if_false, true_or, or_true, Int.toNat_natCast, Option.bind_some, c1]
