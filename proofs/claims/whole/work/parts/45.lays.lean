/-! What is called from without: fault, lay. -/
/-- where the text's fault is; -1 -/
def tF (h : nl_H) (L : Nat) : Int := (pAll (h 5 0 0) L L 0 (vu (vu (h 1 0) 5 0 0) 6 0 0)).1
theorem pu_fault {LS : Int} {n : Nat} (hn : 5 ≤ n) {h : nl_H} {L : Nat} (hL : h 5 0 1 0 = (L : Int)) (hT : tok (h 5 0 0) L) (hF : -1 ≤ tF h L ∧ tF h L ≤ 300) : ∃ W, nl_c LS n m_X5_fault [vO 5 0] h = some (if tF h L = -1 then -4 else tF h L, so h 1 0 W) := by
  obtain ⟨n, rfl, hn1⟩ := nl_suc hn
  obtain ⟨P', c1, k2, -⟩ := sp_read (LS := LS) hn1 (h := h) hT
  have k3 : P' 7 0 = tF h L := k2
  refine ⟨P', cl_X5_fault (.ret ?_)⟩
  rw [sg_X5_fault_0, hL]
  by_cases q : tF h L = -1
  · rw [if_pos q]
    simp (disch := omega) only [nx_of, if_pos, if_neg, if_true, if_false, true_or, or_true, Int.toNat_natCast, Option.bind_some, c1, so_at, k3]
  · rw [if_neg q]
    simp (disch := omega) only [nx_of, if_pos, if_neg, if_true, if_false, true_or, or_true, Int.toNat_natCast, Option.bind_some, c1, so_at, k3]
/-- the plan behind the text read -/
def tP (h : nl_H) (L : Nat) : nl_O := (pAll (h 5 0 0) L L 0 (vu (vu (h 1 0) 5 0 0) 6 0 0)).2
theorem pu_lay0 {LS : Int} {n : Nat} (hn : 5 ≤ n) {h : nl_H} {L : Nat} (hL : h 5 0 1 0 = (L : Int)) (hT : tok (h 5 0 0) L) (hF : -1 ≤ tF h L ∧ tF h L ≤ 300) (h5 : 0 ≤ tP h L 5 0 ∧ tP h L 5 0 ≤ 7) (h6 : 0 ≤ tP h L 6 0 ∧ tP h L 6 0 ≤ 7) (e5 : ∀ P', pEq7 P' (tP h L) → P' 5 0 = tP h L 5 0 ∧ P' 6 0 = tP h L 6 0) (no : ¬ (tF h L = -1 ∧ 2 ≤ tP h L 5 0 ∧ tP h L 5 0 = tP h L 6 0)) : ∃ W, nl_c LS n m_X5_lay [vO 5 0] h = some (-2, so h 1 0 W) := by
  obtain ⟨n, rfl, hn1⟩ := nl_suc hn
  obtain ⟨P', c1, k2, k4⟩ := sp_read (LS := LS) hn1 (h := h) hT
  have k3 : P' 7 0 = tF h L := k2
  obtain ⟨k5, k6⟩ := e5 P' k4
  have c2 := sp_canBeLaid (LS := LS) (n := n) (by omega) (h := so h 1 0 P') (by rw [so_at, k5]; exact h5) (by rw [so_at, k6]; exact h6) (by rw [so_at, k3]; exact hF)
  rw [so_at, k3, k5, k6, if_neg no] at c2
  refine ⟨P', cl_X5_lay (.ret ?_)⟩
  rw [sg_X5_lay_0, hL]
  simp (disch := omega) only [nx_of, if_pos, if_neg, if_true, if_false, true_or, or_true, Int.toNat_natCast, Option.bind_some, c1, c2]
/-- the heap behind a plan laid -/
def hLay (h : nl_H) (P : nl_O) : nl_H := so (so (so (so (so h 1 0 P) 4 0 (vS2 (h 4 0) P 49)) 2 0 (vu (h 2 0) 1 0 0)) 2 1 (vu (h 2 1) 1 0 0)) 3 0 (vu (h 3 0) 3 0 0)
theorem pu_lay1 {LS : Int} {n : Nat} (hn : 5 ≤ n) {h : nl_H} {L : Nat} (hL : h 5 0 1 0 = (L : Int)) (hT : tok (h 5 0 0) L) (h5 : 0 ≤ tP h L 5 0 ∧ tP h L 5 0 ≤ 7) (yes : tF h L = -1 ∧ 2 ≤ tP h L 5 0 ∧ tP h L 5 0 = tP h L 6 0) : ∃ P, pEq7 P (tP h L) ∧ nl_c LS n m_X5_lay [vO 5 0] h = some (tP h L 6 0, hLay h P) := by
  obtain ⟨n, rfl, hn1⟩ := nl_suc hn
  obtain ⟨P', c1, k2, k4⟩ := sp_read (LS := LS) hn1 (h := h) hT
  have k3 : P' 7 0 = tF h L := k2
  have k5 : P' 5 0 = tP h L 5 0 := congrFun (k4 5 (by omega) (by omega)) 0
  have k6 : P' 6 0 = tP h L 6 0 := congrFun (k4 6 (by omega) (by omega)) 0
  have c2 := sp_canBeLaid (LS := LS) (n := n) (by omega) (h := so h 1 0 P') (by rw [so_at, k5]; exact h5) (by rw [so_at, k6]; omega) (by rw [so_at, k3]; omega)
  rw [so_at, k3, k5, k6, if_pos yes] at c2
  have c3 := sp_settle (LS := LS) (n := n) (by omega) (h := so h 1 0 P') (o := 0) (by rw [so_at, k6]; omega)
  rw [so_at, so_ne (by omega)] at c3
  have c4 := sp_shClear (LS := LS) (n := n) (by omega) (h := so (so h 1 0 P') 4 0 (vS2 (h 4 0) P' 49)) (o := 0)
  rw [so_ne (by omega), so_ne (by omega)] at c4
  have c5 := sp_shClear (LS := LS) (n := n) (by omega) (h := so (so (so h 1 0 P') 4 0 (vS2 (h 4 0) P' 49)) 2 0 (vu (h 2 0) 1 0 0)) (o := 1)
  rw [so_ne (by omega), so_ne (by omega), so_ne (by omega)] at c5
  have c6 := sp_seClear (LS := LS) (n := n) (by omega) (h := so (so (so (so h 1 0 P') 4 0 (vS2 (h 4 0) P' 49)) 2 0 (vu (h 2 0) 1 0 0)) 2 1 (vu (h 2 1) 1 0 0))
  rw [so_ne (by omega), so_ne (by omega), so_ne (by omega), so_ne (by omega)] at c6
  have e1 : hLay h P' 4 0 0 0 = tP h L 6 0 := by
    unfold hLay
    rw [so_ne (by omega), so_ne (by omega), so_ne (by omega), so_at]
    unfold vS2 vS1
    rw [if_neg (by omega), if_pos (by omega), k6, if_neg (by omega)]
  refine ⟨P', k4, cl_X5_lay (.ret ?_)⟩
  rw [sg_X5_lay_0, hL]
  unfold hLay at e1 ⊢
  simp (disch := omega) only [nx_of, if_pos, if_neg, if_true, if_false, true_or, or_true, Int.toNat_natCast, Option.bind_some, c1, c2, c3, c4, c5, c6, e1]
