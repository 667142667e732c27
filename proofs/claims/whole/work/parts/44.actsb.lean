/-! What is called from without: pass, undo, keep, back. -/
theorem pu_pass {LS : Int} {n : Nat} (hn : 6 ≤ n) {h : nl_H} {x N : Int} (hx : nl_inR x) (hN : N ≤ 80000) (hc : nl_al LS 2 0 0 = 8) (hS : shok 8 2 10 (h 2 0)) (hV : vok N (h 4 0)) : nl_c LS n m_X5_pass [vO 5 0, vI x] h = some (if 1 ≤ x ∧ x ≤ 20 then (if h 4 0 1 0 + x ≤ 999 then ((vNights x.toNat (h 4 0)).2, so (hp h 0 8 0) 4 0 (vPass x.toNat (h 4 0))) else (-2, h)) else (-1, h)) := by
  obtain ⟨n, rfl, hn1⟩ := nl_suc hn
  have hn9 := hV.1
  have hn8 := hV.2.1
  have c1 := sp_isWithin (LS := LS) (n := n) (by omega) (h := h) (a := 1) (b := 20) hx ⟨by omega, by omega⟩ ⟨by omega, by omega⟩
  refine cl_X5_pass (.ret ?_)
  rw [sg_X5_pass_0]
  by_cases q : 1 ≤ x ∧ x ≤ 20
  · obtain ⟨d, rfl⟩ : ∃ d : Nat, x = d := ⟨x.toNat, by omega⟩
    rw [if_pos q] at c1 ⊢
    rw [Int.toNat_natCast]
    by_cases q2 : h 4 0 1 0 + (d : Int) ≤ 999
    · rw [if_pos q2]
      have c3 : nl_c LS n m_X2_put [vO 2 0, vO 4 0] h = some (0, hp h 0 8 0) := sp_put (LS := LS) (n := n) (by omega) (h := h) (o := 0) (c := 8) (v := 0) hc ⟨by omega, by omega⟩ hS (by omega) (by omega) (by omega)
      have e0 : hp h 0 8 0 4 0 = h 4 0 := hp_v (c := 8) (lo := 2) (hi := 10) ⟨by decide, by decide⟩ hS (by decide) (by decide)
      have c4 := sp_letNightsPass (LS := LS) hn1 (h := hp h 0 8 0) (o := 0) (d := d) (N := N) (by omega) hN (by rw [e0]; exact hV)
      rw [e0] at c4
      simp (disch := omega) only [nx_of, if_pos, if_neg, if_true, if_false, true_or, or_true, Int.toNat_natCast, Option.bind_some, c1, c3, c4]
    · rw [if_neg q2]
      simp (disch := omega) only [nx_of, if_pos, if_neg, if_true, if_false, true_or, or_true, Int.toNat_natCast, Option.bind_some, c1]
  · rw [if_neg q] at c1 ⊢
    simp (disch := omega) only [nx_of, if_pos, if_neg, if_true, if_false, true_or, or_true, Int.toNat_natCast, Option.bind_some, c1]
theorem pu_undo {LS : Int} {n : Nat} (hn : 3 ≤ n) {h : nl_H} (hc : nl_al LS 2 0 0 = 8) (hS : shok 8 2 10 (h 2 0)) : nl_c LS n m_X5_undo [vO 5 0] h = some (if h 2 0 1 0 < 1 then (-2, h) else (h 2 0 1 0 - 1, so (so h 2 0 (vu (h 2 0) 1 0 (h 2 0 1 0 - 1))) 4 0 (vCopy (h 4 0) (h 4 (h 2 0 0 (h 2 0 1 0 - 1).toNat).toNat)))) := by
  obtain ⟨n, rfl, hn1⟩ := nl_suc hn
  have c1 := sp_take (LS := LS) hn1 (h := h) (o := 0) (c := 8) (v := 0) hc ⟨by omega, by omega⟩ hS (by omega) (by omega) (by omega)
  have b := hS.1
  refine cl_X5_undo (.ret ?_)
  rw [sg_X5_undo_0]
  by_cases q : h 2 0 1 0 < 1
  · rw [if_pos q] at c1 ⊢
    simp (disch := omega) only [nx_of, if_pos, if_neg, if_true, if_false, true_or, or_true, Int.toNat_natCast, Option.bind_some, c1]
  · rw [if_neg q] at c1 ⊢
    have e1 : so (so h 2 0 (vu (h 2 0) 1 0 (h 2 0 1 0 - 1))) 4 0 (vCopy (h 4 0) (h 4 (h 2 0 0 (h 2 0 1 0 - 1).toNat).toNat)) 2 0 1 0 = h 2 0 1 0 - 1 := by
      rw [so_ne (by omega), so_at, vu_at]
    simp (disch := omega) only [nx_of, if_pos, if_neg, if_true, if_false, true_or, or_true, Int.toNat_natCast, Option.bind_some, c1, e1]
theorem pu_keep {LS : Int} {n : Nat} (hn : 3 ≤ n) {h : nl_H} (hc : nl_al LS 2 1 0 = 2) (hS : shok 2 10 12 (h 2 1)) : nl_c LS n m_X5_keep [vO 5 0] h = some (if h 2 1 1 0 < 2 then (h 2 1 1 0 + 1, hp h 1 2 0) else (-3, h)) := by
  obtain ⟨n, rfl, hn1⟩ := nl_suc hn
  have b := hS.1
  refine cl_X5_keep (.ret ?_)
  rw [sg_X5_keep_0]
  by_cases q : h 2 1 1 0 < 2
  · rw [if_pos q]
    have c3 : nl_c LS n m_X2_put [vO 2 1, vO 4 0] h = some (0, hp h 1 2 0) := sp_put (LS := LS) (n := n) (by omega) (h := h) (o := 1) (c := 2) (v := 0) hc ⟨by omega, by omega⟩ hS (by omega) (by omega) (by omega)
    have e1 : hp h 1 2 0 2 1 1 0 = h 2 1 1 0 + 1 := by
      unfold hp shPre
      rw [so_at, vu_at, if_pos (by omega)]
    simp (disch := omega) only [nx_of, if_pos, if_neg, if_true, if_false, true_or, or_true, Int.toNat_natCast, Option.bind_some, c3, e1]
  · rw [if_neg q]
    simp (disch := omega) only [nx_of, if_pos, if_neg, if_true, if_false, true_or, or_true, Int.toNat_natCast, Option.bind_some]
theorem pu_back {LS : Int} {n : Nat} (hn : 3 ≤ n) {h : nl_H} (hc : nl_al LS 2 1 0 = 2) (hS : shok 2 10 12 (h 2 1)) : nl_c LS n m_X5_back [vO 5 0] h = some (if h 2 1 1 0 < 1 then (-2, h) else (h 2 1 1 0 - 1, so (so (so h 2 1 (vu (h 2 1) 1 0 (h 2 1 1 0 - 1))) 4 0 (vCopy (h 4 0) (h 4 (h 2 1 0 (h 2 1 1 0 - 1).toNat).toNat))) 2 0 (vu (h 2 0) 1 0 0))) := by
  obtain ⟨n, rfl, hn1⟩ := nl_suc hn
  have c1 := sp_take (LS := LS) hn1 (h := h) (o := 1) (c := 2) (v := 0) hc ⟨by omega, by omega⟩ hS (by omega) (by omega) (by omega)
  have b := hS.1
  refine cl_X5_back (.ret ?_)
  rw [sg_X5_back_0]
  by_cases q : h 2 1 1 0 < 1
  · rw [if_pos q] at c1 ⊢
    simp (disch := omega) only [nx_of, if_pos, if_neg, if_true, if_false, true_or, or_true, Int.toNat_natCast, Option.bind_some, c1]
  · rw [if_neg q] at c1 ⊢
    have c2 := sp_shClear (LS := LS) (n := n) (by omega) (h := so (so h 2 1 (vu (h 2 1) 1 0 (h 2 1 1 0 - 1))) 4 0 (vCopy (h 4 0) (h 4 (h 2 1 0 (h 2 1 1 0 - 1).toNat).toNat))) (o := 0)
    rw [so_ne (by omega), so_ne (by omega)] at c2
    have e1 : so (so (so h 2 1 (vu (h 2 1) 1 0 (h 2 1 1 0 - 1))) 4 0 (vCopy (h 4 0) (h 4 (h 2 1 0 (h 2 1 1 0 - 1).toNat).toNat))) 2 0 (vu (h 2 0) 1 0 0) 2 1 1 0 = h 2 1 1 0 - 1 := by
      rw [so_ne (by omega), so_ne (by omega), so_at, vu_at]
    simp (disch := omega) only [nx_of, if_pos, if_neg, if_true, if_false, true_or, or_true, Int.toNat_natCast, Option.bind_some, c1, c2, e1]
