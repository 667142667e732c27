/-! What is called from without: the acts. -/
/-- the place of a shelf where the next valley goes -/
def shR (c : Nat) (S : nl_O) : Nat := (shPre c S 0 (shPre c S 1 0).toNat).toNat
/-- the heap behind putting valley v by -/
def hp (h : nl_H) (o c v : Nat) : nl_H := so (so h 4 (shR c (h 2 o)) (vCopy (h 4 (shR c (h 2 o))) (h 4 v))) 2 o (vu (shPre c (h 2 o)) 1 0 (shPre c (h 2 o) 1 0 + 1))
theorem shR_in {c : Nat} {lo hi : Int} {S : nl_O} (hc2 : 2 ≤ c ∧ c ≤ 8) (hS : shok c lo hi S) (hlo : 0 ≤ lo) : lo ≤ (shR c S : Int) ∧ (shR c S : Int) < hi := by
  have h1 := hS.1
  unfold shR shPre
  by_cases hf : S 1 0 < c
  · rw [if_pos hf]
    have b := hS.2.1 (S 1 0).toNat (by omega)
    omega
  · have hS2 := shok_drop hc2 hS
    have hf1 : vDrop S c 1 0 = (c : Int) - 1 := by unfold vDrop; rw [vu_at]
    rw [if_neg hf, hf1]
    have b := hS2.2.1 ((c : Int) - 1).toNat (by omega)
    omega
theorem hp_v {h : nl_H} {o c v : Nat} {lo hi : Int} (hc2 : 2 ≤ c ∧ c ≤ 8) (hS : shok c lo hi (h 2 o)) (hlo : 0 ≤ lo) {w : Nat} (hw : (w : Int) < lo) : hp h o c v 4 w = h 4 w := by
  have b := shR_in hc2 hS hlo
  unfold hp
  rw [so_ne (by omega), so_ne (by omega)]
theorem pu_rest {LS : Int} {n : Nat} (hn : 3 ≤ n) {h : nl_H} {x N : Int} (hx : nl_inR x) (hc : nl_al LS 2 0 0 = 8) (hS : shok 8 2 10 (h 2 0)) (hV : vok N (h 4 0)) : nl_c LS n m_X5_rest [vO 5 0, vI x] h = some (if 0 ≤ x ∧ x < h 4 0 0 0 then (if h 4 0 7 x.toNat = 0 then (-2, h) else (vRest (h 4 0) x.toNat 7 x.toNat, so (hp h 0 8 0) 4 0 (vRest (h 4 0) x.toNat))) else (-1, h)) := by
  obtain ⟨n, rfl, hn1⟩ := nl_suc hn
  have hn9 := hV.1
  have c1 := sp_isHouse (LS := LS) (n := n) (by omega) (h := h) (o := 0) hx (by omega)
  refine cl_X5_rest (.ret ?_)
  rw [sg_X5_rest_0]
  by_cases q : 0 ≤ x ∧ x < h 4 0 0 0
  · obtain ⟨i, rfl⟩ : ∃ i : Nat, x = i := ⟨x.toNat, by omega⟩
    rw [if_pos q] at c1 ⊢
    rw [Int.toNat_natCast]
    have b7 := (hV.2.2.2.1 i q.2).2.2.2.2.1
    by_cases q2 : h 4 0 7 i = 0
    · rw [if_pos q2]
      simp (disch := omega) only [nx_of, if_pos, if_neg, if_true, if_false, true_or, or_true, Int.toNat_natCast, Option.bind_some, c1, q2]
    · rw [if_neg q2]
      have c2 : nl_c LS n m_X2_put [vO 2 0, vO 4 0] h = some (0, hp h 0 8 0) := sp_put (LS := LS) (n := n) (by omega) (h := h) (o := 0) (c := 8) (v := 0) hc ⟨by omega, by omega⟩ hS (by omega) (by omega) (by omega)
      have e0 : hp h 0 8 0 4 0 = h 4 0 := hp_v (c := 8) (lo := 2) (hi := 10) ⟨by decide, by decide⟩ hS (by decide) (by decide)
      have c3 := sp_giveRest (LS := LS) (n := n) (by omega) (h := hp h 0 8 0) (o := 0) (i := i) (by omega) (by rw [e0]; exact b7)
      rw [e0] at c3
      simp (disch := omega) only [nx_of, if_pos, if_neg, if_true, if_false, true_or, or_true, Int.toNat_natCast, Option.bind_some, c1, c2, c3, so_at]
  · rw [if_neg q] at c1 ⊢
    simp (disch := omega) only [nx_of, if_pos, if_neg, if_true, if_false, true_or, or_true, Int.toNat_natCast, Option.bind_some, c1]
theorem pu_swap {LS : Int} {n : Nat} (hn : 3 ≤ n) {h : nl_H} {x y N : Int} (hx : nl_inR x) (hy : nl_inR y) (hc : nl_al LS 2 0 0 = 8) (hS : shok 8 2 10 (h 2 0)) (hV : vok N (h 4 0)) : nl_c LS n m_X5_swap [vO 5 0, vI x, vI y] h = some (if ((0 ≤ x ∧ x < h 4 0 0 0) ∧ 0 ≤ y ∧ y < h 4 0 0 0) ∧ x ≠ y then (vTrade (h 4 0) x.toNat y.toNat 8 x.toNat, so (hp h 0 8 0) 4 0 (vTrade (h 4 0) x.toNat y.toNat)) else (-1, h)) := by
  obtain ⟨n, rfl, hn1⟩ := nl_suc hn
  have hn9 := hV.1
  have c1 := sp_isHouse (LS := LS) (n := n) (by omega) (h := h) (o := 0) hx (by omega)
  have c2 := sp_isHouse (LS := LS) (n := n) (by omega) (h := h) (o := 0) hy (by omega)
  refine cl_X5_swap (.ret ?_)
  rw [sg_X5_swap_0]
  by_cases q : 0 ≤ x ∧ x < h 4 0 0 0
  · by_cases q2 : 0 ≤ y ∧ y < h 4 0 0 0
    · rw [if_pos q] at c1
      rw [if_pos q2] at c2
      by_cases q3 : x = y
      · subst q3
        rw [if_neg (fun w => w.2 rfl)]
        simp (disch := omega) only [nx_of, if_pos, if_neg, if_true, if_false, true_or, or_true, Int.toNat_natCast, Option.bind_some, c1, c2]
      · rw [if_pos ⟨⟨q, q2⟩, q3⟩]
        obtain ⟨a, rfl⟩ : ∃ a : Nat, x = a := ⟨x.toNat, by omega⟩
        obtain ⟨b, rfl⟩ : ∃ b : Nat, y = b := ⟨y.toNat, by omega⟩
        have c3 : nl_c LS n m_X2_put [vO 2 0, vO 4 0] h = some (0, hp h 0 8 0) := sp_put (LS := LS) (n := n) (by omega) (h := h) (o := 0) (c := 8) (v := 0) hc ⟨by omega, by omega⟩ hS (by omega) (by omega) (by omega)
        have e0 : hp h 0 8 0 4 0 = h 4 0 := hp_v (c := 8) (lo := 2) (hi := 10) ⟨by decide, by decide⟩ hS (by decide) (by decide)
        have c4 := sp_trade (LS := LS) (n := n) (by omega) (h := hp h 0 8 0) (o := 0) (a := a) (b := b) (by omega) (by omega)
        rw [e0] at c4
        simp (disch := omega) only [nx_of, if_pos, if_neg, if_true, if_false, true_or, or_true, Int.toNat_natCast, Option.bind_some, c1, c2, c3, c4, so_at]
    · rw [if_pos q] at c1
      rw [if_neg q2] at c2
      rw [if_neg (fun w => q2 w.1.2)]
      simp (disch := omega) only [nx_of, if_pos, if_neg, if_true, if_false, true_or, or_true, Int.toNat_natCast, Option.bind_some, c1, c2]
  · rw [if_neg q] at c1
    rw [if_neg (fun w => q w.1.1)]
    simp (disch := omega) only [nx_of, if_pos, if_neg, if_true, if_false, true_or, or_true, Int.toNat_natCast, Option.bind_some, c1]
theorem pu_burden {LS : Int} {n : Nat} (hn : 3 ≤ n) {h : nl_H} {x y N : Int} (hx : nl_inR x) (hy : nl_inR y) (hc : nl_al LS 2 0 0 = 8) (hS : shok 8 2 10 (h 2 0)) (hV : vok N (h 4 0)) : nl_c LS n m_X5_burden [vO 5 0, vI x, vI y] h = some (if (0 ≤ x ∧ x < h 4 0 0 0) ∧ 0 ≤ y ∧ y ≤ 20 then (if h 4 0 3 x.toNat = y then (-2, h) else (h 4 0 3 x.toNat, so (hp h 0 8 0) 4 0 (vu (h 4 0) 3 x.toNat y))) else (-1, h)) := by
  obtain ⟨n, rfl, hn1⟩ := nl_suc hn
  have hn9 := hV.1
  have c1 := sp_isHour (LS := LS) (n := n) (by omega) (h := h) (o := 0) hx (by omega)
  have c2 := sp_isWithin (LS := LS) (n := n) (by omega) (h := h) (a := 0) (b := 20) hy ⟨by omega, by omega⟩ ⟨by omega, by omega⟩
  refine cl_X5_burden (.ret ?_)
  rw [sg_X5_burden_0]
  by_cases q : 0 ≤ x ∧ x < h 4 0 0 0
  · by_cases q2 : 0 ≤ y ∧ y ≤ 20
    · rw [if_pos q] at c1
      rw [if_pos q2] at c2
      rw [if_pos ⟨q, q2⟩]
      obtain ⟨k, rfl⟩ : ∃ k : Nat, x = k := ⟨x.toNat, by omega⟩
      have b3 := (hV.2.2.2.1 k q.2).1
      rw [Int.toNat_natCast]
      by_cases q3 : h 4 0 3 k = y
      · rw [if_pos q3]
        simp (disch := omega) only [nx_of, if_pos, if_neg, if_true, if_false, true_or, or_true, Int.toNat_natCast, Option.bind_some, c1, c2, q3]
      · rw [if_neg q3]
        have c3 : nl_c LS n m_X2_put [vO 2 0, vO 4 0] h = some (0, hp h 0 8 0) := sp_put (LS := LS) (n := n) (by omega) (h := h) (o := 0) (c := 8) (v := 0) hc ⟨by omega, by omega⟩ hS (by omega) (by omega) (by omega)
        have e0 : hp h 0 8 0 4 0 = h 4 0 := hp_v (c := 8) (lo := 2) (hi := 10) ⟨by decide, by decide⟩ hS (by decide) (by decide)
        have c4 := sp_setBurden (LS := LS) (n := n) (by omega) (h := hp h 0 8 0) (o := 0) (k := k) (x := y) (by rw [e0]; exact q.2) (by rw [e0]; omega)
        rw [e0] at c4
        simp (disch := omega) only [nx_of, if_pos, if_neg, if_true, if_false, true_or, or_true, Int.toNat_natCast, Option.bind_some, c1, c2, c3, c4]
    · rw [if_pos q] at c1
      rw [if_neg q2] at c2
      rw [if_neg (fun w => q2 w.2)]
      simp (disch := omega) only [nx_of, if_pos, if_neg, if_true, if_false, true_or, or_true, Int.toNat_natCast, Option.bind_some, c1, c2]
  · rw [if_neg q] at c1
    rw [if_neg (fun w => q w.1)]
    simp (disch := omega) only [nx_of, if_pos, if_neg, if_true, if_false, true_or, or_true, Int.toNat_natCast, Option.bind_some, c1]
