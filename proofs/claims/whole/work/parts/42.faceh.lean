/-! What is called from without: likely. -/
/-- the tenths kept, of d hours from k on, behind g -/
def vAb (V : nl_O) (i : Nat) (x t u : Int) : Nat → Nat → Int → Int
  | 0, _, g => g
  | d + 1, k, g => vAb V i x t u d (k + 1) (g + (if vHv V i k ≤ V 5 i - t then 10 - x else 0) + (if vHv V i k ≤ V 5 i - u then x else 0))
theorem vAb_in {V : nl_O} {i : Nat} {x t u : Int} (hx : 0 ≤ x ∧ x ≤ 9) : ∀ (d k : Nat) (g : Int), g ≤ vAb V i x t u d k g ∧ vAb V i x t u d k g ≤ g + 10 * d := by
  intro d
  induction d with
  | zero => intro k g; simp only [vAb]; omega
  | succ d ih =>
    intro k g
    have k9 := ih (k + 1) (g + (if vHv V i k ≤ V 5 i - t then 10 - x else 0) + (if vHv V i k ≤ V 5 i - u then x else 0))
    have a1 : 0 ≤ (if vHv V i k ≤ V 5 i - t then 10 - x else 0) ∧ (if vHv V i k ≤ V 5 i - t then 10 - x else 0) ≤ 10 - x := by split <;> omega
    have a2 : 0 ≤ (if vHv V i k ≤ V 5 i - u then x else 0) ∧ (if vHv V i k ≤ V 5 i - u then x else 0) ≤ x := by split <;> omega
    simp only [vAb]
    generalize (if vHv V i k ≤ V 5 i - t then 10 - x else 0) = p at k9 a1 ⊢
    generalize (if vHv V i k ≤ V 5 i - u then x else 0) = q at k9 a2 ⊢
    omega
/-- the answer: above, below, without what they share -/
def lkA (V : nl_O) (g z : Int) : Int := if z = 0 then ((g.toNat / ld g.toNat (10 * vN V) (10 * vN V) : Nat) : Int) else ((10 * vN V / ld g.toNat (10 * vN V) (10 * vN V) : Nat) : Int)
theorem lp_likely {LS : Int} {n : Nat} (hn : 3 ≤ n) {h : nl_H} {N x t u z : Int} {i : Nat} (hN : N ≤ 100000) (hV : vok N (h 4 0)) (hi : (i : Int) < h 4 0 0 0) (hx : 0 ≤ x ∧ x ≤ 9) (ht : 0 ≤ t ∧ t ≤ 40) (hu : 0 ≤ u ∧ u ≤ 40) (hz : z = 0 ∨ z = 1) : ∀ (d k : Nat) (g : Int), (k : Int) + d = h 4 0 0 0 → 0 ≤ g → g ≤ 10 * k → nl_Rn LS cd_X5_likely (nl_c LS n) ct_X5_likely 1 60 [some (vO 5 0), some (vI (i : Int)), some (vI x), some (vI z), some (vI t), some (vI u), some (vI g), some (vI (k : Int)), none] h (lkA (h 4 0) (vAb (h 4 0) i x t u d k g) z, h) := by
  have hn9 := hV.1
  have e := vN_eq hV
  intro d
  induction d with
  | zero =>
    intro k g hk hg1 hg2
    obtain ⟨a, rfl⟩ : ∃ a : Nat, g = a := ⟨g.toNat, by omega⟩
    have e1 : 10 * h 4 0 0 0 = ((10 * vN (h 4 0) : Nat) : Int) := by omega
    have c1 := sp_largestDivisor (LS := LS) (n := n) (by omega) (h := h) (a := a) (b := 10 * vN (h 4 0)) (by omega) (by omega)
    have b1 := ld_in a (10 * vN (h 4 0)) (10 * vN (h 4 0))
    have b2 : vN (h 4 0) ≤ 7 := by omega
    refine .ret ?_
    rw [sg_X5_likely_60, e1]
    simp only [vAb]
    unfold lkA
    rw [Int.toNat_natCast]
    generalize ld a (10 * vN (h 4 0)) (10 * vN (h 4 0)) = s at c1 b1 ⊢
    have z1 : nl_nz (s : Int) = s := nz_nat (by omega)
    have z2 : nl_nz (a : Int) = a := nz_nat (by omega)
    have z3 : nl_nz ((10 * vN (h 4 0) : Nat) : Int) = ((10 * vN (h 4 0) : Nat) : Int) := nz_nat (by omega)
    rcases hz with rfl | rfl
    · simp (disch := omega) only [nx_of, if_pos, if_neg, if_true, if_false, true_or, or_true, Int.toNat_natCast, Option.bind_some, c1, z1, z2, z3, nx_td]
    · simp (disch := omega) only [nx_of, if_pos, if_neg, if_true, if_false, true_or, or_true, Int.toNat_natCast, Option.bind_some, c1, z1, z2, z3, nx_td]
  | succ d ih =>
    intro k g hk hg1 hg2
    have c1 := sp_wouldKeep (LS := LS) hn (h := h) (o := 0) (i := i) (k := k) (t := t) hN hV hi (by omega) (by omega)
    have c2 := sp_wouldKeep (LS := LS) hn (h := h) (o := 0) (i := i) (k := k) (t := u) hN hV hi (by omega) (by omega)
    simp only [vAb]
    by_cases q1 : vHv (h 4 0) i k ≤ h 4 0 5 i - t
    · by_cases q2 : vHv (h 4 0) i k ≤ h 4 0 5 i - u
      · rw [if_pos q1] at c1 ⊢
        rw [if_pos q2] at c2 ⊢
        refine .go ?_ (ih (k + 1) (g + (10 - x) + x) (by omega) (by omega) (by omega))
        rw [sg_X5_likely_60]
        simp (disch := omega) only [nx_of, if_pos, if_neg, if_true, if_false, true_or, or_true, Int.toNat_natCast, Option.bind_some, c1, c2]
        rfl
      · rw [if_pos q1] at c1 ⊢
        rw [if_neg q2] at c2 ⊢
        refine .go ?_ (ih (k + 1) (g + (10 - x) + 0) (by omega) (by omega) (by omega))
        rw [sg_X5_likely_60]
        simp (disch := omega) only [nx_of, if_pos, if_neg, if_true, if_false, true_or, or_true, Int.toNat_natCast, Option.bind_some, c1, c2]
        rfl
    · by_cases q2 : vHv (h 4 0) i k ≤ h 4 0 5 i - u
      · rw [if_neg q1] at c1 ⊢
        rw [if_pos q2] at c2 ⊢
        refine .go ?_ (ih (k + 1) (g + 0 + x) (by omega) (by omega) (by omega))
        rw [sg_X5_likely_60]
        simp (disch := omega) only [nx_of, if_pos, if_neg, if_true, if_false, true_or, or_true, Int.toNat_natCast, Option.bind_some, c1, c2]
        rfl
      · rw [if_neg q1] at c1 ⊢
        rw [if_neg q2] at c2 ⊢
        refine .go ?_ (ih (k + 1) (g + 0 + 0) (by omega) (by omega) (by omega))
        rw [sg_X5_likely_60]
        simp (disch := omega) only [nx_of, if_pos, if_neg, if_true, if_false, true_or, or_true, Int.toNat_natCast, Option.bind_some, c1, c2]
        rfl
def rLikely (V : nl_O) (x y z : Int) : Int :=
  if (0 ≤ x ∧ x < V 0 0) ∧ (0 ≤ y ∧ y ≤ 9) ∧ 0 ≤ z ∧ z ≤ 1 then lkA V (vAb V x.toNat y (V 7 x.toNat) (if 40 < V 7 x.toNat + y then 40 else V 7 x.toNat + y) (vN V) 0 0) z else -1
theorem pu_likely {LS : Int} {n : Nat} (hn : 4 ≤ n) {h : nl_H} {x y z N : Int} (hx : nl_inR x) (hy : nl_inR y) (hz : nl_inR z) (hN : N ≤ 100000) (hV : vok N (h 4 0)) : nl_c LS n m_X5_likely [vO 5 0, vI x, vI y, vI z] h = some (rLikely (h 4 0) x y z, h) := by
  obtain ⟨n, rfl, hn1⟩ := nl_suc hn
  have hn9 := hV.1
  have e := vN_eq hV
  have c1 := sp_isHouse (LS := LS) (n := n) (by omega) (h := h) (o := 0) hx (by omega)
  have c2 := sp_isWithin (LS := LS) (n := n) (by omega) (h := h) (a := 0) (b := 9) hy ⟨by omega, by omega⟩ ⟨by omega, by omega⟩
  have c3 := sp_isWithin (LS := LS) (n := n) (by omega) (h := h) (a := 0) (b := 1) hz ⟨by omega, by omega⟩ ⟨by omega, by omega⟩
  unfold rLikely
  by_cases q1 : 0 ≤ x ∧ x < h 4 0 0 0
  · by_cases q2 : 0 ≤ y ∧ y ≤ 9
    · by_cases q3 : 0 ≤ z ∧ z ≤ 1
      · obtain ⟨i, rfl⟩ : ∃ i : Nat, x = i := ⟨x.toNat, by omega⟩
        have b7 := (hV.2.2.2.1 i q1.2).2.2.2.2.1
        rw [if_pos ⟨q1, q2, q3⟩, Int.toNat_natCast]
        rw [if_pos q1] at c1
        rw [if_pos q2] at c2
        rw [if_pos q3] at c3
        by_cases q4 : 40 < h 4 0 7 i + y
        · have k9 := lp_likely (LS := LS) hn1 (h := h) (i := i) (x := y) (t := h 4 0 7 i) (u := 40) (z := z) hN hV q1.2 q2 b7 (by omega) (by omega) (vN (h 4 0)) 0 0 (by omega) (by omega) (by omega)
          rw [if_pos q4]
          refine cl_X5_likely (.go ?_ k9)
          rw [sg_X5_likely_0]
          simp (disch := omega) only [nx_of, if_pos, if_neg, if_true, if_false, true_or, or_true, Int.toNat_natCast, Option.bind_some, c1, c2, c3]
          rfl
        · have k9 := lp_likely (LS := LS) hn1 (h := h) (i := i) (x := y) (t := h 4 0 7 i) (u := h 4 0 7 i + y) (z := z) hN hV q1.2 q2 b7 (by omega) (by omega) (vN (h 4 0)) 0 0 (by omega) (by omega) (by omega)
          rw [if_neg q4]
          refine cl_X5_likely (.go ?_ k9)
          rw [sg_X5_likely_0]
          simp (disch := omega) only [nx_of, if_pos, if_neg, if_true, if_false, true_or, or_true, Int.toNat_natCast, Option.bind_some, c1, c2, c3]
          rfl
      · refine cl_X5_likely (.ret ?_)
        rw [sg_X5_likely_0, if_neg (fun w => q3 w.2.2)]
        rw [if_pos q1] at c1
        rw [if_pos q2] at c2
        rw [if_neg q3] at c3
        simp (disch := omega) only [nx_of, if_pos, if_neg, if_true, if_false, true_or, or_true, Int.toNat_natCast, Option.bind_some, c1, c2, c3]
    · refine cl_X5_likely (.ret ?_)
      rw [sg_X5_likely_0, if_neg (fun w => q2 w.2.1)]
      rw [if_pos q1] at c1
      rw [if_neg q2] at c2
      simp (disch := omega) only [nx_of, if_pos, if_neg, if_true, if_false, true_or, or_true, Int.toNat_natCast, Option.bind_some, c1, c2]
  · refine cl_X5_likely (.ret ?_)
    rw [sg_X5_likely_0, if_neg (fun w => q1 w.1)]
    rw [if_neg q1] at c1
    simp (disch := omega) only [nx_of, if_pos, if_neg, if_true, if_false, true_or, or_true, Int.toNat_natCast, Option.bind_some, c1]
