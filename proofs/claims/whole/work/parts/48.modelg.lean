/-! The model's gaps. -/
/-- the bits of the hours of houses that miss, of e houses from i on -/
def mGs (V : nl_O) : Nat → Nat → Nat → Nat
  | 0, _, B => B
  | e + 1, i, B => mGs V e (i + 1) (if vHv V i (V 8 i).toNat ≤ V 5 i - V 7 i then B else B ||| 2 ^ (V 8 i).toNat)
theorem lp_gapSet {LS : Int} {n : Nat} (hn : 4 ≤ n) {h : nl_H} {N : Int} (hN : N ≤ 100000) (hV : vok N (mv (h 6 0))) : ∀ (e i B : Nat), (i : Int) + e = h 6 0 0 0 → B < 128 → nl_Rn LS cd_X6_gapSet (nl_c LS n) ct_X6_gapSet 1 4 [some (vO 6 0), some (vI (B : Int)), some (vI (i : Int))] h (((mGs (mv (h 6 0)) e i B : Nat) : Int), h) := by
  have hn9 : 2 ≤ h 6 0 0 0 ∧ h 6 0 0 0 ≤ 7 := hV.1
  intro e
  induction e with
  | zero =>
    intro i B hi hB
    refine .ret ?_
    rw [sg_X6_gapSet_4]
    simp (disch := omega) only [nx_of, if_pos, if_neg, if_true, if_false, true_or, or_true, Int.toNat_natCast, Option.bind_some, mGs]
  | succ e ih =>
    intro i B hi hB
    have b8 : 0 ≤ h 6 0 6 i ∧ h 6 0 6 i < h 6 0 0 0 := (hV.2.2.2.1 i (show (i : Int) < h 6 0 0 0 by omega)).2.2.2.2.2.1
    obtain ⟨k, hk⟩ : ∃ k : Nat, h 6 0 6 i = k := ⟨(h 6 0 6 i).toNat, by omega⟩
    have c1 := sp_keeps (LS := LS) hn (h := h) (i := i) (k := k) hN hV (by omega) (by omega)
    have z0 : nl_nz 0 = 0 := nx_of (by omega) (by omega)
    have z1 : (0 : Int).toNat = 0 := rfl
    have p9 : (0 : Int) ≤ (B : Int) ∧ (0 : Int) ≤ ((2 ^ k : Nat) : Int) := ⟨Int.natCast_nonneg _, Int.natCast_nonneg _⟩
    simp only [mGs]
    rw [mv_V.2.2.2.2.2.1, mv_V.2.2.2.2.2.2.2.1, mv_V.2.2.2.2.2.2.2.2.1, hk, Int.toNat_natCast]
    by_cases q : vHv (mv (h 6 0)) i k ≤ h 6 0 2 i - h 6 0 7 i
    · rw [if_pos q] at c1 ⊢
      refine .go ?_ (ih (i + 1) B (by omega) hB)
      rw [sg_X6_gapSet_4]
      simp (disch := omega) only [nx_of, if_pos, if_neg, if_true, if_false, true_or, or_true, Int.toNat_natCast, Option.bind_some, hk, c1, z0, z1, Nat.or_zero]
      rfl
    · rw [if_neg q] at c1 ⊢
      refine .go ?_ (ih (i + 1) (B ||| 2 ^ k) (by omega) (bo_lt hB (by omega)))
      rw [sg_X6_gapSet_4]
      simp (disch := omega) only [nx_of, if_pos, if_neg, if_true, if_false, true_or, or_true, Int.toNat_natCast, Option.bind_some, hk, c1, bp_z]
      rfl
