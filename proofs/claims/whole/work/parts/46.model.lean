/-! The model's valley, in the class's layout; its small methods. -/
/-- the model's fields, by the valley's: its object seen as a valley, and back -/
def mR (k : Nat) : Nat := if k = 0 then 0 else if k = 1 then 4 else if k = 2 then 5 else if k = 3 then 10 else if k = 4 then 1 else if k = 5 then 2 else if k = 6 then 3 else if k = 7 then 7 else if k = 8 then 6 else if k = 9 then 8 else if k = 10 then 9 else k
def mT (k : Nat) : Nat := if k = 0 then 0 else if k = 1 then 4 else if k = 2 then 5 else if k = 3 then 6 else if k = 4 then 1 else if k = 5 then 2 else if k = 6 then 8 else if k = 7 then 7 else if k = 8 then 9 else if k = 9 then 10 else if k = 10 then 3 else k
def mv (M : nl_O) : nl_O := fun k => M (mR k)
def mw (V : nl_O) : nl_O := fun k => V (mT k)
theorem mTR (k : Nat) : mT (mR k) = k := by
  by_cases q : k ≤ 10
  · rcases (show k = 0 ∨ k = 1 ∨ k = 2 ∨ k = 3 ∨ k = 4 ∨ k = 5 ∨ k = 6 ∨ k = 7 ∨ k = 8 ∨ k = 9 ∨ k = 10 by omega) with rfl | rfl | rfl | rfl | rfl | rfl | rfl | rfl | rfl | rfl | rfl <;> rfl
  · simp (disch := omega) only [mR, mT, if_neg]
theorem mRT (k : Nat) : mR (mT k) = k := by
  by_cases q : k ≤ 10
  · rcases (show k = 0 ∨ k = 1 ∨ k = 2 ∨ k = 3 ∨ k = 4 ∨ k = 5 ∨ k = 6 ∨ k = 7 ∨ k = 8 ∨ k = 9 ∨ k = 10 by omega) with rfl | rfl | rfl | rfl | rfl | rfl | rfl | rfl | rfl | rfl | rfl <;> rfl
  · simp (disch := omega) only [mR, mT, if_neg]
theorem mv_mw (V : nl_O) : mv (mw V) = V := by
  funext k
  show V (mT (mR k)) = V k
  rw [mTR]
theorem mw_mv (M : nl_O) : mw (mv M) = M := by
  funext k
  show M (mR (mT k)) = M k
  rw [mRT]
theorem sp_in {LS : Int} {n : Nat} (hn : 1 ≤ n) {h : nl_H} {x a b : Int} (hx : nl_inR x) (ha : nl_inR a) (hb : nl_inR b) : nl_c LS n m_X6_in [vI x, vI a, vI b] h = some (if a ≤ x ∧ x ≤ b then 1 else 0, h) := by
  obtain ⟨n, rfl, hn1⟩ := nl_suc hn
  obtain ⟨hx1, hx2⟩ := hx
  obtain ⟨ha1, ha2⟩ := ha
  obtain ⟨hb1, hb2⟩ := hb
  refine cl_X6_in (.ret ?_)
  rw [sg_X6_in_0]
  simp (disch := omega) only [nx_of]
  by_cases h1 : a ≤ x <;> by_cases h2 : x ≤ b <;> simp (disch := omega) only [if_pos, if_neg]
theorem sp_greater {LS : Int} {n : Nat} (hn : 1 ≤ n) {h : nl_H} {a b : Int} (ha : nl_inR a) (hb : nl_inR b) : nl_c LS n m_X6_greater [vI a, vI b] h = some (if a ≤ b then b else a, h) := by
  obtain ⟨n, rfl, hn1⟩ := nl_suc hn
  obtain ⟨ha1, ha2⟩ := ha
  obtain ⟨hb1, hb2⟩ := hb
  refine cl_X6_greater (.ret ?_)
  rw [sg_X6_greater_0]
  by_cases q : a ≤ b
  · rw [if_pos q]; simp (disch := omega) only [nx_of, if_pos, if_neg, if_true, if_false, true_or, or_true, Int.toNat_natCast, Option.bind_some]
  · rw [if_neg q]; simp (disch := omega) only [nx_of, if_pos, if_neg, if_true, if_false, true_or, or_true, Int.toNat_natCast, Option.bind_some]
theorem sp_lesser {LS : Int} {n : Nat} (hn : 1 ≤ n) {h : nl_H} {a b : Int} (ha : nl_inR a) (hb : nl_inR b) : nl_c LS n m_X6_lesser [vI a, vI b] h = some (if b ≤ a then b else a, h) := by
  obtain ⟨n, rfl, hn1⟩ := nl_suc hn
  obtain ⟨ha1, ha2⟩ := ha
  obtain ⟨hb1, hb2⟩ := hb
  refine cl_X6_lesser (.ret ?_)
  rw [sg_X6_lesser_0]
  by_cases q : b ≤ a
  · rw [if_pos q]; simp (disch := omega) only [nx_of, if_pos, if_neg, if_true, if_false, true_or, or_true, Int.toNat_natCast, Option.bind_some]
  · rw [if_neg q]; simp (disch := omega) only [nx_of, if_pos, if_neg, if_true, if_false, true_or, or_true, Int.toNat_natCast, Option.bind_some]
/-- the model's hour had most often among the first k: (how often, which; -4) -/
def mMst (V : nl_O) (i : Nat) (k : Nat) : Int × Int := ((vMst V i k).1, if (vMst V i k).2 = -1 then -4 else (vMst V i k).2)
theorem mv_V {M : nl_O} : mv M 0 = M 0 ∧ mv M 1 = M 4 ∧ mv M 2 = M 5 ∧ mv M 3 = M 10 ∧ mv M 4 = M 1 ∧ mv M 5 = M 2 ∧ mv M 6 = M 3 ∧ mv M 7 = M 7 ∧ mv M 8 = M 6 ∧ mv M 9 = M 8 ∧ mv M 10 = M 9 :=
  ⟨rfl, rfl, rfl, rfl, rfl, rfl, rfl, rfl, rfl, rfl, rfl⟩
theorem lp_mostOften {LS : Int} {n : Nat} (hn : 1 ≤ n) {h : nl_H} {i : Nat} {N : Int} (hN : N ≤ 100000) (hV : vok N (mv (h 6 0))) (hi : (i : Int) < h 6 0 0 0) : ∀ (d j : Nat) (w : Option nl_V), (j : Int) + d = h 6 0 0 0 → nl_Rn LS cd_X6_mostOften (nl_c LS n) ct_X6_mostOften 1 8 [some (vO 6 0), some (vI (i : Int)), some (vI (mMst (mv (h 6 0)) i j).2), some (vI (mMst (mv (h 6 0)) i j).1), some (vI (j : Int)), w] h ((mMst (mv (h 6 0)) i (j + d)).2, h) := by
  have hn9 : 2 ≤ h 6 0 0 0 ∧ h 6 0 0 0 ≤ 7 := hV.1
  intro d
  induction d with
  | zero =>
    intro j w hj
    refine .ret ?_
    rw [sg_X6_mostOften_8]
    simp (disch := omega) only [nx_of, if_pos, if_neg, if_true, if_false, true_or, or_true, Int.toNat_natCast, Option.bind_some]
    rfl
  | succ d ih =>
    intro j w hj
    have h1 := vMst_in hV hi j (by have : mv (h 6 0) 0 0 = h 6 0 0 0 := rfl; omega)
    have h2 : 0 ≤ h 6 0 9 (i * 7 + j) ∧ h 6 0 9 (i * 7 + j) ≤ N := hV.2.2.2.2 i j hi (show (j : Int) < h 6 0 0 0 by omega)
    have e1 : 7 * (i : Int) + (j : Int) = ((i * 7 + j : Nat) : Int) := by omega
    have e2 : j + (d + 1) = j + 1 + d := by omega
    have em : mv (h 6 0) 10 (i * 7 + j) = h 6 0 9 (i * 7 + j) := rfl
    have c1 := sp_greater (LS := LS) hn (h := h) (a := (mMst (mv (h 6 0)) i j).1) (b := h 6 0 9 (i * 7 + j)) ⟨by unfold mMst; dsimp only; omega, by unfold mMst; dsimp only; omega⟩ ⟨by omega, by omega⟩
    rw [e2]
    have k9 := ih (j + 1) (some (vI (h 6 0 9 (i * 7 + j)))) (by omega)
    have g1 : (mMst (mv (h 6 0)) i j).1 = (vMst (mv (h 6 0)) i j).1 := rfl
    by_cases q : h 6 0 9 (i * 7 + j) ≤ (vMst (mv (h 6 0)) i j).1
    · have e9 : mMst (mv (h 6 0)) i (j + 1) = mMst (mv (h 6 0)) i j := by
        have es : vMst (mv (h 6 0)) i (j + 1) = vMst (mv (h 6 0)) i j := by simp only [vMst]; rw [em, if_pos q]
        unfold mMst; rw [es]
      rw [e9] at k9
      have c2 : (if (mMst (mv (h 6 0)) i j).1 ≤ h 6 0 9 (i * 7 + j) then h 6 0 9 (i * 7 + j) else (mMst (mv (h 6 0)) i j).1) = (mMst (mv (h 6 0)) i j).1 := by rw [g1]; split <;> omega
      rw [c2] at c1
      refine .go ?_ k9
      rw [sg_X6_mostOften_8, e1]
      simp (disch := omega) only [nx_of, if_pos, if_neg, if_true, if_false, true_or, or_true, Int.toNat_natCast, Option.bind_some, c1]
      rfl
    · have e9 : mMst (mv (h 6 0)) i (j + 1) = (h 6 0 9 (i * 7 + j), (j : Int)) := by
        have es : vMst (mv (h 6 0)) i (j + 1) = (h 6 0 9 (i * 7 + j), (j : Int)) := by simp only [vMst]; rw [em, if_neg q]
        unfold mMst; rw [es]; dsimp only; rw [if_neg (by omega)]
      rw [e9] at k9
      rw [if_pos (by rw [g1]; omega)] at c1
      refine .go ?_ k9
      rw [sg_X6_mostOften_8, e1]
      simp (disch := omega) only [nx_of, if_pos, if_neg, if_true, if_false, true_or, or_true, Int.toNat_natCast, Option.bind_some, c1]
      rfl
theorem sp_mostOften {LS : Int} {n : Nat} (hn : 2 ≤ n) {h : nl_H} {i : Nat} {N : Int} (hN : N ≤ 100000) (hV : vok N (mv (h 6 0))) (hi : (i : Int) < h 6 0 0 0) : nl_c LS n m_X6_mostOften [vO 6 0, vI (i : Int)] h = some ((mMst (mv (h 6 0)) i (vN (mv (h 6 0)))).2, h) := by
  obtain ⟨n, rfl, hn1⟩ := nl_suc hn
  have e : (vN (mv (h 6 0)) : Int) = h 6 0 0 0 := vN_eq hV
  have k9 := lp_mostOften (LS := LS) hn1 hN hV hi (vN (mv (h 6 0))) 0 none (by omega)
  rw [Nat.zero_add] at k9
  refine cl_X6_mostOften (.go ?_ k9)
  rw [sg_X6_mostOften_0]
  rfl
