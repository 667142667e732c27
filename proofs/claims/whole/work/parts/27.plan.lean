/-! Texts: a pure parser, and the class that reads so. -/
/-- one or two figures from p on: the number, the place behind -/
def rn (T : Nat → Int) (L p : Nat) : Int × Nat :=
  if p < L ∧ 48 ≤ T p ∧ T p ≤ 57 then (if p + 1 < L ∧ 48 ≤ T (p + 1) ∧ T (p + 1) ≤ 57 then ((T p - 48) * 10 + T (p + 1) - 48, p + 2) else (T p - 48, p + 1)) else (0, p)
theorem rn_in (T : Nat → Int) (L p : Nat) : (0 ≤ (rn T L p).1 ∧ (rn T L p).1 ≤ 99) ∧ p ≤ (rn T L p).2 ∧ (rn T L p).2 ≤ p + 2 := by
  unfold rn
  split
  · split <;> (dsimp only; omega)
  · dsimp only; omega
/-- an item from p on, of hr hours and ho houses so far: the place behind, an hour or not, its numbers -/
def pItem (T : Nat → Int) (L : Nat) (hr ho : Int) (p : Nat) : Option (Nat × Bool × Int × Int × Int) :=
  if T p = 110 then
    (if (p + 1 < (rn T L (p + 1)).2 ∧ (rn T L (p + 1)).2 < L ∧ T (rn T L (p + 1)).2 = 59) ∧ hr < 7 ∧ (rn T L (p + 1)).1 ≤ 20 then some ((rn T L (p + 1)).2 + 1, true, (rn T L (p + 1)).1, 0, 0) else none)
  else if T p = 104 then
    (if (p + 1 < (rn T L (p + 1)).2 ∧ (rn T L (p + 1)).2 < L ∧ T (rn T L (p + 1)).2 = 44) ∧
        ((rn T L (p + 1)).2 + 1 < (rn T L ((rn T L (p + 1)).2 + 1)).2 ∧ (rn T L ((rn T L (p + 1)).2 + 1)).2 < L ∧ T (rn T L ((rn T L (p + 1)).2 + 1)).2 = 44) ∧
        ((rn T L ((rn T L (p + 1)).2 + 1)).2 + 1 < (rn T L ((rn T L ((rn T L (p + 1)).2 + 1)).2 + 1)).2 ∧ (rn T L ((rn T L ((rn T L (p + 1)).2 + 1)).2 + 1)).2 < L ∧ T (rn T L ((rn T L ((rn T L (p + 1)).2 + 1)).2 + 1)).2 = 59) ∧
        ho < hr ∧ (rn T L (p + 1)).1 ≤ 3 ∧ (rn T L ((rn T L (p + 1)).2 + 1)).1 ≤ 40 ∧ (rn T L ((rn T L ((rn T L (p + 1)).2 + 1)).2 + 1)).1 ≤ 99
      then some ((rn T L ((rn T L ((rn T L (p + 1)).2 + 1)).2 + 1)).2 + 1, false, (rn T L (p + 1)).1, (rn T L ((rn T L (p + 1)).2 + 1)).1, (rn T L ((rn T L ((rn T L (p + 1)).2 + 1)).2 + 1)).1) else none)
  else none
/-- an item laid behind the others -/
def pStep (Q : nl_O) (b : Bool) (x y z : Int) : nl_O := if b then vu (vu Q 0 (Q 5 0).toNat x) 5 0 (Q 5 0 + 1) else vu (vu (vu (vu Q 1 (Q 6 0).toNat x) 2 (Q 6 0).toNat y) 3 (Q 6 0).toNat z) 6 0 (Q 6 0 + 1)
def pAll (T : Nat → Int) (L : Nat) : Nat → Nat → nl_O → Int × nl_O
  | 0, _, Q => (-1, Q)
  | d + 1, p, Q => if L ≤ p then (-1, Q) else match pItem T L (Q 5 0) (Q 6 0) p with
    | none => ((p : Int), Q)
    | some (e, b, x, y, z) => pAll T L d e (pStep Q b x y z)
/-- a text of L letters -/
def tok (T : Nat → Int) (L : Nat) : Prop := L ≤ 200 ∧ ∀ i, i < L → 32 ≤ T i ∧ T i ≤ 126
theorem sp_readNumber {LS : Int} {n : Nat} (hn : 2 ≤ n) {h : nl_H} {L p i : Nat} (hT : tok (h 5 0 0) L) (hp : p ≤ 300) (hi : i < 3) : nl_c LS n m_X1_readNumber [vO 1 0, vA 5 0 0, vI (L : Int), vI (p : Int), vI (i : Int)] h = some (((rn (h 5 0 0) L p).2 : Int), so h 1 0 (vu (h 1 0) 4 i (rn (h 5 0 0) L p).1)) := by
  obtain ⟨n, rfl, hn1⟩ := nl_suc hn
  have hL := hT.1
  have hw : ∀ j : Nat, j < L → nl_c LS n m_X5_isWithin [vI (h 5 0 0 j), vI 48, vI 57] h = some (if 48 ≤ h 5 0 0 j ∧ h 5 0 0 j ≤ 57 then 1 else 0, h) := fun j hj => by
    have := hT.2 j hj
    exact sp_isWithin hn1 ⟨by omega, by omega⟩ ⟨by omega, by omega⟩ ⟨by omega, by omega⟩
  refine cl_X1_readNumber (.go (pc' := 6) (by rw [sg_X1_readNumber_0]) ?_)
  unfold rn
  have stop : ∀ (q : Nat) (x : Int), q ≤ 400 → -100 ≤ x → x ≤ 100 → (L ≤ q ∨ p + 2 ≤ q ∨ ¬ (48 ≤ h 5 0 0 q ∧ h 5 0 0 q ≤ 57)) → nl_Rn LS cd_X1_readNumber (nl_c LS n) ct_X1_readNumber 1 6 [some (vO 1 0), some (vA 5 0 0), some (vI (L : Int)), some (vI (p : Int)), some (vI (i : Int)), some (vI x), some (vI (q : Int))] h ((q : Int), so h 1 0 (vu (h 1 0) 4 i x)) := by
    intro q x hq hx1 hx2 hs
    refine .ret ?_
    rw [sg_X1_readNumber_6]
    by_cases q1 : L ≤ q
    · simp (disch := omega) only [nx_of, if_pos, if_neg, if_true, if_false, true_or, or_true, Int.toNat_natCast, Option.bind_some, up_so]
    · by_cases q2 : p + 2 ≤ q
      · simp (disch := omega) only [nx_of, if_pos, if_neg, if_true, if_false, true_or, or_true, Int.toNat_natCast, Option.bind_some, up_so]
      · have q3 : ¬ (48 ≤ h 5 0 0 q ∧ h 5 0 0 q ≤ 57) := by omega
        have := hT.2 q (by omega)
        simp (disch := omega) only [nx_of, if_pos, if_neg, if_true, if_false, true_or, or_true, Int.toNat_natCast, Option.bind_some, hw q (by omega), q3, up_so]
  have step : ∀ (q : Nat) (x : Int) (r : Int × nl_H), q ≤ 400 → q < L → q < p + 2 → (48 ≤ h 5 0 0 q ∧ h 5 0 0 q ≤ 57) → nl_Rn LS cd_X1_readNumber (nl_c LS n) ct_X1_readNumber 1 6 [some (vO 1 0), some (vA 5 0 0), some (vI (L : Int)), some (vI (p : Int)), some (vI (i : Int)), some (vI (x * 10 + h 5 0 0 q - 48)), some (vI ((q + 1 : Nat) : Int))] h r → nl_Rn LS cd_X1_readNumber (nl_c LS n) ct_X1_readNumber 1 6 [some (vO 1 0), some (vA 5 0 0), some (vI (L : Int)), some (vI (p : Int)), some (vI (i : Int)), some (vI x), some (vI (q : Int))] h r := by
    intro q x r hq q1 q2 q3 k
    refine .go ?_ k
    rw [sg_X1_readNumber_6]
    simp (disch := omega) only [nx_of, if_pos, if_neg, if_true, if_false, true_or, or_true, Int.toNat_natCast, Option.bind_some, hw q q1, q3, and_self]
    rfl
  by_cases a1 : p < L ∧ 48 ≤ h 5 0 0 p ∧ h 5 0 0 p ≤ 57
  · rw [if_pos a1]
    refine step p 0 _ (by omega) a1.1 (by omega) a1.2 ?_
    by_cases a2 : p + 1 < L ∧ 48 ≤ h 5 0 0 (p + 1) ∧ h 5 0 0 (p + 1) ≤ 57
    · rw [if_pos a2]
      refine step (p + 1) _ _ (by omega) a2.1 (by omega) a2.2 ?_
      have := stop (p + 2) ((0 * 10 + h 5 0 0 p - 48) * 10 + h 5 0 0 (p + 1) - 48) (by omega) (by omega) (by omega) (by omega)
      rw [show (0 * 10 + h 5 0 0 p - 48) * 10 + h 5 0 0 (p + 1) - 48 = (h 5 0 0 p - 48) * 10 + h 5 0 0 (p + 1) - 48 by omega] at this ⊢
      exact this
    · rw [if_neg a2]
      have := stop (p + 1) (0 * 10 + h 5 0 0 p - 48) (by omega) (by omega) (by omega) (by omega)
      rw [show 0 * 10 + h 5 0 0 p - 48 = h 5 0 0 p - 48 by omega] at this ⊢
      exact this
  · rw [if_neg a1]
    exact stop p 0 (by omega) (by omega) (by omega) (by omega)
/-- the same but for the numbers read -/
def pEq (P Q : nl_O) : Prop := ∀ k, k ≠ 4 → P k = Q k
theorem sp_addHour {LS : Int} {n : Nat} (hn : 1 ≤ n) {h : nl_H} (h5 : 0 ≤ h 1 0 5 0 ∧ h 1 0 5 0 ≤ 7) (h4 : 0 ≤ h 1 0 4 0 ∧ h 1 0 4 0 ≤ 99) : nl_c LS n m_X1_addHour [vO 1 0] h = some (if h 1 0 5 0 < 7 ∧ h 1 0 4 0 ≤ 20 then (1, so h 1 0 (pStep (h 1 0) true (h 1 0 4 0) 0 0)) else (0, h)) := by
  obtain ⟨n, rfl, hn1⟩ := nl_suc hn
  refine cl_X1_addHour (.ret ?_)
  rw [sg_X1_addHour_0]
  have e0 : nl_nz 0 = 0 := nx_of (by omega) (by omega)
  obtain ⟨f, hf⟩ : ∃ f : Nat, h 1 0 5 0 = f := ⟨(h 1 0 5 0).toNat, by omega⟩
  simp only [e0, Int.toNat_zero]
  unfold pStep
  by_cases a1 : h 1 0 5 0 < 7 <;> by_cases a2 : h 1 0 4 0 ≤ 20 <;> simp (disch := omega) only [nx_of, if_pos, if_neg, if_true, if_false, true_or, or_true, Int.toNat_natCast, Option.bind_some, up_so, so_at, so_so, vu_k, hf]
theorem sp_addHouse {LS : Int} {n : Nat} (hn : 1 ≤ n) {h : nl_H} (h5 : 0 ≤ h 1 0 5 0 ∧ h 1 0 5 0 ≤ 7) (h6 : 0 ≤ h 1 0 6 0 ∧ h 1 0 6 0 ≤ h 1 0 5 0) (h4 : ∀ j, j < 3 → 0 ≤ h 1 0 4 j ∧ h 1 0 4 j ≤ 99) : nl_c LS n m_X1_addHouse [vO 1 0] h = some (if h 1 0 6 0 < h 1 0 5 0 ∧ h 1 0 4 0 ≤ 3 ∧ h 1 0 4 1 ≤ 40 ∧ h 1 0 4 2 ≤ 99 then (1, so h 1 0 (pStep (h 1 0) false (h 1 0 4 0) (h 1 0 4 1) (h 1 0 4 2))) else (0, h)) := by
  obtain ⟨n, rfl, hn1⟩ := nl_suc hn
  refine cl_X1_addHouse (.ret ?_)
  rw [sg_X1_addHouse_0]
  have e0 : nl_nz 0 = 0 := nx_of (by omega) (by omega)
  have e1 : nl_nz 1 = 1 := nx_of (by omega) (by omega)
  have e2 : nl_nz 2 = 2 := nx_of (by omega) (by omega)
  have b0 := h4 0 (by omega)
  have b1 := h4 1 (by omega)
  have b2 := h4 2 (by omega)
  obtain ⟨f, hf⟩ : ∃ f : Nat, h 1 0 6 0 = f := ⟨(h 1 0 6 0).toNat, by omega⟩
  simp only [e0, e1, e2, Int.toNat_zero, Int.toNat_one, show (2 : Int).toNat = 2 from rfl]
  unfold pStep
  by_cases a0 : h 1 0 6 0 < h 1 0 5 0
  · by_cases a1 : h 1 0 4 0 ≤ 3
    · by_cases a2 : h 1 0 4 1 ≤ 40 <;> simp (disch := omega) only [nx_of, if_pos, if_neg, if_true, if_false, true_or, or_true, Int.toNat_natCast, Option.bind_some, up_so, so_at, so_so, vu_k, vu_ne, hf, Bool.false_eq_true]
    · simp (disch := omega) only [nx_of, if_pos, if_neg, if_true, if_false, true_or, or_true, Int.toNat_natCast, Option.bind_some]
  · simp (disch := omega) only [nx_of, if_pos, if_neg, if_true, if_false, true_or, or_true, Int.toNat_natCast, Option.bind_some]
