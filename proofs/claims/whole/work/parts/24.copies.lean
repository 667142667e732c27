/-! Valleys copied, valleys laid. -/
theorem up_at {h : nl_H} {c o k i : Nat} {x : Int} : nl_up h c o k i x c o = vu (h c o) k i x := by rw [up_so, so_at]
theorem up_ne {h : nl_H} {c o k i : Nat} {x : Int} {c' o' : Nat} (n : ¬ (c' = c ∧ o' = o)) : nl_up h c o k i x c' o' = h c' o' := by rw [up_so, so_ne n]
/-- B's numbers, and its rows' entries below j, in A -/
def vC1 (A B : nl_O) (j : Nat) : nl_O := fun k i => if (k < 3 ∧ i = 0) ∨ (3 ≤ k ∧ k ≤ 9 ∧ i < j) then B k i else A k i
def vC2 (A B : nl_O) (j : Nat) : nl_O := fun k i => if k = 10 ∧ i < j then B k i else vC1 A B 7 k i
theorem vC1_0 {A B : nl_O} : vu (vu (vu A 0 0 (B 0 0)) 1 0 (B 1 0)) 2 0 (B 2 0) = vC1 A B 0 := by
  funext k i
  unfold vu vC1
  by_cases hk : k < 3 ∧ i = 0
  · obtain ⟨h1, rfl⟩ := hk
    rcases (show k = 0 ∨ k = 1 ∨ k = 2 by omega) with rfl | rfl | rfl <;> simp
  · rw [if_neg (by omega), if_neg (by omega), if_neg (by omega), if_neg (by omega)]
theorem vC1_s {A B : nl_O} {j : Nat} : vu (vu (vu (vu (vu (vu (vu (vC1 A B j) 3 j (B 3 j)) 4 j (B 4 j)) 5 j (B 5 j)) 6 j (B 6 j)) 7 j (B 7 j)) 8 j (B 8 j)) 9 j (B 9 j) = vC1 A B (j + 1) := by
  funext k i
  unfold vu vC1
  by_cases hk : (3 ≤ k ∧ k ≤ 9) ∧ i = j
  · obtain ⟨h1, rfl⟩ := hk
    rcases (show k = 3 ∨ k = 4 ∨ k = 5 ∨ k = 6 ∨ k = 7 ∨ k = 8 ∨ k = 9 by omega) with rfl | rfl | rfl | rfl | rfl | rfl | rfl <;> simp
  · rw [if_neg (by omega), if_neg (by omega), if_neg (by omega), if_neg (by omega), if_neg (by omega), if_neg (by omega), if_neg (by omega)]
    by_cases hz : (k < 3 ∧ i = 0) ∨ (3 ≤ k ∧ k ≤ 9 ∧ i < j)
    · rw [if_pos hz, if_pos (by omega)]
    · rw [if_neg hz, if_neg (by omega)]
theorem vC2_0 {A B : nl_O} : vC1 A B 7 = vC2 A B 0 := by
  funext k i
  unfold vC2
  rw [if_neg (by omega)]
theorem vC2_s {A B : nl_O} {j : Nat} : vu (vC2 A B j) 10 j (B 10 j) = vC2 A B (j + 1) := by
  funext k i
  unfold vu vC2
  by_cases hk : k = 10 ∧ i = j
  · obtain ⟨rfl, rfl⟩ := hk
    simp
  · rw [if_neg hk]
    by_cases hz : k = 10 ∧ i < j
    · rw [if_pos hz, if_pos (by omega)]
    · rw [if_neg hz, if_neg (by omega)]
theorem lp_copy2 {LS : Int} {den : nl_D} {h : nl_H} {o v : Nat} (ho : o ≠ v) {A : nl_O} : ∀ (d j : Nat), j + d = 49 →
    nl_Rn LS cd_X4_copyFrom den ct_X4_copyFrom 0 124 [some (vO 4 o), some (vO 4 v), some (vI (j : Int))] (so h 4 o (vC2 A (h 4 v) j)) (0, so h 4 o (vC2 A (h 4 v) 49)) := by
  intro d
  induction d with
  | zero =>
    intro j hj
    obtain rfl : j = 49 := by omega
    refine .ret ?_
    rw [sg_X4_copyFrom_124]
    simp (disch := omega) only [nx_of, if_pos, if_neg, if_true, if_false, true_or, or_true, Int.toNat_natCast, Option.bind_some]
  | succ d ih =>
    intro j hj
    have k9 := ih (j + 1) (by omega)
    rw [← vC2_s] at k9
    refine .go ?_ k9
    rw [sg_X4_copyFrom_124]
    simp (disch := omega) only [nx_of, if_pos, if_neg, if_true, if_false, true_or, or_true, Int.toNat_natCast, Option.bind_some, up_so, so_at, so_so, so_ne]
    rfl
theorem lp_copy1 {LS : Int} {den : nl_D} {h : nl_H} {o v : Nat} (ho : o ≠ v) {A : nl_O} : ∀ (d j : Nat), j + d = 7 →
    nl_Rn LS cd_X4_copyFrom den ct_X4_copyFrom 0 26 [some (vO 4 o), some (vO 4 v), some (vI (j : Int))] (so h 4 o (vC1 A (h 4 v) j)) (0, so h 4 o (vC2 A (h 4 v) 49)) := by
  intro d
  induction d with
  | zero =>
    intro j hj
    obtain rfl : j = 7 := by omega
    have k9 := lp_copy2 (LS := LS) (den := den) (h := h) ho (A := A) 49 0 (by omega)
    rw [← vC2_0] at k9
    refine .go ?_ k9
    rw [sg_X4_copyFrom_26]
    simp (disch := omega) only [nx_of, if_pos, if_neg, if_true, if_false, true_or, or_true, Int.toNat_natCast, Option.bind_some]
    rfl
  | succ d ih =>
    intro j hj
    have k9 := ih (j + 1) (by omega)
    rw [← vC1_s] at k9
    refine .go ?_ k9
    rw [sg_X4_copyFrom_26]
    simp (disch := omega) only [nx_of, if_pos, if_neg, if_true, if_false, true_or, or_true, Int.toNat_natCast, Option.bind_some, up_so, so_at, so_so, so_ne]
    rfl
/-- what a valley holds behind copyFrom -/
def vCopy (A B : nl_O) : nl_O := vC2 A B 49
theorem sp_copyFrom {LS : Int} {n : Nat} (hn : 1 ≤ n) {h : nl_H} {o v : Nat} (ho : o ≠ v) : nl_c LS n m_X4_copyFrom [vO 4 o, vO 4 v] h = some (0, so h 4 o (vCopy (h 4 o) (h 4 v))) := by
  obtain ⟨n, rfl, hn1⟩ := nl_suc hn
  have k9 := lp_copy1 (LS := LS) (den := nl_c LS n) (h := h) ho (A := h 4 o) 7 0 (by omega)
  rw [← vC1_0] at k9
  refine cl_X4_copyFrom (.go ?_ k9)
  rw [sg_X4_copyFrom_0]
  simp (disch := omega) only [nx_of, if_pos, if_neg, if_true, if_false, true_or, or_true, Int.toNat_natCast, Option.bind_some, up_so, so_at, so_so, so_ne]
  rfl
/-- a plan's rows below j in a valley -/
def vS1 (A B : nl_O) (j : Nat) : nl_O := fun k i =>
  if k = 0 ∧ i = 0 then (if 7 < B 6 0 then 7 else B 6 0) else if (k = 1 ∨ k = 2) ∧ i = 0 then 0
  else if 3 ≤ k ∧ k ≤ 6 ∧ i < j then B (k - 3) i else if (k = 7 ∨ k = 9) ∧ i < j then 0 else if k = 8 ∧ i < j then (i : Int) else A k i
def vS2 (A B : nl_O) (j : Nat) : nl_O := fun k i => if k = 10 ∧ i < j then 0 else vS1 A B 7 k i
theorem vS1_0 {A B : nl_O} : vu (vu (vu A 0 0 (if 7 < B 6 0 then 7 else B 6 0)) 1 0 0) 2 0 0 = vS1 A B 0 := by
  funext k i
  unfold vu vS1
  by_cases hk : k < 3 ∧ i = 0
  · obtain ⟨h1, rfl⟩ := hk
    rcases (show k = 0 ∨ k = 1 ∨ k = 2 by omega) with rfl | rfl | rfl <;> simp
  · rw [if_neg (by omega), if_neg (by omega), if_neg (by omega), if_neg (by omega), if_neg (by omega), if_neg (by omega), if_neg (by omega), if_neg (by omega)]
theorem vS1_s {A B : nl_O} {j : Nat} : vu (vu (vu (vu (vu (vu (vu (vS1 A B j) 3 j (B 0 j)) 4 j (B 1 j)) 5 j (B 2 j)) 6 j (B 3 j)) 7 j 0) 8 j (j : Int)) 9 j 0 = vS1 A B (j + 1) := by
  funext k i
  unfold vu vS1
  by_cases hk : (3 ≤ k ∧ k ≤ 9) ∧ i = j
  · obtain ⟨h1, rfl⟩ := hk
    rcases (show k = 3 ∨ k = 4 ∨ k = 5 ∨ k = 6 ∨ k = 7 ∨ k = 8 ∨ k = 9 by omega) with rfl | rfl | rfl | rfl | rfl | rfl | rfl <;> simp
  · rw [if_neg (by omega), if_neg (by omega), if_neg (by omega), if_neg (by omega), if_neg (by omega), if_neg (by omega), if_neg (by omega)]
    by_cases h0 : k < 3
    · rcases (show k = 0 ∨ k = 1 ∨ k = 2 by omega) with rfl | rfl | rfl <;> simp
    · rw [if_neg (show ¬ (k = 0 ∧ i = 0) by omega), if_neg (show ¬ ((k = 1 ∨ k = 2) ∧ i = 0) by omega), if_neg (show ¬ (k = 0 ∧ i = 0) by omega), if_neg (show ¬ ((k = 1 ∨ k = 2) ∧ i = 0) by omega)]
      by_cases h1 : i < j
      · have h2 : i < j + 1 := by omega
        simp only [h1, h2]
      · by_cases h3 : i = j
        · have h4 : ¬ (3 ≤ k ∧ k ≤ 9) := fun z => hk ⟨z, h3⟩
          rw [if_neg (by omega), if_neg (by omega), if_neg (by omega), if_neg (by omega), if_neg (by omega), if_neg (by omega)]
        · have h2 : ¬ i < j + 1 := by omega
          simp only [h1, h2]
theorem vS2_0 {A B : nl_O} : vS1 A B 7 = vS2 A B 0 := by
  funext k i
  unfold vS2
  rw [if_neg (by omega)]
theorem vS2_s {A B : nl_O} {j : Nat} : vu (vS2 A B j) 10 j 0 = vS2 A B (j + 1) := by
  funext k i
  unfold vu vS2
  by_cases hk : k = 10 ∧ i = j
  · obtain ⟨rfl, rfl⟩ := hk
    simp
  · rw [if_neg hk]
    by_cases hz : k = 10 ∧ i < j
    · rw [if_pos hz, if_pos (by omega)]
    · rw [if_neg hz, if_neg (by omega)]
theorem lp_settle2 {LS : Int} {den : nl_D} {h : nl_H} {o : Nat} {A : nl_O} : ∀ (d j : Nat), j + d = 49 →
    nl_Rn LS cd_X4_settle den ct_X4_settle 0 108 [some (vO 4 o), some (vO 1 0), some (vI (j : Int))] (so h 4 o (vS2 A (h 1 0) j)) (0, so h 4 o (vS2 A (h 1 0) 49)) := by
  intro d
  induction d with
  | zero =>
    intro j hj
    obtain rfl : j = 49 := by omega
    refine .ret ?_
    rw [sg_X4_settle_108]
    simp (disch := omega) only [nx_of, if_pos, if_neg, if_true, if_false, true_or, or_true, Int.toNat_natCast, Option.bind_some]
  | succ d ih =>
    intro j hj
    have k9 := ih (j + 1) (by omega)
    rw [← vS2_s] at k9
    refine .go ?_ k9
    rw [sg_X4_settle_108]
    simp (disch := omega) only [nx_of, if_pos, if_neg, if_true, if_false, true_or, or_true, Int.toNat_natCast, Option.bind_some, up_so, so_at, so_so, so_ne]
    rfl
theorem lp_settle1 {LS : Int} {den : nl_D} {h : nl_H} {o : Nat} {A : nl_O} : ∀ (d j : Nat), j + d = 7 →
    nl_Rn LS cd_X4_settle den ct_X4_settle 0 25 [some (vO 4 o), some (vO 1 0), some (vI (j : Int))] (so h 4 o (vS1 A (h 1 0) j)) (0, so h 4 o (vS2 A (h 1 0) 49)) := by
  intro d
  induction d with
  | zero =>
    intro j hj
    obtain rfl : j = 7 := by omega
    have k9 := lp_settle2 (LS := LS) (den := den) (h := h) (o := o) (A := A) 49 0 (by omega)
    rw [← vS2_0] at k9
    refine .go ?_ k9
    rw [sg_X4_settle_25]
    simp (disch := omega) only [nx_of, if_pos, if_neg, if_true, if_false, true_or, or_true, Int.toNat_natCast, Option.bind_some]
    rfl
  | succ d ih =>
    intro j hj
    have k9 := ih (j + 1) (by omega)
    rw [← vS1_s] at k9
    refine .go ?_ k9
    rw [sg_X4_settle_25]
    simp (disch := omega) only [nx_of, if_pos, if_neg, if_true, if_false, true_or, or_true, Int.toNat_natCast, Option.bind_some, up_so, so_at, so_so, so_ne]
    rfl
theorem sp_settle {LS : Int} {n : Nat} (hn : 1 ≤ n) {h : nl_H} {o : Nat} (hp : 0 ≤ h 1 0 6 0 ∧ h 1 0 6 0 ≤ 7) : nl_c LS n m_X4_settle [vO 4 o, vO 1 0] h = some (0, so h 4 o (vS2 (h 4 o) (h 1 0) 49)) := by
  obtain ⟨n, rfl, hn1⟩ := nl_suc hn
  have k9 := lp_settle1 (LS := LS) (den := nl_c LS n) (h := h) (o := o) (A := h 4 o) 7 0 (by omega)
  rw [← vS1_0] at k9
  refine cl_X4_settle (.go ?_ k9)
  rw [sg_X4_settle_0]
  simp (disch := omega) only [nx_of, if_pos, if_neg, if_true, if_false, true_or, or_true, Int.toNat_natCast, Option.bind_some, up_so, so_at, so_so, so_ne]
  rfl
