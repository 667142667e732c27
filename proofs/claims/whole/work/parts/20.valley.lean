/-! The valley's methods: reads. -/
theorem sp_isWithin {LS : Int} {n : Nat} (hn : 1 ≤ n) {h : nl_H} {x a b : Int} (hx : nl_inR x) (ha : nl_inR a) (hb : nl_inR b) : nl_c LS n m_X5_isWithin [vI x, vI a, vI b] h = some (if a ≤ x ∧ x ≤ b then 1 else 0, h) := by
  obtain ⟨n, rfl, -⟩ := nl_suc hn
  obtain ⟨hx1, hx2⟩ := hx
  obtain ⟨ha1, ha2⟩ := ha
  obtain ⟨hb1, hb2⟩ := hb
  refine cl_X5_isWithin (.ret ?_)
  rw [sg_X5_isWithin_0]
  simp (disch := omega) only [nx_of]
  by_cases h1 : a ≤ x <;> by_cases h2 : x ≤ b <;> simp (disch := omega) only [if_pos, if_neg]
theorem sp_isHouse {LS : Int} {n : Nat} (hn : 1 ≤ n) {h : nl_H} {o : Nat} {x : Int} (hx : nl_inR x) (hh : 0 ≤ h 4 o 0 0 ∧ h 4 o 0 0 ≤ 7) : nl_c LS n m_X4_isHouse [vO 4 o, vI x] h = some (if 0 ≤ x ∧ x < h 4 o 0 0 then 1 else 0, h) := by
  obtain ⟨n, rfl, -⟩ := nl_suc hn
  obtain ⟨hx1, hx2⟩ := hx
  refine cl_X4_isHouse (.ret ?_)
  rw [sg_X4_isHouse_0]
  simp (disch := omega) only [nx_of]
  by_cases h1 : 0 ≤ x <;> by_cases h2 : x < h 4 o 0 0 <;> first | (exfalso; omega) | simp (disch := omega) only [if_pos, if_neg]
theorem sp_isHour {LS : Int} {n : Nat} (hn : 1 ≤ n) {h : nl_H} {o : Nat} {x : Int} (hx : nl_inR x) (hh : 0 ≤ h 4 o 0 0 ∧ h 4 o 0 0 ≤ 7) : nl_c LS n m_X4_isHour [vO 4 o, vI x] h = some (if 0 ≤ x ∧ x < h 4 o 0 0 then 1 else 0, h) := by
  obtain ⟨n, rfl, -⟩ := nl_suc hn
  obtain ⟨hx1, hx2⟩ := hx
  refine cl_X4_isHour (.ret ?_)
  rw [sg_X4_isHour_0]
  simp (disch := omega) only [nx_of]
  by_cases h1 : 0 ≤ x <;> by_cases h2 : x < h 4 o 0 0 <;> first | (exfalso; omega) | simp (disch := omega) only [if_pos, if_neg]
/-- the house that has an hour, from house i on; -1 -/
def vWho (V : nl_O) (k : Int) : Nat → Nat → Int
  | 0, _ => -1
  | d + 1, i => if V 8 i = k then i else vWho V k d (i + 1)
def vN (V : nl_O) : Nat := (V 0 0).toNat
theorem lp_houseWith {LS : Int} {den : nl_D} {h : nl_H} {o : Nat} {x N : Int} (hx : nl_inR x) (hV : vok N (h 4 o)) : ∀ (d i : Nat), (i : Int) + d = h 4 o 0 0 → nl_Rn LS cd_X4_houseWith den ct_X4_houseWith 1 2 [some (vO 4 o), some (vI x), some (vI (i : Int))] h (vWho (h 4 o) x d i, h) := by
  obtain ⟨⟨hn1, hn2⟩, -, -, hb, -⟩ := hV
  obtain ⟨hx1, hx2⟩ := hx
  intro d
  induction d with
  | zero =>
    intro i hi
    refine .ret ?_
    rw [sg_X4_houseWith_2]
    simp (disch := omega) only [nx_of, if_pos]
    rfl
  | succ d ih =>
    intro i hi
    have h1 := (hb i (by omega)).2.2.2.2.2.1
    by_cases hk : h 4 o 8 i = x
    · refine .ret ?_
      rw [sg_X4_houseWith_2]
      simp (disch := omega) only [nx_of, if_pos, if_neg, Int.toNat_natCast, vWho]
    · have e : vWho (h 4 o) x (d + 1) i = vWho (h 4 o) x d (i + 1) := by simp only [vWho]; rw [if_neg hk]
      rw [e]
      refine .go (pc' := 2) ?_ (ih (i + 1) (by omega))
      rw [sg_X4_houseWith_2]
      simp (disch := omega) only [nx_of, if_pos, if_neg, Int.toNat_natCast]
      rfl
theorem sp_houseWith {LS : Int} {n : Nat} (hn : 1 ≤ n) {h : nl_H} {o : Nat} {x N : Int} (hx : nl_inR x) (hV : vok N (h 4 o)) : nl_c LS n m_X4_houseWith [vO 4 o, vI x] h = some (vWho (h 4 o) x (vN (h 4 o)) 0, h) := by
  obtain ⟨n, rfl, -⟩ := nl_suc hn
  refine cl_X4_houseWith (.go (pc' := 2) ?_ (lp_houseWith hx hV (vN (h 4 o)) 0 ?_))
  · rw [sg_X4_houseWith_0]; rfl
  · have := hV.1
    unfold vN
    omega
/-- the hour that a house has had most often among the first k: (how often, which; -1) -/
def vMst (V : nl_O) (i : Nat) : Nat → Int × Int
  | 0 => (0, -1)
  | k + 1 => if V 10 (i * 7 + k) ≤ (vMst V i k).1 then vMst V i k else (V 10 (i * 7 + k), (k : Int))
theorem vMst_in {N : Int} {V : nl_O} (hV : vok N V) {i : Nat} (hi : (i : Int) < V 0 0) : ∀ k : Nat, (k : Int) ≤ V 0 0 → (0 ≤ (vMst V i k).1 ∧ (vMst V i k).1 ≤ N) ∧ -1 ≤ (vMst V i k).2 ∧ (vMst V i k).2 < k := by
  intro k
  induction k with
  | zero =>
    intro _
    have := hV.2.1
    simp only [vMst]
    omega
  | succ k ih =>
    intro hk
    have h1 := ih (by omega)
    have h2 := hV.2.2.2.2 i k hi (by omega)
    simp only [vMst]
    split
    · omega
    · dsimp only
      omega
theorem lp_hourHadMost {LS : Int} {den : nl_D} {h : nl_H} {o i : Nat} {N : Int} (hN : N ≤ 100000) (hV : vok N (h 4 o)) (hi : (i : Int) < h 4 o 0 0) : ∀ (d j : Nat) (w : Option nl_V), (j : Int) + d = h 4 o 0 0 → nl_Rn LS cd_X4_hourHadMost den ct_X4_hourHadMost 1 7 [some (vO 4 o), some (vI (i : Int)), some (vI (vMst (h 4 o) i j).1), some (vI (vMst (h 4 o) i j).2), some (vI (j : Int)), w] h ((vMst (h 4 o) i (j + d)).2, h) := by
  have hn := hV.1
  intro d
  induction d with
  | zero =>
    intro j w hj
    have h1 := vMst_in hV hi j (by omega)
    refine .ret ?_
    rw [sg_X4_hourHadMost_7]
    simp (disch := omega) only [nx_of, if_pos]
    rfl
  | succ d ih =>
    intro j w hj
    have h1 := vMst_in hV hi j (by omega)
    have h2 := hV.2.2.2.2 i j hi (by omega)
    have e : ((i : Int) * 7 + (j : Int)).toNat = i * 7 + j := by omega
    have e2 : j + (d + 1) = j + 1 + d := by omega
    rw [e2]
    by_cases hk : h 4 o 10 (i * 7 + j) ≤ (vMst (h 4 o) i j).1
    · have e3 : vMst (h 4 o) i (j + 1) = vMst (h 4 o) i j := by simp only [vMst]; rw [if_pos hk]
      have k9 := ih (j + 1) (some (vI (h 4 o 10 (i * 7 + j)))) (by omega)
      rw [e3] at k9
      refine .go ?_ k9
      rw [sg_X4_hourHadMost_7]
      simp (disch := omega) only [nx_of, if_pos, if_neg, e]
      rfl
    · have e3 : vMst (h 4 o) i (j + 1) = (h 4 o 10 (i * 7 + j), (j : Int)) := by simp only [vMst]; rw [if_neg hk]
      have k9 := ih (j + 1) (some (vI (h 4 o 10 (i * 7 + j)))) (by omega)
      rw [e3] at k9
      refine .go ?_ k9
      rw [sg_X4_hourHadMost_7]
      simp (disch := omega) only [nx_of, if_pos, if_neg, e]
      rfl
theorem sp_hourHadMost {LS : Int} {n : Nat} (hn : 1 ≤ n) {h : nl_H} {o i : Nat} {N : Int} (hN : N ≤ 100000) (hV : vok N (h 4 o)) (hi : (i : Int) < h 4 o 0 0) : nl_c LS n m_X4_hourHadMost [vO 4 o, vI (i : Int)] h = some ((vMst (h 4 o) i (vN (h 4 o))).2, h) := by
  obtain ⟨n, rfl, -⟩ := nl_suc hn
  have k9 := lp_hourHadMost (LS := LS) (den := nl_c LS n) hN hV hi (vN (h 4 o)) 0 none (by have := hV.1; unfold vN; omega)
  rw [Nat.zero_add] at k9
  refine cl_X4_hourHadMost (.go ?_ k9)
  rw [sg_X4_hourHadMost_0]; rfl
/-- how heavy hour k is for house i -/
def vHv (V : nl_O) (i k : Nat) : Int :=
  if V 4 i = 1 then 2 * V 3 k
  else if V 4 i = 2 then (if (k : Int) = (vMst V i (vN V)).2 then V 3 k / 2 else V 3 k)
  else if V 4 i = 3 then (if k = 0 ∨ (k : Int) = V 0 0 - 1 then (if V 3 k - 3 < 0 then 0 else V 3 k - 3) else V 3 k)
  else V 3 k
theorem vHv_in {N : Int} {V : nl_O} (hV : vok N V) {i k : Nat} (hk : (k : Int) < V 0 0) : 0 ≤ vHv V i k ∧ vHv V i k ≤ 40 := by
  have h1 := (hV.2.2.2.1 k hk).1
  unfold vHv
  repeat' split
  all_goals omega
theorem sp_heaviness {LS : Int} {n : Nat} (hn : 2 ≤ n) {h : nl_H} {o i k : Nat} {N : Int} (hN : N ≤ 100000) (hV : vok N (h 4 o)) (hi : (i : Int) < h 4 o 0 0) (hk : (k : Int) < h 4 o 0 0) : nl_c LS n m_X4_heaviness [vO 4 o, vI (i : Int), vI (k : Int)] h = some (vHv (h 4 o) i k, h) := by
  obtain ⟨n, rfl, hn1⟩ := nl_suc hn
  have hn9 := hV.1
  have b1 := (hV.2.2.2.1 k hk).1
  have b2 := (hV.2.2.2.1 i hi).2.1
  have b3 := vMst_in hV hi (vN (h 4 o)) (by unfold vN; omega)
  have hvn : (vN (h 4 o) : Int) = h 4 o 0 0 := by unfold vN; omega
  refine cl_X4_heaviness (.ret ?_)
  rw [sg_X4_heaviness_0]
  have hc := sp_hourHadMost (LS := LS) hn1 hN hV hi
  have e2 : (h 4 o 3 k).tdiv 2 = h 4 o 3 k / 2 := Int.tdiv_eq_ediv_of_nonneg b1.1
  unfold vHv
  have k9 : h 4 o 4 i = 0 ∨ h 4 o 4 i = 1 ∨ h 4 o 4 i = 2 ∨ h 4 o 4 i = 3 := by omega
  rcases k9 with k9 | k9 | k9 | k9
  · simp (disch := omega) only [nx_of, if_pos, if_neg, if_true, if_false, true_or, or_true, Int.toNat_natCast, Option.bind_some]
  · simp (disch := omega) only [nx_of, if_pos, if_neg, if_true, if_false, true_or, or_true, Int.toNat_natCast, Option.bind_some]
  · by_cases k8 : (k : Int) = (vMst (h 4 o) i (vN (h 4 o))).2
    · simp (disch := omega) only [nx_of, if_pos, if_neg, if_true, if_false, true_or, or_true, Int.toNat_natCast, Option.bind_some, hc, e2]
    · simp (disch := omega) only [nx_of, if_pos, if_neg, if_true, if_false, true_or, or_true, Int.toNat_natCast, Option.bind_some, hc]
  · by_cases k8 : (k : Int) = 0 <;> by_cases k7 : (k : Int) = h 4 o 0 0 - 1 <;> by_cases k6 : h 4 o 3 k - 3 < 0 <;>
      simp (disch := omega) only [nx_of, if_pos, if_neg, if_true, if_false, true_or, or_true, Int.toNat_natCast, Option.bind_some]
theorem sp_wouldKeep {LS : Int} {n : Nat} (hn : 3 ≤ n) {h : nl_H} {o i k : Nat} {N t : Int} (hN : N ≤ 100000) (hV : vok N (h 4 o)) (hi : (i : Int) < h 4 o 0 0) (hk : (k : Int) < h 4 o 0 0) (ht : 0 ≤ t ∧ t ≤ 100) : nl_c LS n m_X4_wouldKeep [vO 4 o, vI (i : Int), vI (k : Int), vI t] h = some (if vHv (h 4 o) i k ≤ h 4 o 5 i - t then 1 else 0, h) := by
  obtain ⟨n, rfl, hn1⟩ := nl_suc hn
  have hn9 := hV.1
  have b2 := (hV.2.2.2.1 i hi).2.2.1
  have b3 := vHv_in hV (i := i) hk
  refine cl_X4_wouldKeep (.ret ?_)
  rw [sg_X4_wouldKeep_0]
  have hc := sp_heaviness (LS := LS) hn1 hN hV hi hk
  by_cases k9 : vHv (h 4 o) i k ≤ h 4 o 5 i - t <;>
    simp (disch := omega) only [nx_of, if_pos, if_neg, if_true, if_false, true_or, or_true, Int.toNat_natCast, Option.bind_some, hc]
theorem vWho_in {V : nl_O} {k : Int} : ∀ (d i : Nat), (-1 ≤ vWho V k d i ∧ vWho V k d i < i + d) ∧ (vWho V k d i = -1 ∨ ∃ j : Nat, vWho V k d i = j ∧ i ≤ j ∧ j < i + d ∧ V 8 j = k) := by
  intro d
  induction d with
  | zero => intro i; simp only [vWho]; exact ⟨by omega, Or.inl trivial⟩
  | succ d ih =>
    intro i
    simp only [vWho]
    split
    · rename_i q
      exact ⟨by omega, Or.inr ⟨i, rfl, by omega, by omega, q⟩⟩
    · have := ih (i + 1)
      obtain ⟨a1, a2⟩ := this
      refine ⟨by omega, ?_⟩
      rcases a2 with a2 | ⟨j, j1, j2, j3, j4⟩
      · exact Or.inl a2
      · exact Or.inr ⟨j, j1, by omega, by omega, j4⟩
theorem vWho_none {V : nl_O} {k : Int} : ∀ (d i : Nat), vWho V k d i = -1 → ∀ j : Nat, i ≤ j → j < i + d → V 8 j ≠ k := by
  intro d
  induction d with
  | zero => intro i _ j h1 h2; omega
  | succ d ih =>
    intro i e j h1 h2
    simp only [vWho] at e
    split at e
    · omega
    · rename_i q
      by_cases hj : j = i
      · rw [hj]; exact q
      · exact ih (i + 1) e j (by omega) (by omega)
/-- is there a gap at hour k now -/
def vGap (V : nl_O) (k : Nat) : Int := if vWho V k (vN V) 0 = -1 then 0 else if vHv V (vWho V k (vN V) 0).toNat k ≤ V 5 (vWho V k (vN V) 0).toNat - V 7 (vWho V k (vN V) 0).toNat then 0 else 1
theorem sp_isGapAt {LS : Int} {n : Nat} (hn : 4 ≤ n) {h : nl_H} {o k : Nat} {N : Int} (hN : N ≤ 100000) (hV : vok N (h 4 o)) (hk : (k : Int) < h 4 o 0 0) : nl_c LS n m_X4_isGapAt [vO 4 o, vI (k : Int)] h = some (vGap (h 4 o) k, h) := by
  obtain ⟨n, rfl, hn1⟩ := nl_suc hn
  have hn9 := hV.1
  refine cl_X4_isGapAt (.ret ?_)
  rw [sg_X4_isGapAt_0]
  have hc1 := sp_houseWith (LS := LS) (n := n) (by omega) (x := (k : Int)) ⟨by omega, by omega⟩ hV
  have hw := vWho_in (V := h 4 o) (k := (k : Int)) (vN (h 4 o)) 0
  have hvn : (vN (h 4 o) : Int) = h 4 o 0 0 := by unfold vN; omega
  simp only [hc1, Option.bind_some]
  unfold vGap
  generalize vWho (h 4 o) (k : Int) (vN (h 4 o)) 0 = w at hw
  by_cases hw1 : w = -1
  · simp (disch := omega) only [nx_of, if_pos]
  · obtain ⟨i, rfl⟩ : ∃ i : Nat, w = i := ⟨w.toNat, by omega⟩
    have hi : (i : Int) < h 4 o 0 0 := by omega
    have b1 := (hV.2.2.2.1 i hi).2.2.2.2.1
    have hc2 := sp_wouldKeep (LS := LS) hn1 hN hV hi hk (t := h 4 o 7 i) (by omega)
    by_cases k9 : vHv (h 4 o) i k ≤ h 4 o 5 i - h 4 o 7 i <;>
      simp (disch := omega) only [nx_of, if_pos, if_neg, if_true, if_false, true_or, or_true, Int.toNat_natCast, Option.bind_some, hc2]
