/-! No house's night touches another's. -/
/-- the same for house i -/
def he (i : Nat) (V W : nl_O) : Prop := V 0 0 = W 0 0 ∧ (∀ k : Nat, (k : Int) < V 0 0 → V 3 k = W 3 k) ∧ V 4 i = W 4 i ∧ V 5 i = W 5 i ∧ V 7 i = W 7 i ∧ V 8 i = W 8 i ∧ ∀ k : Nat, (k : Int) < V 0 0 → V 10 (i * 7 + k) = W 10 (i * 7 + k)
theorem he_refl (i : Nat) (V : nl_O) : he i V V := ⟨rfl, fun _ _ => rfl, rfl, rfl, rfl, rfl, fun _ _ => rfl⟩
theorem he_trans {i : Nat} {U V W : nl_O} (a : he i U V) (b : he i V W) : he i U W :=
  ⟨a.1.trans b.1, fun k hk => (a.2.1 k hk).trans (b.2.1 k (by rw [← a.1]; exact hk)), a.2.2.1.trans b.2.2.1, a.2.2.2.1.trans b.2.2.2.1, a.2.2.2.2.1.trans b.2.2.2.2.1, a.2.2.2.2.2.1.trans b.2.2.2.2.2.1, fun k hk => (a.2.2.2.2.2.2 k hk).trans (b.2.2.2.2.2.2 k (by rw [← a.1]; exact hk))⟩
theorem he_mst {i : Nat} {V W : nl_O} (h : he i V W) : ∀ k : Nat, (k : Int) ≤ V 0 0 → vMst V i k = vMst W i k := by
  intro k
  induction k with
  | zero => intro _; rfl
  | succ k ih =>
    intro hk
    simp only [vMst]
    rw [ih (by omega), h.2.2.2.2.2.2 k (by omega)]
theorem he_hv {N : Int} {i k : Nat} {V W : nl_O} (hV : vok N V) (h : he i V W) (hk : (k : Int) < V 0 0) : vHv V i k = vHv W i k := by
  have e := vN_eq hV
  have en : vN V = vN W := by unfold vN; rw [h.1]
  unfold vHv
  rw [h.2.2.1, h.2.1 k hk, h.1, ← en, he_mst h _ (by omega)]
theorem he_keeps {N : Int} {i : Nat} {V W : nl_O} (hV : vok N V) (h : he i V W) (hi : (i : Int) < V 0 0) : vKeeps V i = vKeeps W i := by
  have b := (hV.2.2.2.1 i hi).2.2.2.2.2.1
  unfold vKeeps
  rw [he_hv hV h (by omega), h.2.2.2.1, h.2.2.2.2.1, h.2.2.2.2.2.1]
theorem he_see {N : Int} {i : Nat} {V W : nl_O} (hV : vok N V) (h : he i V W) (hi : (i : Int) < V 0 0) : he i (vSee V i) (vSee W i) := by
  have b := (hV.2.2.2.1 i hi).2.2.2.2.2.1
  have eh := he_hv hV h (k := (V 8 i).toNat) (by omega)
  obtain ⟨h0, h3, h4, h5, h7, h8, h10⟩ := h
  refine ⟨?_, fun k hk => ?_, ?_, ?_, ?_, ?_, fun k hk => ?_⟩
  · rw [see_lo (by omega), see_lo (by omega)]; exact h0
  · rw [see_lo (by omega)] at hk
    rw [see_lo (by omega), see_lo (by omega)]; exact h3 k hk
  · rw [see_lo (by omega), see_lo (by omega)]; exact h4
  · rw [see_lo (by omega), see_lo (by omega)]; exact h5
  · rw [see_7, see_7, eh, h8, h5, h7]
  · rw [see_8, see_8, h8, h0]
  · rw [see_lo (by omega)] at hk
    rw [see_10, see_10, h8, h10 k hk]
theorem he_seeo {N : Int} {i j : Nat} {V : nl_O} (hV : vok N V) (hj : (j : Int) < V 0 0) (q : j ≠ i) : he i (vSee V j) V := by
  have h0 := hV.1
  have b := (hV.2.2.2.1 j hj).2.2.2.2.2.1
  refine ⟨see_lo (by omega), fun k hk => see_lo (by omega), see_lo (by omega), see_lo (by omega), ?_, ?_, fun k hk => ?_⟩
  · rw [see_7, if_neg (fun z => q z.symm)]
  · rw [see_8, if_neg (fun z => q z.symm)]
  · rw [see_lo (by omega)] at hk
    rw [see_10, if_neg (by omega)]
theorem he_row {i : Nat} : ∀ (d j : Nat) {N : Int} {V : nl_O}, vok N V → (j : Int) + d = V 0 0 → (i : Int) < V 0 0 → he i (vRow d j V).1 (if j ≤ i then vSee V i else V) := by
  intro d
  induction d with
  | zero =>
    intro j N V hV hj hi
    rw [if_neg (by omega)]
    exact he_refl i V
  | succ d ih =>
    intro j N V hV hj hi
    have z0 : vSee V j 0 0 = V 0 0 := see_lo (by omega)
    have k9 := ih (j + 1) (vok_see hV (i := j) (by omega)) (by omega) (by omega)
    simp only [vRow]
    by_cases q : j = i
    · subst q
      rw [if_neg (by omega)] at k9
      rw [if_pos (by omega)]
      exact k9
    · have o := he_seeo hV (i := i) (j := j) (by omega) q
      by_cases p : j ≤ i
      · rw [if_pos (by omega)] at k9
        rw [if_pos p]
        exact he_trans k9 (he_see (vok_see hV (i := j) (by omega)) o (by omega))
      · rw [if_neg (by omega)] at k9
        rw [if_neg p]
        exact he_trans k9 o
theorem he_pass {N : Int} {i : Nat} {V : nl_O} (hV : vok N V) (hi : (i : Int) < V 0 0) : he i (vPass 1 V) (vSee V i) := by
  have e := vN_eq hV
  have k9 := he_row (i := i) (vN V) 0 hV (by omega) hi
  rw [if_pos (by omega)] at k9
  rw [vPass_1]
  refine he_trans ?_ k9
  refine ⟨?_, fun k hk => ?_, ?_, ?_, ?_, ?_, fun k hk => ?_⟩ <;> rw [vu_k (by omega), vu_k (by omega)]
theorem he_miss : ∀ (m t : Nat) {N : Int} {i : Nat} {V W : nl_O}, vok N V → he i V W → (i : Int) < V 0 0 → vMiss m t V i = vMiss m t W i := by
  intro m
  induction m with
  | zero => intro t N i V W _ _ _; rfl
  | succ m ih =>
    intro t N i V W hV h hi
    have z0 : vSee V i 0 0 = V 0 0 := see_lo (by omega)
    simp only [vMiss]
    rw [he_keeps hV h hi, ih (t + 1) (vok_see hV hi) (he_see hV h hi) (by rw [z0]; exact hi)]
theorem vRow_9 {i : Nat} : ∀ (d j : Nat) {N : Int} {V : nl_O}, vok N V → (j : Int) + d = V 0 0 → (i : Int) < V 0 0 → (vRow d j V).1 9 i = if j ≤ i then V 9 i + (1 - vKeeps V i) else V 9 i := by
  intro d
  induction d with
  | zero =>
    intro j N V hV hj hi
    rw [if_neg (by omega)]
    rfl
  | succ d ih =>
    intro j N V hV hj hi
    have z0 : vSee V j 0 0 = V 0 0 := see_lo (by omega)
    have k9 := ih (j + 1) (vok_see hV (i := j) (by omega)) (by omega) (by omega)
    simp only [vRow]
    rw [k9, see_9]
    by_cases q : j = i
    · subst q
      rw [if_neg (by omega), if_pos (c := j ≤ j) (by omega)]
      unfold vKeeps
      by_cases p : vHv V j (V 8 j).toNat ≤ V 5 j - V 7 j
      · rw [if_neg (by omega), if_pos p]; omega
      · rw [if_pos ⟨rfl, p⟩, if_neg p]; omega
    · have o := he_keeps (vok_see hV (i := j) (by omega)) (he_seeo hV (i := i) (j := j) (by omega) q) (by omega)
      rw [if_neg (c := i = j ∧ ¬ vHv V j (V 8 j).toNat ≤ V 5 j - V 7 j) (by omega), o]
      by_cases p : j ≤ i
      · rw [if_pos (by omega), if_pos p]
      · rw [if_neg (by omega), if_neg p]
theorem vPass_9 {N : Int} {i : Nat} {V : nl_O} (hV : vok N V) (hi : (i : Int) < V 0 0) : vPass 1 V 9 i = V 9 i + (1 - vKeeps V i) := by
  have e := vN_eq hV
  have k9 := vRow_9 (i := i) (vN V) 0 hV (by omega) hi
  rw [if_pos (by omega)] at k9
  rw [vPass_1, vu_k (by omega), vu_k (by omega)]
  exact k9
theorem miss_pass {m t : Nat} {N : Int} {i : Nat} {V : nl_O} (hV : vok N V) (hi : (i : Int) < V 0 0) : vMiss m t (vSee V i) i = vMiss m t (vPass 1 V) i := by
  have p := vPass_ok (d := 1) hV
  exact (he_miss m t p.1 (he_pass hV hi) (by rw [p.2]; exact hi)).symm
