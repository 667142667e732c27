/-! Both objects as they are made: the relation holds. -/
theorem ns_e4 {P V : nl_O} : (sm (nt_f P) V) 4 0 = vS2 (nt_h 59 4 0) P 49 := rfl
theorem ns_e2 {P V : nl_O} : (sm (nt_f P) V) 2 0 = vu (nk_h0 2 0) 1 0 0 := rfl
theorem ns_e21 {P V : nl_O} : (sm (nt_f P) V) 2 1 = vu (nk_h0 2 1) 1 0 0 := rfl
theorem ns_e3 {P V : nl_O} : (sm (nt_f P) V) 3 0 = vu (nk_h0 3 0) 3 0 0 := rfl
theorem ns_e5 {P V : nl_O} : (sm (nt_f P) V) 5 0 = vu (nt_V 59) 1 0 0 := rfl
theorem ns_q : ∀ k, k < 7 → 3 ≤ k → ∀ i, i < 5 → tP (nt_h 59) 59 (k - 3) i = nm_5 k i := by decide +kernel
theorem ns_b : ∀ i, i < 5 → (0 ≤ nm_5 3 i ∧ nm_5 3 i ≤ 20) ∧ (0 ≤ nm_5 4 i ∧ nm_5 4 i ≤ 3) ∧ (0 ≤ nm_5 5 i ∧ nm_5 5 i ≤ 40) ∧ (0 ≤ nm_5 6 i ∧ nm_5 6 i ≤ 99) := by decide +kernel
theorem rg_start {P V : nl_O} (hP : pEq7 P (tP (nt_h 59) 59)) (hV : bg V nm_5) : rg (sm (nt_f P) V) := by
  obtain ⟨v1, v2, v3, v4, v5⟩ := hV
  have v0 : V 0 0 = 5 := v5 0 0 (Or.inl rfl)
  have v11 : V 11 0 = 0 := v5 11 0 (Or.inr (Or.inr (by decide)))
  have v16 : V 16 0 = 0 := v5 16 0 (Or.inr (Or.inr (by decide)))
  have v24 : V 24 0 = 0 := v5 24 0 (Or.inr (Or.inr (by decide)))
  have v29 : V 29 0 = 0 := v5 29 0 (Or.inr (Or.inr (by decide)))
  have hk : ∀ k i : Nat, 3 ≤ k → k ≤ 6 → V k i = nm_5 k i := fun k i a b => v5 k i (Or.inr (Or.inl ⟨a, b⟩))
  have p6 : P 6 0 = 5 := by rw [hP 6 (by decide) (by decide)]; exact nt_lay.2.1.2
  have hp : ∀ k i : Nat, 3 ≤ k → k ≤ 6 → i < 5 → P (k - 3) i = V k i := fun k i a b c => by
    rw [hP (k - 3) (by omega) (by omega), ns_q k (by omega) a i c, hk k i a b]
  show rl (sm (nt_f P) V) (mv (sm (nt_f P) V 6 0))
  rw [mv_sm]
  have big : vgd V := by
    refine ⟨⟨by omega, by omega, by omega, fun i hi => ?_, fun i k hi hk' => ?_⟩, fun i j hi hj e => ?_, by omega⟩
    · rw [v0] at hi ⊢
      have b := ns_b i (by omega)
      have a8 := v3 i (by omega)
      rw [hk 3 i (by omega) (by omega), hk 4 i (by omega) (by omega), hk 5 i (by omega) (by omega), hk 6 i (by omega) (by omega), a8.1, a8.2.1, a8.2.2, v1]
      omega
    · rw [v0] at hi hk'
      rw [v4 (i * 7 + k) (by omega), v1]
      omega
    · rw [v0] at hi hj
      have a8 := v3 i (by omega)
      have b8 := v3 j (by omega)
      rw [a8.1, b8.1] at e
      omega
  refine ⟨big, ?_, ?_, ?_, ?_, ?_⟩
  · rw [ns_e4]
    have e0 : vS2 (nt_h 59 4 0) P 49 0 0 = 5 := by
      unfold vS2 vS1
      rw [if_neg (by omega), if_pos (by omega), p6]
      rfl
    refine ⟨⟨by rw [e0, v0], ?_, ?_⟩, fun k i a b c => ?_, fun i k a b => ?_⟩
    · unfold vS2 vS1
      rw [if_neg (by omega), if_neg (by omega), if_pos (by omega), v1]
    · unfold vS2 vS1
      rw [if_neg (by omega), if_neg (by omega), if_pos (by omega), v2]
    · rw [e0] at c
      have a8 := v3 i (by omega)
      unfold vS2 vS1
      rw [if_neg (by omega), if_neg (by omega), if_neg (by omega)]
      by_cases q : k ≤ 6
      · rw [if_pos (by omega)]
        exact hp k i a q (by omega)
      · rw [if_neg (by omega)]
        by_cases q2 : k = 7 ∨ k = 9
        · rw [if_pos (by omega)]
          rcases q2 with rfl | rfl
          · exact a8.2.1.symm
          · exact a8.2.2.symm
        · rw [if_neg (by omega), if_pos (by omega)]
          obtain rfl : k = 8 := by omega
          exact a8.1.symm
    · rw [e0] at a b
      unfold vS2
      rw [if_pos (by omega), v4 (i * 7 + k) (by omega)]
  · rw [ns_e2]
    have s0 : ∀ i : Nat, (vu (nk_h0 2 0) 1 0 0) 0 i = 2 + (i : Int) := fun i => rfl
    have s1 : (vu (nk_h0 2 0) 1 0 0) 1 0 = 0 := rfl
    refine ⟨⟨by rw [s1]; omega, fun i hi => by rw [s0]; omega, fun i j hi hj e => by rw [s0, s0] at e; omega⟩, by rw [s1, v24], fun j hj => ?_⟩
    rw [s1] at hj
    exact absurd hj (by omega)
  · rw [ns_e21]
    have s0 : ∀ i : Nat, (vu (nk_h0 2 1) 1 0 0) 0 i = 10 + (i : Int) := fun i => rfl
    have s1 : (vu (nk_h0 2 1) 1 0 0) 1 0 = 0 := rfl
    refine ⟨⟨by rw [s1]; omega, fun i hi => by rw [s0]; omega, fun i j hi hj e => by rw [s0, s0] at e; omega⟩, by rw [s1, v29], fun j hj => ?_⟩
    rw [s1] at hj
    exact absurd hj (by omega)
  · rw [ns_e3]
    have s3 : (vu (nk_h0 3 0) 3 0 0) 3 0 = 0 := rfl
    refine ⟨⟨by rw [s3]; omega, fun i hi => ?_⟩, by rw [s3, v11], fun i hi => ?_⟩
    · rw [s3] at hi
      exact absurd hi (by omega)
    · rw [s3] at hi
      exact absurd hi (by omega)
  · rw [ns_e5]
    exact ⟨0, rfl, v16, ⟨by decide, fun i hi => absurd hi (by omega)⟩, fun i hi => absurd hi (by omega)⟩
