/-! What the text says. -/
theorem nt_lay : tF (nt_h 59) 59 = -1 ∧ (tP (nt_h 59) 59 5 0 = 5 ∧ tP (nt_h 59) 59 6 0 = 5) ∧ (tP (nt_h 59) 59 0 0 = 4 ∧ tP (nt_h 59) 59 0 1 = 7 ∧ tP (nt_h 59) 59 0 2 = 12 ∧ tP (nt_h 59) 59 0 3 = 9 ∧ tP (nt_h 59) 59 0 4 = 5) ∧ (tP (nt_h 59) 59 1 0 = 0 ∧ tP (nt_h 59) 59 1 1 = 1 ∧ tP (nt_h 59) 59 1 2 = 2 ∧ tP (nt_h 59) 59 1 3 = 3 ∧ tP (nt_h 59) 59 1 4 = 0) ∧ (tP (nt_h 59) 59 2 0 = 14 ∧ tP (nt_h 59) 59 2 1 = 9 ∧ tP (nt_h 59) 59 2 2 = 20 ∧ tP (nt_h 59) 59 2 3 = 12 ∧ tP (nt_h 59) 59 2 4 = 8) ∧ (tP (nt_h 59) 59 3 0 = 10 ∧ tP (nt_h 59) 59 3 1 = 22 ∧ tP (nt_h 59) 59 3 2 = 35 ∧ tP (nt_h 59) 59 3 3 = 41 ∧ tP (nt_h 59) 59 3 4 = 60) := by decide +kernel
theorem nt_tok : tok (nt_h 59 5 0 0) 59 := by
  refine ⟨by decide, fun i hi => ?_⟩
  have b := nt_in i hi
  show 32 ≤ (so nk_h0 5 0 (nt_V 59)) 5 0 0 i ∧ _ ≤ _
  unfold nt_h
  rw [so_at]
  show 32 ≤ (if i < 59 then nt_x i else 0) ∧ (if i < 59 then nt_x i else 0) ≤ 126
  rw [if_pos hi]
  exact ⟨b.1, b.2.1⟩
