/-! Both answer alike: undo, keep, back. -/
theorem vgd_take {V : nl_O} {W : nl_O} {k a : Nat} (h7 : V 0 0 ≤ 7) (h : vgd (mTk V k a)) (e : ∀ k' i : Nat, k' = 0 ∨ (4 ≤ k' ∧ k' ≤ 6) ∨ k' = k → W k' i = V k' i) : vgd (mTk W k a) ∧ veq (mTk W k a) (mTk V k a) := by
  have v := mTk_eq (V := W) (W := V) (k := k) (l := k) (a := a) (b := a) (by rw [e 0 0 (.inl rfl)]; exact h7) (mfx_of fun k' i hk => e k' i (by omega)) fun j hj => e k _ (.inr (.inr rfl))
  exact ⟨vgd_veq h v, v⟩
theorem ag_undo {LS : Int} {n : Nat} (hn : 20 ≤ n) {g : nl_H} (r : rg g) : ag LS n m_X5_undo m_X6_undo [] g := by
  have r' : rl g (mv (g 6 0)) := r
  have h24 := a24 r'
  have h7 := rl_7 r
  obtain ⟨a1, a2, a3, a4, a5, a6⟩ := r'
  have q24 := a3.2.1
  obtain ⟨f, hf⟩ : ∃ f : Nat, g 2 0 1 0 = f := ⟨(g 2 0 1 0).toNat, by omega⟩
  have c := pu_undo (LS := LS) (n := n) (by omega) (h := g) rfl a3.1
  have m := fun h => sq_undo (LS := LS) (n := n) (by omega) (h := h) (V := mv (g 6 0)) (f := f) (by omega) (by omega)
  by_cases q : f < 1
  · rw [if_pos (by omega)] at c
    simp only [if_pos q] at m
    exact ag_of rfl c rfl (m _) rfl r
  · rw [if_neg (by omega)] at c
    simp only [if_neg q] at m
    rw [hf, show ((f : Int) - 1).toNat = f - 1 by omega] at c
    refine ag_of rfl c (by rw [so_ne (by omega), so_ne (by omega)]) (m _) rfl ?_
    have b := a3.2.2 (f - 1) (by omega)
    have e : ∀ k i : Nat, k ≠ 24 → vu (mv (g 6 0)) 24 0 ((f : Int) - 1) k i = mv (g 6 0) k i := fun k i hk => vu_k hk
    have t := vgd_take (W := vu (mv (g 6 0)) 24 0 ((f : Int) - 1)) h7 b.1 fun k i hk => e k i (by omega)
    have hi : ∀ k i : Nat, 10 < k → k ≠ 24 → mTk (vu (mv (g 6 0)) 24 0 ((f : Int) - 1)) 23 (79 * (f - 1)) k i = mv (g 6 0) k i := fun k i h1 h2 => by rw [mTk_hi h1, e k i h2]
    have fx : mfx (mTk (vu (mv (g 6 0)) 24 0 ((f : Int) - 1)) 23 (79 * (f - 1))) (mv (g 6 0)) := mfx_of fun k i hk => by rw [mTk_f hk, e k i (by omega)]
    have sI := a3.1.2.1 (f - 1) (by omega)
    have h7b : g 4 (g 2 0 0 (f - 1)).toNat 0 0 ≤ 7 := by rw [b.2.1.1, mTk_f (.inl rfl)]; exact h7
    refine ⟨t.1, ?_, ?_, ?_, ?_, ?_⟩
    · rw [so_at]
      exact veq_trans (veq_copy h7b) (veq_trans b.2 (veq_symm t.2))
    · rw [so_ne (by omega), so_at]
      refine rsh_h (rsh_cut h7 a3 (by omega) ?_ (fun i _ => hi _ _ (by omega) (by omega)) fx) (by omega) (by omega) fun w h1 h2 => by rw [so_ne (by omega), so_ne (by omega)]
      rw [mTk_hi (by omega), vu_at]
    · rw [so_ne (by omega), so_ne (by omega)]
      exact rsh_h (rsh_same h7 a4 (hi _ _ (by omega) (by omega)) (fun i => hi _ _ (by omega) (by omega)) fx) (by omega) (by omega) fun w h1 h2 => by rw [so_ne (by omega), so_ne (by omega)]
    · rw [so_ne (by omega), so_ne (by omega)]
      exact rse_same a5 fx.1 fun k i _ _ => hi _ _ (by omega) (by omega)
    · rw [so_ne (by omega), so_ne (by omega)]
      exact rtx_same a6 fun k i _ _ => hi _ _ (by omega) (by omega)
theorem ag_back {LS : Int} {n : Nat} (hn : 20 ≤ n) {g : nl_H} (r : rg g) : ag LS n m_X5_back m_X6_back [] g := by
  have r' : rl g (mv (g 6 0)) := r
  have h7 := rl_7 r
  obtain ⟨a1, a2, a3, a4, a5, a6⟩ := r'
  have q29 := a4.2.1
  have s4 := a4.1.1
  obtain ⟨f, hf⟩ : ∃ f : Nat, g 2 1 1 0 = f := ⟨(g 2 1 1 0).toNat, by omega⟩
  have c := pu_back (LS := LS) (n := n) (by omega) (h := g) rfl a4.1
  have m := fun h => sq_back (LS := LS) (n := n) (by omega) (h := h) (V := mv (g 6 0)) (f := f) (by omega) (by omega)
  by_cases q : f < 1
  · rw [if_pos (by omega)] at c
    simp only [if_pos q] at m
    exact ag_of rfl c rfl (m _) rfl r
  · rw [if_neg (by omega)] at c
    simp only [if_neg q] at m
    rw [hf, show ((f : Int) - 1).toNat = f - 1 by omega] at c
    refine ag_of rfl c (by rw [so_ne (by omega), so_ne (by omega), so_ne (by omega)]) (m _) rfl ?_
    have b := a4.2.2 (f - 1) (by omega)
    have e : ∀ k i : Nat, k ≠ 29 → vu (mv (g 6 0)) 29 0 ((f : Int) - 1) k i = mv (g 6 0) k i := fun k i hk => vu_k hk
    have t := vgd_take (W := vu (mv (g 6 0)) 29 0 ((f : Int) - 1)) h7 b.1 fun k i hk => e k i (by omega)
    have hi : ∀ k i : Nat, 10 < k → k ≠ 24 → k ≠ 29 → vu (mTk (vu (mv (g 6 0)) 29 0 ((f : Int) - 1)) 28 (79 * (f - 1))) 24 0 0 k i = mv (g 6 0) k i := fun k i h1 h2 h3 => by rw [vu_k h2, mTk_hi h1, e k i h3]
    have lo : ∀ k i : Nat, k ≠ 24 → vu (mTk (vu (mv (g 6 0)) 29 0 ((f : Int) - 1)) 28 (79 * (f - 1))) 24 0 0 k i = mTk (vu (mv (g 6 0)) 29 0 ((f : Int) - 1)) 28 (79 * (f - 1)) k i := fun k i h => vu_k h
    have fx : mfx (vu (mTk (vu (mv (g 6 0)) 29 0 ((f : Int) - 1)) 28 (79 * (f - 1))) 24 0 0) (mv (g 6 0)) := mfx_of fun k i hk => by rw [lo k i (by omega), mTk_f hk, e k i (by omega)]
    have vl : veq (vu (mTk (vu (mv (g 6 0)) 29 0 ((f : Int) - 1)) 28 (79 * (f - 1))) 24 0 0) (mTk (vu (mv (g 6 0)) 29 0 ((f : Int) - 1)) 28 (79 * (f - 1))) := ⟨⟨lo _ _ (by omega), lo _ _ (by omega), lo _ _ (by omega)⟩, fun k i _ _ _ => lo _ _ (by omega), fun i k _ _ => lo _ _ (by omega)⟩
    have sI := a4.1.2.1 (f - 1) (by omega)
    have h7b : g 4 (g 2 1 0 (f - 1)).toNat 0 0 ≤ 7 := by rw [b.2.1.1, mTk_f (.inl rfl)]; exact h7
    refine ⟨vgd_veq t.1 vl, ?_, ?_, ?_, ?_, ?_⟩
    · rw [so_ne (by omega), so_at]
      exact veq_trans (veq_copy h7b) (veq_trans b.2 (veq_symm (veq_trans vl t.2)))
    · rw [so_at]
      exact rsh_0 a3.1 vu_at
    · rw [so_ne (by omega), so_ne (by omega), so_at]
      refine rsh_h (rsh_cut h7 a4 (by omega) ?_ (fun i _ => hi _ _ (by omega) (by omega) (by omega)) fx) (by omega) (by omega) fun w h1 h2 => by rw [so_ne (by omega), so_ne (by omega), so_ne (by omega)]
      rw [vu_k (by omega), mTk_hi (by omega), vu_at]
    · rw [so_ne (by omega), so_ne (by omega), so_ne (by omega)]
      exact rse_same a5 fx.1 fun k i _ _ => hi _ _ (by omega) (by omega) (by omega)
    · rw [so_ne (by omega), so_ne (by omega), so_ne (by omega)]
      exact rtx_same a6 fun k i _ _ => hi _ _ (by omega) (by omega) (by omega)
theorem ag_keep {LS : Int} {n : Nat} (hn : 20 ≤ n) {g : nl_H} (r : rg g) : ag LS n m_X5_keep m_X6_keep [] g := by
  have r' : rl g (mv (g 6 0)) := r
  have h7 := rl_7 r
  obtain ⟨a1, a2, a3, a4, a5, a6⟩ := r'
  have q29 := a4.2.1
  have s4 := a4.1.1
  obtain ⟨f, hf⟩ : ∃ f : Nat, g 2 1 1 0 = f := ⟨(g 2 1 1 0).toNat, by omega⟩
  have c := pu_keep (LS := LS) (n := n) (by omega) (h := g) rfl a4.1
  have m := fun h => sq_keep (LS := LS) (n := n) (by omega) (h := h) (V := mv (g 6 0)) (f := f) (by omega) (by omega)
  by_cases q : f < 2
  · rw [if_pos (by omega)] at c
    simp only [if_pos q] at m
    refine ag_of rfl c (hp_o (by omega) (by omega)) (m _) (by rw [hf]) ?_
    have e : ∀ k i : Nat, k ≠ 28 → k ≠ 29 → vu (mLy (mv (g 6 0)) 28 (79 * f)) 29 0 ((f : Int) + 1) k i = mv (g 6 0) k i := fun k i h1 h2 => by rw [vu_k h2, mLy_o h1]
    have fx : mfx (vu (mLy (mv (g 6 0)) 28 (79 * f)) 29 0 ((f : Int) + 1)) (mv (g 6 0)) := mfx_of fun k i hk => e k i (by omega) (by omega)
    have ve : veq (vu (mLy (mv (g 6 0)) 28 (79 * f)) 29 0 ((f : Int) + 1)) (mv (g 6 0)) := ⟨⟨e _ _ (by omega) (by omega), e _ _ (by omega) (by omega), e _ _ (by omega) (by omega)⟩, fun k i _ _ _ => e _ _ (by omega) (by omega), fun i k _ _ => e _ _ (by omega) (by omega)⟩
    have eS : shPre 2 (g 2 1) = g 2 1 := by unfold shPre; rw [if_pos (by omega)]
    have eR : shR 2 (g 2 1) = (g 2 1 0 f).toNat := by unfold shR; rw [eS, hf, Int.toNat_natCast]
    have bR := a4.1.2.1 f (by omega)
    have h70 : g 4 0 0 0 ≤ 7 := by rw [a2.1.1]; exact h7
    refine ⟨vgd_veq a1 ve, ?_, ?_, ?_, ?_, ?_⟩
    · rw [hp_4, if_neg (by omega)]; exact veq_trans a2 (veq_symm ve)
    · rw [hp_o (by omega) (by omega)]
      exact rsh_h (rsh_same h7 a3 (e _ _ (by omega) (by omega)) (fun i => e _ _ (by omega) (by omega)) fx) (by omega) (by omega) fun w h1 h2 => by rw [hp_4, if_neg (by omega)]
    · rw [hp_2, eS]
      refine rsh_push (f := f) (h := g) h7 (by omega) a4 hf (by omega) vu_at (fun i hi => ?_) fx (fun i hi => ?_) a1 (fun w hw h1 h2 => ?_) ?_
      · rw [vu_k (by omega), mLy_out (by omega)]
      · rw [vu_k (by omega), mLy_in hi]
      · rw [hp_4, if_neg (by rw [eR]; exact hw)]
      · rw [hp_4, if_pos eR.symm]
        exact veq_trans (veq_copy h70) a2
    · rw [hp_o (by omega) (by omega)]
      exact rse_same a5 fx.1 fun k i _ _ => e _ _ (by omega) (by omega)
    · rw [hp_o (by omega) (by omega)]
      exact rtx_same a6 fun k i _ _ => e _ _ (by omega) (by omega)
  · rw [if_neg (by omega)] at c
    simp only [if_neg q] at m
    exact ag_of rfl c rfl (m _) rfl r
