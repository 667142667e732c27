/-! Both answer alike: acts. -/
theorem ag_forget {LS : Int} {n : Nat} (hn : 20 ≤ n) {g : nl_H} (r : rg g) : ag LS n m_X5_forget m_X6_forget [] g := by
  have r' : rl g (mv (g 6 0)) := r
  obtain ⟨a1, a2, a3, a4, a5, a6⟩ := r'
  refine ag_of rfl (pu_forget (by omega)) (so_ne (by omega)) (sq_forget (by omega)) a5.2.1 ?_
  have h7 := rl_7 r
  have e : ∀ k i : Nat, k ≠ 11 → vu (mv (g 6 0)) 11 0 0 k i = mv (g 6 0) k i := fun k i hk => vu_k hk
  have hx : mfx (vu (mv (g 6 0)) 11 0 0) (mv (g 6 0)) := mfx_of fun k i hk => e k i (by omega)
  have ve : veq (vu (mv (g 6 0)) 11 0 0) (mv (g 6 0)) := ⟨⟨e _ _ (by omega), e _ _ (by omega), e _ _ (by omega)⟩, fun k i _ _ _ => e _ _ (by omega), fun i k _ _ => e _ _ (by omega)⟩
  refine ⟨vgd_veq a1 ve, ?_, ?_, ?_, ?_, ?_⟩
  · rw [so_ne (by omega)]; exact veq_trans a2 (veq_symm ve)
  · rw [so_ne (by omega)]
    exact rsh_h (rsh_same h7 a3 (e _ _ (by omega)) (fun i => e _ _ (by omega)) hx) (by omega) (by omega) fun w _ _ => so_ne (by omega)
  · rw [so_ne (by omega)]
    exact rsh_h (rsh_same h7 a4 (e _ _ (by omega)) (fun i => e _ _ (by omega)) hx) (by omega) (by omega) fun w _ _ => so_ne (by omega)
  · rw [so_at]
    refine ⟨⟨by rw [vu_at]; omega, fun i hi => ?_⟩, by rw [vu_at, vu_at], fun i hi => ?_⟩
    · rw [vu_at] at hi; omega
    · rw [vu_at] at hi; omega
  · rw [so_ne (by omega)]
    exact rtx_same a6 fun k i _ _ => e _ _ (by omega)
theorem ag_seen {LS : Int} {n : Nat} (hn : 20 ≤ n) {g : nl_H} (r : rg g) {x y z : Int} (hx : nl_inR x) (hy : nl_inR y) (hz : nl_inR z) : ag LS n m_X5_seen m_X6_seen [vI x, vI y, vI z] g := by
  have r' : rl g (mv (g 6 0)) := r
  obtain ⟨a1, a2, a3, a4, a5, a6⟩ := r'
  have hV := vgd_N a1
  have h0 := a2.1.1
  have h11 := a5.2.1
  have hS := a5.1.1
  have c := pu_seen (LS := LS) (n := n) (by omega) (h := g) hx hy hz (vok_veq hV a2) hS
  have m := fun h => sq_seen (LS := LS) (n := n) (by omega) (h := h) (V := mv (g 6 0)) hx hy hz hV (by omega)
  unfold rSeen at c
  unfold mSeen at m
  by_cases q : (0 ≤ x ∧ x ≤ 20) ∧ (0 ≤ y ∧ y < mv (g 6 0) 0 0) ∧ 0 ≤ z ∧ z ≤ 1
  · rw [if_pos (by omega)] at c
    simp only [if_pos q] at m
    by_cases q2 : g 3 0 3 0 < 6
    · rw [if_pos q2] at c
      have q3 : mv (g 6 0) 11 0 < 6 := by omega
      simp only [if_pos q3] at m
      refine ag_of rfl c (so_ne (by omega)) (m _) (by rw [h11]) ?_
      have h7 := rl_7 r
      obtain ⟨f, hf⟩ : ∃ f : Nat, g 3 0 3 0 = f := ⟨(g 3 0 3 0).toNat, by omega⟩
      rw [h11, hf, Int.toNat_natCast]
      have e : ∀ k i : Nat, (k < 11 ∨ 14 < k) → vu (vu (vu (vu (mv (g 6 0)) 12 f x) 13 f y) 14 f z) 11 0 ((f : Int) + 1) k i = mv (g 6 0) k i := fun k i hk => by rw [vu_k (by omega), vu_k (by omega), vu_k (by omega), vu_k (by omega)]
      generalize hU : vu (vu (vu (vu (mv (g 6 0)) 12 f x) 13 f y) 14 f z) 11 0 ((f : Int) + 1) = U at e ⊢
      have hx : mfx U (mv (g 6 0)) := mfx_of fun k i hk => e k i (by omega)
      have ve : veq U (mv (g 6 0)) := ⟨⟨e _ _ (by omega), e _ _ (by omega), e _ _ (by omega)⟩, fun k i _ _ _ => e _ _ (by omega), fun i k _ _ => e _ _ (by omega)⟩
      refine ⟨vgd_veq a1 ve, ?_, ?_, ?_, ?_, ?_⟩
      · rw [so_ne (by omega)]; exact veq_trans a2 (veq_symm ve)
      · rw [so_ne (by omega)]
        exact rsh_h (rsh_same h7 a3 (e _ _ (by omega)) (fun i => e _ _ (by omega)) hx) (by omega) (by omega) fun w _ _ => so_ne (by omega)
      · rw [so_ne (by omega)]
        exact rsh_h (rsh_same h7 a4 (e _ _ (by omega)) (fun i => e _ _ (by omega)) hx) (by omega) (by omega) fun w _ _ => so_ne (by omega)
      · rw [so_at]
        unfold vAdd
        rw [hf, Int.toNat_natCast, ← hU]
        dsimp only
        have s0 : ∀ i, vu (vu (vu (vu (g 3 0) 0 f x) 1 f y) 2 f z) 3 0 ((f : Int) + 1) 0 i = if i = f then x else g 3 0 0 i := by
          intro i
          rw [vu_k (by omega), vu_k (by omega), vu_k (by omega)]
          by_cases p : i = f
          · subst p; rw [vu_at, if_pos rfl]
          · rw [vu_ne (by omega), if_neg p]
        have s1 : ∀ i, vu (vu (vu (vu (g 3 0) 0 f x) 1 f y) 2 f z) 3 0 ((f : Int) + 1) 1 i = if i = f then y else g 3 0 1 i := by
          intro i
          rw [vu_k (by omega), vu_k (by omega)]
          by_cases p : i = f
          · subst p; rw [vu_at, if_pos rfl]
          · rw [vu_ne (by omega), vu_k (by omega), if_neg p]
        have s2 : ∀ i, vu (vu (vu (vu (g 3 0) 0 f x) 1 f y) 2 f z) 3 0 ((f : Int) + 1) 2 i = if i = f then z else g 3 0 2 i := by
          intro i
          rw [vu_k (by omega)]
          by_cases p : i = f
          · subst p; rw [vu_at, if_pos rfl]
          · rw [vu_ne (by omega), vu_k (by omega), vu_k (by omega), if_neg p]
        have t2 : ∀ i, vu (vu (vu (vu (mv (g 6 0)) 12 f x) 13 f y) 14 f z) 11 0 ((f : Int) + 1) 12 i = if i = f then x else mv (g 6 0) 12 i := by
          intro i
          rw [vu_k (by omega), vu_k (by omega), vu_k (by omega)]
          by_cases p : i = f
          · subst p; rw [vu_at, if_pos rfl]
          · rw [vu_ne (by omega), if_neg p]
        have t3 : ∀ i, vu (vu (vu (vu (mv (g 6 0)) 12 f x) 13 f y) 14 f z) 11 0 ((f : Int) + 1) 13 i = if i = f then y else mv (g 6 0) 13 i := by
          intro i
          rw [vu_k (by omega), vu_k (by omega)]
          by_cases p : i = f
          · subst p; rw [vu_at, if_pos rfl]
          · rw [vu_ne (by omega), vu_k (by omega), if_neg p]
        have t4 : ∀ i, vu (vu (vu (vu (mv (g 6 0)) 12 f x) 13 f y) 14 f z) 11 0 ((f : Int) + 1) 14 i = if i = f then z else mv (g 6 0) 14 i := by
          intro i
          rw [vu_k (by omega)]
          by_cases p : i = f
          · subst p; rw [vu_at, if_pos rfl]
          · rw [vu_ne (by omega), vu_k (by omega), vu_k (by omega), if_neg p]
        have u0 : vu (vu (vu (vu (mv (g 6 0)) 12 f x) 13 f y) 14 f z) 11 0 ((f : Int) + 1) 0 0 = mv (g 6 0) 0 0 := by rw [vu_k (by omega), vu_k (by omega), vu_k (by omega), vu_k (by omega)]
        refine ⟨⟨by rw [vu_at]; omega, fun i hi => ?_⟩, by rw [vu_at, vu_at], fun i hi => ?_⟩
        · rw [vu_at] at hi
          rw [s0, s1, s2, u0]
          by_cases p : i = f
          · rw [if_pos p, if_pos p, if_pos p]; omega
          · rw [if_neg p, if_neg p, if_neg p]; exact a5.1.2 i (by omega)
        · rw [vu_at] at hi
          rw [s0, s1, s2, t2, t3, t4]
          by_cases p : i = f
          · simp only [if_pos p, and_self]
          · simp only [if_neg p]
            exact a5.2.2 i (by omega)
      · rw [so_ne (by omega)]
        exact rtx_same a6 fun k i _ _ => e _ _ (by omega)
    · rw [if_neg q2] at c
      have q3 : ¬ mv (g 6 0) 11 0 < 6 := by omega
      simp only [if_neg q3] at m
      rw [so_self] at c
      exact ag_of rfl c rfl (m _) rfl r
  · rw [if_neg (by omega), so_self] at c
    simp only [if_neg q] at m
    exact ag_of rfl c rfl (m _) rfl r
theorem a24 {g : nl_H} {V : nl_O} (r : rl g V) : 0 ≤ V 24 0 ∧ V 24 0 ≤ 8 := by
  have := r.2.2.1.2.1
  have := r.2.2.1.1.1
  omega
theorem hp6 {h : nl_H} {X : nl_O} : so (hp h 0 8 0) 4 0 X 6 0 = h 6 0 := by rw [so_ne (by omega), hp_o (by omega) (by omega)]
theorem ag_pass {LS : Int} {n : Nat} (hn : 20 ≤ n) {g : nl_H} (r : rg g) {x : Int} (hx : nl_inR x) : ag LS n m_X5_pass m_X6_pass [vI x] g := by
  have r' : rl g (mv (g 6 0)) := r
  have h24 := a24 r'
  have a1 := r'.1
  have a2 := r'.2.1
  have a3 := r'.2.2.1
  have hV := vgd_N a1
  have h1 := a2.1.2.1
  have c := pu_pass (LS := LS) (n := n) (by omega) (h := g) hx (by omega) rfl a3.1 (vok_veq hV a2)
  have m := fun h => sq_pass (LS := LS) (n := n) (by omega) (h := h) (V := mv (g 6 0)) hx (by omega) hV h24
  by_cases q : 1 ≤ x ∧ x ≤ 20
  · rw [if_pos q] at c
    simp only [if_pos q] at m
    by_cases q2 : mv (g 6 0) 1 0 + x ≤ 999
    · rw [if_pos (by omega)] at c
      simp only [if_pos q2] at m
      have e1 := veq_trans a2 (veq_symm (mNt_veq (mv (g 6 0))))
      have N1 : vgd (mNt (mv (g 6 0))) := vgd_veq a1 (mNt_veq _)
      have e9 : mNt (mv (g 6 0)) 1 0 = mv (g 6 0) 1 0 := mNt_o (by omega) (by omega)
      refine ag_of rfl c hp6 (m _) (vNights_veq _ (vgd_N N1) (veq_symm e1)).2 ?_
      refine rl_act r' (vgd_pass N1 (by omega)) (vPass_veq (vok_veq hV a2) e1) (mfx_of fun k i hk => ?_) (fun k i hk => vPass_hi hk _ _)
      rw [vPass_lo (by omega) (by omega) (by omega), mNt_o (by omega) (by omega)]
    · rw [if_neg (by omega)] at c
      simp only [if_neg q2] at m
      exact ag_of rfl c rfl (m _) rfl r
  · rw [if_neg q] at c
    simp only [if_neg q] at m
    exact ag_of rfl c rfl (m _) rfl r
theorem ag_swap {LS : Int} {n : Nat} (hn : 20 ≤ n) {g : nl_H} (r : rg g) {x y : Int} (hx : nl_inR x) (hy : nl_inR y) : ag LS n m_X5_swap m_X6_swap [vI x, vI y] g := by
  have r' : rl g (mv (g 6 0)) := r
  have h24 := a24 r'
  have a1 := r'.1
  have a2 := r'.2.1
  have a3 := r'.2.2.1
  have hV := vgd_N a1
  have h0 := a2.1.1
  have c := pu_swap (LS := LS) (n := n) (by omega) (h := g) hx hy rfl a3.1 (vok_veq hV a2)
  have m := fun h => sq_swap (LS := LS) (n := n) (by omega) (h := h) (V := mv (g 6 0)) hx hy hV h24
  by_cases q : ((0 ≤ x ∧ x < mv (g 6 0) 0 0) ∧ 0 ≤ y ∧ y < mv (g 6 0) 0 0) ∧ x ≠ y
  · rw [if_pos (by omega)] at c
    simp only [if_pos q] at m
    have e1 := veq_trans a2 (veq_symm (mNt_veq (mv (g 6 0))))
    have N1 : vgd (mNt (mv (g 6 0))) := vgd_veq a1 (mNt_veq _)
    have e9 : mNt (mv (g 6 0)) 0 0 = mv (g 6 0) 0 0 := mNt_o (by omega) (by omega)
    have e2 := vTrade_veq e1 (a := x.toNat) (b := y.toNat) (by omega) (by omega)
    have z0 : vTrade (mNt (mv (g 6 0))) x.toNat y.toNat 0 0 = mv (g 6 0) 0 0 := by unfold vTrade; rw [vu_k (by omega), vu_k (by omega)]; exact e9
    refine ag_of rfl c hp6 (m _) ((veq_symm e2).2.1 8 x.toNat (by omega) (by omega) (by omega)) ?_
    refine rl_act r' (vgd_trade N1 (by omega) (by omega)) e2 (mfx_of fun k i hk => ?_) (fun k i hk => ?_)
    · unfold vTrade
      rw [vu_k (by omega), vu_k (by omega), mNt_o (by omega) (by omega)]
    · unfold vTrade
      rw [vu_k (by omega), vu_k (by omega)]
  · rw [if_neg (by omega)] at c
    simp only [if_neg q] at m
    exact ag_of rfl c rfl (m _) rfl r
theorem ag_rest {LS : Int} {n : Nat} (hn : 20 ≤ n) {g : nl_H} (r : rg g) {x : Int} (hx : nl_inR x) : ag LS n m_X5_rest m_X6_rest [vI x] g := by
  have r' : rl g (mv (g 6 0)) := r
  have h24 := a24 r'
  have a1 := r'.1
  have a2 := r'.2.1
  have a3 := r'.2.2.1
  have hV := vgd_N a1
  have h0 := a2.1.1
  have c := pu_rest (LS := LS) (n := n) (by omega) (h := g) hx rfl a3.1 (vok_veq hV a2)
  have m := fun h => sq_rest (LS := LS) (n := n) (by omega) (h := h) (V := mv (g 6 0)) hx hV h24
  by_cases q : 0 ≤ x ∧ x < mv (g 6 0) 0 0
  · rw [if_pos (by omega)] at c
    simp only [if_pos q] at m
    have e7 : g 4 0 7 x.toNat = mv (g 6 0) 7 x.toNat := a2.2.1 7 x.toNat (by omega) (by omega) (by omega)
    by_cases q2 : mv (g 6 0) 7 x.toNat = 0
    · rw [if_pos (by omega)] at c
      simp only [if_pos q2] at m
      exact ag_of rfl c rfl (m _) rfl r
    · rw [if_neg (by omega)] at c
      simp only [if_neg q2] at m
      have e1 := veq_trans a2 (veq_symm (mNt_veq (mv (g 6 0))))
      have N1 : vgd (mNt (mv (g 6 0))) := vgd_veq a1 (mNt_veq _)
      have e9 : mNt (mv (g 6 0)) 0 0 = mv (g 6 0) 0 0 := mNt_o (by omega) (by omega)
      have e2 := vRest_veq e1 (i := x.toNat) (by omega)
      have z0 : vRest (mNt (mv (g 6 0))) x.toNat 0 0 = mv (g 6 0) 0 0 := by unfold vRest; rw [vu_k (by omega)]; exact e9
      refine ag_of rfl c hp6 (m _) ((veq_symm e2).2.1 7 x.toNat (by omega) (by omega) (by omega)) ?_
      refine rl_act r' (vgd_rest N1 (by omega)) e2 (mfx_of fun k i hk => ?_) (fun k i hk => ?_)
      · unfold vRest
        rw [vu_k (by omega), mNt_o (by omega) (by omega)]
      · unfold vRest
        rw [vu_k (by omega)]
  · rw [if_neg (by omega)] at c
    simp only [if_neg q] at m
    exact ag_of rfl c rfl (m _) rfl r
theorem ag_burden {LS : Int} {n : Nat} (hn : 20 ≤ n) {g : nl_H} (r : rg g) {x y : Int} (hx : nl_inR x) (hy : nl_inR y) : ag LS n m_X5_burden m_X6_burden [vI x, vI y] g := by
  have r' : rl g (mv (g 6 0)) := r
  have h24 := a24 r'
  have a1 := r'.1
  have a2 := r'.2.1
  have a3 := r'.2.2.1
  have hV := vgd_N a1
  have h0 := a2.1.1
  have c := pu_burden (LS := LS) (n := n) (by omega) (h := g) hx hy rfl a3.1 (vok_veq hV a2)
  have m := fun h => sq_burden (LS := LS) (n := n) (by omega) (h := h) (V := mv (g 6 0)) hx hy hV h24
  by_cases q : (0 ≤ x ∧ x < mv (g 6 0) 0 0) ∧ 0 ≤ y ∧ y ≤ 20
  · rw [if_pos (by omega)] at c
    simp only [if_pos q] at m
    have e3 : g 4 0 3 x.toNat = mv (g 6 0) 3 x.toNat := a2.2.1 3 x.toNat (by omega) (by omega) (by omega)
    by_cases q2 : mv (g 6 0) 3 x.toNat = y
    · rw [if_pos (by omega)] at c
      simp only [if_pos q2] at m
      exact ag_of rfl c rfl (m _) rfl r
    · rw [if_neg (by omega)] at c
      simp only [if_neg q2] at m
      have e1 := veq_trans a2 (veq_symm (mNt_veq (mv (g 6 0))))
      have N1 : vgd (mNt (mv (g 6 0))) := vgd_veq a1 (mNt_veq _)
      refine ag_of rfl c hp6 (m _) e3.symm ?_
      refine rl_act r' (vgd_bur N1 q.2) (veq_v e1 ⟨by omega, by omega⟩ rfl) (mfx_of fun k i hk => ?_) (fun k i hk => ?_)
      · rw [vu_k (by omega), mNt_o (by omega) (by omega)]
      · rw [vu_k (by omega)]
  · rw [if_neg (by omega)] at c
    simp only [if_neg q] at m
    exact ag_of rfl c rfl (m _) rfl r
