/-! Both answer alike: reads, acts. -/
def vrot (m x : Int) : Int := if x + 1 < m then x + 1 else 0
theorem vRow_8 : ∀ (d i : Nat) (V : nl_O) (j : Nat), (vRow d i V).1 8 j = if i ≤ j ∧ j < i + d then vrot (V 0 0) (V 8 j) else V 8 j := by
  intro d
  induction d with
  | zero =>
    intro i V j
    simp only [vRow]
    rw [if_neg (by omega)]
  | succ d ih =>
    intro i V j
    simp only [vRow]
    rw [ih, see_8, see_lo (show 0 < 7 by omega)]
    by_cases q : i + 1 ≤ j ∧ j < i + 1 + d
    · rw [if_pos q, if_neg (by omega), if_pos (by omega)]
    · rw [if_neg q]
      by_cases p : j = i
      · subst p
        rw [if_pos rfl, if_pos (c := j ≤ j ∧ j < j + (d + 1)) (by omega)]
        rfl
      · rw [if_neg p, if_neg (by omega)]
theorem vinj_night {N : Int} {V : nl_O} (hV : vok N V) (hI : vinj V) : vinj (vNight V).1 := by
  have e := vN_eq hV
  have e0 : (vNight V).1 0 0 = V 0 0 := (vNight_ok hV).2.1
  have e8 : ∀ i : Nat, (i : Int) < V 0 0 → (vNight V).1 8 i = vrot (V 0 0) (V 8 i) := by
    intro i hi
    unfold vNight
    dsimp only
    rw [vu_k (by omega), vRow_8, if_pos (by omega)]
  intro i j hi hj h
  rw [e0] at hi hj
  rw [e8 i hi, e8 j hj] at h
  have b1 := (hV.2.2.2.1 i hi).2.2.2.2.2.1
  have b2 := (hV.2.2.2.1 j hj).2.2.2.2.2.1
  unfold vrot at h
  refine hI i j hi hj ?_
  split at h <;> split at h <;> omega
theorem vinj_nights : ∀ (d : Nat) {N : Int} {V : nl_O}, vok N V → vinj V → vinj (vNights d V).1 := by
  intro d
  induction d with
  | zero => intro N V _ h; exact h
  | succ d ih =>
    intro N V hV h
    exact ih (vNight_ok hV).1 (vinj_night hV h)
theorem vinj_o {V W : nl_O} (h : vinj V) (h0 : W 0 0 = V 0 0) (h8 : ∀ i, W 8 i = V 8 i) : vinj W := by
  intro i j hi hj e
  rw [h0] at hi hj
  rw [h8, h8] at e
  exact h i j hi hj e
theorem vgd_pass {V : nl_O} (h : vgd V) {d : Nat} (hd : V 1 0 + d ≤ 999) : vgd (vPass d V) := by
  have e1 : vPass d V 1 0 = V 1 0 + d := by
    unfold vPass
    rw [vu_k (by omega), vNights_1]
  refine ⟨?_, ?_, by rw [e1]; exact hd⟩
  · rw [e1, show 7 * (V 1 0 + (d : Int)) = 7 * V 1 0 + 7 * d by omega]
    exact (vPass_ok h.1).1
  · refine vinj_o (V := (vNights d V).1) (vinj_nights d h.1 h.2.1) ?_ fun i => ?_
    · unfold vPass; rw [vu_k (by omega)]
    · unfold vPass; rw [vu_k (by omega)]
theorem vgd_trade {V : nl_O} (h : vgd V) {a b : Nat} (ha : (a : Int) < V 0 0) (hb : (b : Int) < V 0 0) : vgd (vTrade V a b) := by
  have e1 : vTrade V a b 1 0 = V 1 0 := by unfold vTrade; rw [vu_k (by omega), vu_k (by omega)]
  have e0 : vTrade V a b 0 0 = V 0 0 := by unfold vTrade; rw [vu_k (by omega), vu_k (by omega)]
  refine ⟨by rw [e1]; exact vTrade_ok h.1 ha hb, ?_, by rw [e1]; exact h.2.2⟩
  have e8 : ∀ i, vTrade V a b 8 i = if i = b then V 8 a else if i = a then V 8 b else V 8 i := by
    intro i
    unfold vTrade
    by_cases q : i = b
    · subst q; rw [vu_at, if_pos rfl]
    · rw [vu_ne (by omega), if_neg q]
      by_cases p : i = a
      · subst p; rw [vu_at, if_pos rfl]
      · rw [vu_ne (by omega), if_neg p]
  intro i j hi hj e
  rw [e0] at hi hj
  rw [e8, e8] at e
  have I := h.2.1
  by_cases q1 : i = b
  · rw [if_pos q1] at e
    by_cases q2 : j = b
    · omega
    · rw [if_neg q2] at e
      by_cases p2 : j = a
      · rw [if_pos p2] at e
        have := I a b ha hb e
        omega
      · rw [if_neg p2] at e
        have := I a j ha hj e
        omega
  · rw [if_neg q1] at e
    by_cases p1 : i = a
    · rw [if_pos p1] at e
      by_cases q2 : j = b
      · rw [if_pos q2] at e
        have := I b a hb ha e
        omega
      · rw [if_neg q2] at e
        by_cases p2 : j = a
        · omega
        · rw [if_neg p2] at e
          have := I b j hb hj e
          omega
    · rw [if_neg p1] at e
      by_cases q2 : j = b
      · rw [if_pos q2] at e
        have := I i a hi ha e
        omega
      · rw [if_neg q2] at e
        by_cases p2 : j = a
        · rw [if_pos p2] at e
          have := I i b hi hb e
          omega
        · rw [if_neg p2] at e
          exact I i j hi hj e
theorem vgd_rest {V : nl_O} (h : vgd V) {i : Nat} (hi : (i : Int) < V 0 0) : vgd (vRest V i) := by
  have e1 : ∀ k j, k ≠ 7 → vRest V i k j = V k j := fun k j hk => by unfold vRest; rw [vu_k hk]
  refine ⟨by rw [e1 1 0 (by omega)]; exact vRest_ok h.1 hi, vinj_o h.2.1 (e1 _ _ (by omega)) (fun j => e1 _ _ (by omega)), by rw [e1 1 0 (by omega)]; exact h.2.2⟩
theorem vgd_bur {V : nl_O} (h : vgd V) {k : Nat} {x : Int} (hx : 0 ≤ x ∧ x ≤ 20) : vgd (vu V 3 k x) := by
  have e1 : ∀ k' j, k' ≠ 3 → vu V 3 k x k' j = V k' j := fun k' j hk => vu_k hk
  refine ⟨by rw [e1 1 0 (by omega)]; exact vBur_ok h.1 hx, vinj_o h.2.1 (e1 _ _ (by omega)) (fun j => e1 _ _ (by omega)), by rw [e1 1 0 (by omega)]; exact h.2.2⟩
theorem ag_house {LS : Int} {n : Nat} (hn : 20 ≤ n) {g : nl_H} (r : rg g) {x y : Int} (hx : nl_inR x) (hy : nl_inR y) : ag LS n m_X5_house m_X6_house [vI x, vI y] g := by
  have hV := vgd_N r.1
  exact ag_of rfl (pu_house (by omega) hx hy (vok_veq hV r.2.1)) rfl (sq_house (by omega) hx hy hV) (rHouse_veq (veq_symm r.2.1) x y) r
theorem ag_hour {LS : Int} {n : Nat} (hn : 20 ≤ n) {g : nl_H} (r : rg g) {x y : Int} (hx : nl_inR x) (hy : nl_inR y) : ag LS n m_X5_hour m_X6_hour [vI x, vI y] g := by
  have hV := vgd_N r.1
  exact ag_of rfl (pu_hour (by omega) hx hy (vok_veq hV r.2.1)) rfl (sq_hour (by omega) hx hy hV r.1.2.1) (rHour_veq hV (veq_symm r.2.1) x y) r
theorem ag_heavy {LS : Int} {n : Nat} (hn : 20 ≤ n) {g : nl_H} (r : rg g) {x y : Int} (hx : nl_inR x) (hy : nl_inR y) : ag LS n m_X5_heavy m_X6_heavy [vI x, vI y] g := by
  have hV := vgd_N r.1
  exact ag_of rfl (pu_heavy (by omega) hx hy (by omega) (vok_veq hV r.2.1)) rfl (sq_heavy (by omega) hx hy (by omega) hV) (rHeavy_veq hV (veq_symm r.2.1) x y) r
theorem ag_had {LS : Int} {n : Nat} (hn : 20 ≤ n) {g : nl_H} (r : rg g) {x y : Int} (hx : nl_inR x) (hy : nl_inR y) : ag LS n m_X5_had m_X6_had [vI x, vI y] g := by
  have hV := vgd_N r.1
  exact ag_of rfl (pu_had (by omega) hx hy (vok_veq hV r.2.1)) rfl (sq_had (by omega) hx hy hV) (rHad_veq (veq_symm r.2.1) x y) r
theorem ag_count {LS : Int} {n : Nat} (hn : 20 ≤ n) {g : nl_H} (r : rg g) {x : Int} (hx : nl_inR x) : ag LS n m_X5_count m_X6_count [vI x] g := by
  have r' : rl g (mv (g 6 0)) := r
  obtain ⟨a1, a2, a3, a4, a5, L, t1, t2, t3, t4⟩ := r'
  have hV := vgd_N a1
  refine ag_of rfl (pu_count (by omega) hx (vok_veq hV a2)) rfl (sq_count (by omega) hx hV) ?_ r
  unfold mCount rCount
  have e := vN_eq hV
  have s := vSum_veq (veq_symm a2) (k := 7) ⟨by omega, by omega⟩ (vN (mv (g 6 0))) 0 (by omega)
  rw [a2.1.1, a2.1.2.1, a2.1.2.2, a3.2.1, a4.2.1, a5.2.1, t2, t1, s, vN_veq a2]
theorem ag_wipe {LS : Int} {n : Nat} (hn : 20 ≤ n) {g : nl_H} (r : rg g) : ag LS n m_X5_wipe m_X6_wipe [] g := by
  have r' : rl g (mv (g 6 0)) := r
  obtain ⟨a1, a2, a3, a4, a5, L, t1, t2, t3, t4⟩ := r'
  refine ag_of rfl (pu_wipe (by omega)) (so_ne (by omega)) (sq_wipe (by omega)) (by rw [t1, t2]) ?_
  have h7 := rl_7 r
  have e : ∀ k i : Nat, k ≠ 16 → vu (mv (g 6 0)) 16 0 0 k i = mv (g 6 0) k i := fun k i hk => vu_k hk
  have hx : mfx (vu (mv (g 6 0)) 16 0 0) (mv (g 6 0)) := mfx_of fun k i hk => e k i (by omega)
  have ve : veq (vu (mv (g 6 0)) 16 0 0) (mv (g 6 0)) := ⟨⟨e _ _ (by omega), e _ _ (by omega), e _ _ (by omega)⟩, fun k i _ _ _ => e _ _ (by omega), fun i k _ _ => e _ _ (by omega)⟩
  refine ⟨vgd_veq a1 ve, ?_, ?_, ?_, ?_, ?_⟩
  · rw [so_ne (by omega)]; exact veq_trans a2 (veq_symm ve)
  · rw [so_ne (by omega)]
    exact rsh_h (rsh_same h7 a3 (e _ _ (by omega)) (fun i => e _ _ (by omega)) hx) (by omega) (by omega) fun w _ _ => so_ne (by omega)
  · rw [so_ne (by omega)]
    exact rsh_h (rsh_same h7 a4 (e _ _ (by omega)) (fun i => e _ _ (by omega)) hx) (by omega) (by omega) fun w _ _ => so_ne (by omega)
  · rw [so_ne (by omega)]
    exact rse_same a5 hx.1 fun k i _ _ => e _ _ (by omega)
  · rw [so_at]
    refine ⟨0, by rw [vu_at]; rfl, by rw [vu_at]; rfl, ⟨by omega, fun i hi => by omega⟩, fun i hi => by omega⟩
theorem ag_write {LS : Int} {n : Nat} (hn : 20 ≤ n) {g : nl_H} (r : rg g) {x : Int} (hx : nl_inR x) : ag LS n m_X5_write m_X6_write [vI x] g := by
  have r' : rl g (mv (g 6 0)) := r
  obtain ⟨a1, a2, a3, a4, a5, L, t1, t2, t3, t4⟩ := r'
  have c := pu_write (LS := LS) (n := n) (by omega) (h := g) hx t1 t3.1
  have m := fun h => sq_write (LS := LS) (n := n) (by omega) (h := h) (V := mv (g 6 0)) hx t2 t3.1
  by_cases q : 32 ≤ x ∧ x ≤ 126
  · by_cases q2 : L < 200
    · rw [if_pos q, if_pos q2] at c
      simp only [if_pos q, if_pos q2] at m
      refine ag_of rfl c (so_ne (by omega)) (m _) rfl ?_
      have h7 := rl_7 r
      have e : ∀ k i : Nat, k ≠ 16 → k ≠ 15 → vu (vu (mv (g 6 0)) 15 L x) 16 0 ((L : Int) + 1) k i = mv (g 6 0) k i := fun k i h1 h2 => by rw [vu_k h1, vu_k h2]
      have hx : mfx (vu (vu (mv (g 6 0)) 15 L x) 16 0 ((L : Int) + 1)) (mv (g 6 0)) := mfx_of fun k i hk => e k i (by omega) (by omega)
      have ve : veq (vu (vu (mv (g 6 0)) 15 L x) 16 0 ((L : Int) + 1)) (mv (g 6 0)) := ⟨⟨e _ _ (by omega) (by omega), e _ _ (by omega) (by omega), e _ _ (by omega) (by omega)⟩, fun k i _ _ _ => e _ _ (by omega) (by omega), fun i k _ _ => e _ _ (by omega) (by omega)⟩
      refine ⟨vgd_veq a1 ve, ?_, ?_, ?_, ?_, ?_⟩
      · rw [so_ne (by omega)]; exact veq_trans a2 (veq_symm ve)
      · rw [so_ne (by omega)]
        exact rsh_h (rsh_same h7 a3 (e _ _ (by omega) (by omega)) (fun i => e _ _ (by omega) (by omega)) hx) (by omega) (by omega) fun w _ _ => so_ne (by omega)
      · rw [so_ne (by omega)]
        exact rsh_h (rsh_same h7 a4 (e _ _ (by omega) (by omega)) (fun i => e _ _ (by omega) (by omega)) hx) (by omega) (by omega) fun w _ _ => so_ne (by omega)
      · rw [so_ne (by omega)]
        exact rse_same a5 hx.1 fun k i _ _ => e _ _ (by omega) (by omega)
      · rw [so_at]
        refine ⟨L + 1, by rw [vu_at]; rfl, by rw [vu_at]; rfl, ⟨by omega, fun i hi => ?_⟩, fun i hi => ?_⟩
        · rw [vu_k (by omega)]
          by_cases p : i = L
          · subst p; rw [vu_at]; exact q
          · rw [vu_ne (by omega)]; exact t3.2 i (by omega)
        · rw [vu_k (k := 16) (by omega), vu_k (k := 1) (by omega)]
          by_cases p : i = L
          · subst p; rw [vu_at, vu_at]
          · rw [vu_ne (by omega), vu_ne (by omega)]; exact t4 i (by omega)
    · rw [if_pos q, if_neg q2] at c
      simp only [if_pos q, if_neg q2] at m
      exact ag_of rfl c rfl (m _) rfl r
  · rw [if_neg q] at c
    simp only [if_neg q] at m
    exact ag_of rfl c rfl (m _) rfl r
