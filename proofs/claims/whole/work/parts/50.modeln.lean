/-! The model's nights, trades, rests. -/
theorem sq_lesser {LS : Int} {n : Nat} (hn : 1 ≤ n) {h : nl_H} {b : Int} (hb : 0 ≤ b ∧ b ≤ 1000) : nl_c LS n m_X6_lesser [vI 40, vI b] h = some (if 40 < b then 40 else b, h) := by
  have c := sp_lesser (LS := LS) hn (h := h) (a := 40) (b := b) ⟨by omega, by omega⟩ ⟨by omega, by omega⟩
  rw [c]
  by_cases q : 40 < b
  · rw [if_pos q, if_neg (by omega)]
  · rw [if_neg q, if_pos (by omega)]
theorem sq_greater {LS : Int} {n : Nat} (hn : 1 ≤ n) {h : nl_H} {b : Int} (hb : -1000 ≤ b ∧ b ≤ 1000) : nl_c LS n m_X6_greater [vI 0, vI b] h = some (if b < 0 then 0 else b, h) := by
  have c := sp_greater (LS := LS) hn (h := h) (a := 0) (b := b) ⟨by omega, by omega⟩ ⟨by omega, by omega⟩
  rw [c]
  by_cases q : b < 0
  · rw [if_pos q, if_neg (by omega)]
  · rw [if_neg q, if_pos (by omega)]
theorem sq_trades {LS : Int} {n : Nat} (hn : 1 ≤ n) {h : nl_H} {V : nl_O} {a b : Nat} (ha : a < 7) (hb : b < 7) : nl_c LS n m_X6_trades [vO 6 0, vI (a : Int), vI (b : Int)] (sm h V) = some (0, sm h (vTrade V a b)) := by
  obtain ⟨n, rfl, hn1⟩ := nl_suc hn
  refine cl_X6_trades (.ret ?_)
  rw [sg_X6_trades_0]
  simp (disch := omega) only [nx_of, if_pos, if_neg, if_true, if_false, true_or, or_true, Int.toNat_natCast, Option.bind_some, rm_0, rm_1, rm_2, rm_3, rm_4, rm_5, rm_6, rm_7, rm_8, rm_9, rm_10, rm_11, rm_12, rm_13, rm_14, rm_15, rm_16, rm_17, rm_18, rm_19, rm_20, rm_21, rm_22, rm_23, rm_24, rm_25, rm_26, rm_27, rm_28, rm_29, um_0, um_1, um_2, um_3, um_4, um_5, um_6, um_7, um_8, um_9, um_10, um_11, um_12, um_13, um_14, um_15, um_16, um_17, um_18, um_19, um_20, um_21, um_22, um_23, um_24, um_25, um_26, um_27, um_28, um_29, rm_k, um_k, vu_at, vu_ne, vTrade]
theorem sq_rests {LS : Int} {n : Nat} (hn : 2 ≤ n) {h : nl_H} {V : nl_O} {i : Nat} (hi : i < 7) (ht : 0 ≤ V 7 i ∧ V 7 i ≤ 40) : nl_c LS n m_X6_rests [vO 6 0, vI (i : Int)] (sm h V) = some (0, sm h (vRest V i)) := by
  obtain ⟨n, rfl, hn1⟩ := nl_suc hn
  have c1 := sq_greater (LS := LS) hn1 (h := sm h V) (b := V 7 i - 5) ⟨by omega, by omega⟩
  refine cl_X6_rests (.ret ?_)
  rw [sg_X6_rests_0]
  simp (disch := omega) only [nx_of, if_pos, if_neg, if_true, if_false, true_or, or_true, Int.toNat_natCast, Option.bind_some, rm_0, rm_1, rm_2, rm_3, rm_4, rm_5, rm_6, rm_7, rm_8, rm_9, rm_10, rm_11, rm_12, rm_13, rm_14, rm_15, rm_16, rm_17, rm_18, rm_19, rm_20, rm_21, rm_22, rm_23, rm_24, rm_25, rm_26, rm_27, rm_28, rm_29, um_0, um_1, um_2, um_3, um_4, um_5, um_6, um_7, um_8, um_9, um_10, um_11, um_12, um_13, um_14, um_15, um_16, um_17, um_18, um_19, um_20, um_21, um_22, um_23, um_24, um_25, um_26, um_27, um_28, um_29, rm_k, um_k, vu_at, vu_ne, vRest, c1]
theorem lp_passes {LS : Int} {n : Nat} (hn : 4 ≤ n) {h : nl_H} : ∀ (d j : Nat) {N : Int} {V : nl_O} {g : Int} (w : Option nl_V), N + d ≤ 100000 → vok N V → (j : Int) + d = V 0 0 → 0 ≤ g → g + d ≤ 10000 →
    nl_Rn LS cd_X6_passes (nl_c LS n) ct_X6_passes 1 4 [some (vO 6 0), some (vI g), some (vI (j : Int)), w] (sm h V) (g + (vRow d j V).2, sm h (vu (vu (vRow d j V).1 1 0 ((vRow d j V).1 1 0 + 1)) 2 0 ((vRow d j V).1 2 0 + (g + (vRow d j V).2)))) := by
  intro d
  induction d with
  | zero =>
    intro j N V g w hN hV hj hg1 hg2
    have hn9 := hV.1
    refine .ret ?_
    rw [sg_X6_passes_4]
    simp only [vRow]
    rw [show g + 0 = g by omega]
    simp (disch := omega) only [nx_of, if_pos, if_neg, if_true, if_false, true_or, or_true, Int.toNat_natCast, Option.bind_some, rm_0, rm_1, rm_2, rm_3, rm_4, rm_5, rm_6, rm_7, rm_8, rm_9, rm_10, rm_11, rm_12, rm_13, rm_14, rm_15, rm_16, rm_17, rm_18, rm_19, rm_20, rm_21, rm_22, rm_23, rm_24, rm_25, rm_26, rm_27, rm_28, rm_29, um_0, um_1, um_2, um_3, um_4, um_5, um_6, um_7, um_8, um_9, um_10, um_11, um_12, um_13, um_14, um_15, um_16, um_17, um_18, um_19, um_20, um_21, um_22, um_23, um_24, um_25, um_26, um_27, um_28, um_29, rm_k, um_k, vu_at, vu_ne]
  | succ d ih =>
    intro j N V g w hN hV hj hg1 hg2
    have hn9 := hV.1
    have b1 := hV.2.2.2.1 j (by omega)
    obtain ⟨k, hk⟩ : ∃ k : Nat, V 8 j = k := ⟨(V 8 j).toNat, by omega⟩
    have b2 := hV.2.2.2.2 j k (by omega) (by omega)
    have c1 := sq_keeps (LS := LS) hn (h := h) (V := V) (i := j) (k := k) (N := N) (by omega) hV (by omega) (by omega)
    have c2 := sq_lesser (LS := LS) (n := n) (by omega) (h := sm h V) (b := V 7 j + 2) ⟨by omega, by omega⟩
    have c3 := sq_greater (LS := LS) (n := n) (by omega) (h := sm h V) (b := V 7 j - 3) ⟨by omega, by omega⟩
    have e1 : 7 * (j : Int) + (k : Int) = ((j * 7 + k : Nat) : Int) := by omega
    have h0 : vSee V j 0 0 = V 0 0 := see_lo (by omega)
    have k9 := ih (j + 1) (N := N + 1) (V := vSee V j) (g := g + (1 - vKeeps V j)) (some (vI (k : Int))) (by omega) (vok_see hV (by omega)) (by rw [h0]; omega) (by have := vKeeps_in V j; omega) (by have := vKeeps_in V j; omega)
    simp only [vRow]
    rw [show g + (1 - vKeeps V j) + (vRow d (j + 1) (vSee V j)).2 = g + (1 - vKeeps V j + (vRow d (j + 1) (vSee V j)).2) by omega] at k9
    refine .go ?_ k9
    rw [sg_X6_passes_4]
    unfold vSee vKeeps
    rw [hk, Int.toNat_natCast]
    by_cases q : vHv V j k ≤ V 5 j - V 7 j
    · rw [if_pos q] at c1 ⊢
      rw [if_pos q, show g + (1 - 1) = g by omega]
      by_cases q2 : (k : Int) + 1 < V 0 0
      · rw [if_pos q2]
        simp (disch := omega) only [nx_of, if_pos, if_neg, if_true, if_false, true_or, or_true, Int.toNat_natCast, Option.bind_some, rm_0, rm_1, rm_2, rm_3, rm_4, rm_5, rm_6, rm_7, rm_8, rm_9, rm_10, rm_11, rm_12, rm_13, rm_14, rm_15, rm_16, rm_17, rm_18, rm_19, rm_20, rm_21, rm_22, rm_23, rm_24, rm_25, rm_26, rm_27, rm_28, rm_29, um_0, um_1, um_2, um_3, um_4, um_5, um_6, um_7, um_8, um_9, um_10, um_11, um_12, um_13, um_14, um_15, um_16, um_17, um_18, um_19, um_20, um_21, um_22, um_23, um_24, um_25, um_26, um_27, um_28, um_29, rm_k, um_k, vu_at, vu_ne, hk, c1, c2, e1]
        rfl
      · rw [if_neg q2]
        simp (disch := omega) only [nx_of, if_pos, if_neg, if_true, if_false, true_or, or_true, Int.toNat_natCast, Option.bind_some, rm_0, rm_1, rm_2, rm_3, rm_4, rm_5, rm_6, rm_7, rm_8, rm_9, rm_10, rm_11, rm_12, rm_13, rm_14, rm_15, rm_16, rm_17, rm_18, rm_19, rm_20, rm_21, rm_22, rm_23, rm_24, rm_25, rm_26, rm_27, rm_28, rm_29, um_0, um_1, um_2, um_3, um_4, um_5, um_6, um_7, um_8, um_9, um_10, um_11, um_12, um_13, um_14, um_15, um_16, um_17, um_18, um_19, um_20, um_21, um_22, um_23, um_24, um_25, um_26, um_27, um_28, um_29, rm_k, um_k, vu_at, vu_ne, hk, c1, c2, e1]
        rfl
    · rw [if_neg q] at c1 ⊢
      rw [if_neg q, show g + (1 - 0) = g + 1 by omega]
      by_cases q2 : (k : Int) + 1 < V 0 0
      · rw [if_pos q2]
        simp (disch := omega) only [nx_of, if_pos, if_neg, if_true, if_false, true_or, or_true, Int.toNat_natCast, Option.bind_some, rm_0, rm_1, rm_2, rm_3, rm_4, rm_5, rm_6, rm_7, rm_8, rm_9, rm_10, rm_11, rm_12, rm_13, rm_14, rm_15, rm_16, rm_17, rm_18, rm_19, rm_20, rm_21, rm_22, rm_23, rm_24, rm_25, rm_26, rm_27, rm_28, rm_29, um_0, um_1, um_2, um_3, um_4, um_5, um_6, um_7, um_8, um_9, um_10, um_11, um_12, um_13, um_14, um_15, um_16, um_17, um_18, um_19, um_20, um_21, um_22, um_23, um_24, um_25, um_26, um_27, um_28, um_29, rm_k, um_k, vu_at, vu_ne, hk, c1, c3, e1]
        rfl
      · rw [if_neg q2]
        simp (disch := omega) only [nx_of, if_pos, if_neg, if_true, if_false, true_or, or_true, Int.toNat_natCast, Option.bind_some, rm_0, rm_1, rm_2, rm_3, rm_4, rm_5, rm_6, rm_7, rm_8, rm_9, rm_10, rm_11, rm_12, rm_13, rm_14, rm_15, rm_16, rm_17, rm_18, rm_19, rm_20, rm_21, rm_22, rm_23, rm_24, rm_25, rm_26, rm_27, rm_28, rm_29, um_0, um_1, um_2, um_3, um_4, um_5, um_6, um_7, um_8, um_9, um_10, um_11, um_12, um_13, um_14, um_15, um_16, um_17, um_18, um_19, um_20, um_21, um_22, um_23, um_24, um_25, um_26, um_27, um_28, um_29, rm_k, um_k, vu_at, vu_ne, hk, c1, c3, e1]
        rfl
theorem vPass_1 (V : nl_O) : vPass 1 V = vu (vu (vRow (vN V) 0 V).1 1 0 ((vRow (vN V) 0 V).1 1 0 + 1)) 2 0 ((vRow (vN V) 0 V).1 2 0 + (vRow (vN V) 0 V).2) := by
  unfold vPass
  simp only [vNights, vNight]
  rw [Int.add_zero]
  rw [vu_k (show 2 ≠ 1 by omega)]
theorem vNights_1' (V : nl_O) : (vNights 1 V).2 = (vRow (vN V) 0 V).2 := by
  simp only [vNights, vNight]
  rw [Int.add_zero]
theorem sq_passes {LS : Int} {n : Nat} (hn : 5 ≤ n) {h : nl_H} {V : nl_O} {N : Int} (hN : N ≤ 90000) (hV : vok N V) : nl_c LS n m_X6_passes [vO 6 0] (sm h V) = some ((vNights 1 V).2, sm h (vPass 1 V)) := by
  obtain ⟨n, rfl, hn1⟩ := nl_suc hn
  have e := vN_eq hV
  have h0 := hV.1
  have k9 := lp_passes (LS := LS) hn1 (h := h) (vN V) 0 (V := V) (g := 0) none (by omega) hV (by omega) (by omega) (by omega)
  rw [show 0 + (vRow (vN V) 0 V).2 = (vRow (vN V) 0 V).2 by omega, ← vPass_1, ← vNights_1'] at k9
  refine cl_X6_passes (.go ?_ k9)
  rw [sg_X6_passes_0]
  rfl
theorem vu_vu {V : nl_O} {k i : Nat} {x y : Int} : vu (vu V k i x) k i y = vu V k i y := by
  funext k' i'
  unfold vu
  split <;> rfl
theorem vu_self {V : nl_O} {k i : Nat} : vu V k i (V k i) = V := by
  funext k' i'
  unfold vu
  split
  · rename_i q; rw [q.1, q.2]
  · rfl
theorem vu_sw {V : nl_O} {k i k2 i2 : Nat} {x y : Int} (q : k ≠ k2) : vu (vu V k i x) k2 i2 y = vu (vu V k2 i2 y) k i x := by
  funext k' i'
  unfold vu
  by_cases a : k' = k ∧ i' = i
  · rw [if_pos a, if_neg (by omega), if_pos a]
  · rw [if_neg a, if_neg a]
theorem vMst_2 (W : nl_O) (x : Int) (i : Nat) : ∀ k, vMst (vu W 2 0 x) i k = vMst W i k := by
  intro k
  induction k with
  | zero => rfl
  | succ k ih => simp only [vMst]; rw [ih, vu_k (by omega)]
theorem vN_2 (W : nl_O) (x : Int) : vN (vu W 2 0 x) = vN W := by unfold vN; rw [vu_k (by omega)]
theorem vHv_2 (W : nl_O) (x : Int) (i k : Nat) : vHv (vu W 2 0 x) i k = vHv W i k := by
  unfold vHv
  rw [vMst_2, vN_2, vu_k (show 4 ≠ 2 by omega), vu_k (show 3 ≠ 2 by omega), vu_k (show 0 ≠ 2 by omega)]
theorem vSee_2 (W : nl_O) (x : Int) (i : Nat) : vSee (vu W 2 0 x) i = vu (vSee W i) 2 0 x := by
  unfold vSee
  rw [vHv_2]
  simp only [vu_k (show 0 ≠ 2 by omega), vu_k (show 5 ≠ 2 by omega), vu_k (show 7 ≠ 2 by omega), vu_k (show 8 ≠ 2 by omega), vu_k (show 9 ≠ 2 by omega), vu_k (show 10 ≠ 2 by omega)]
  by_cases q : vHv W i (W 8 i).toNat ≤ W 5 i - W 7 i
  · rw [if_pos q, if_pos q, vu_sw (show 2 ≠ 7 by omega), vu_sw (show 2 ≠ 10 by omega), vu_sw (show 2 ≠ 8 by omega)]
  · rw [if_neg q, if_neg q, vu_sw (show 2 ≠ 7 by omega), vu_sw (show 2 ≠ 9 by omega), vu_sw (show 2 ≠ 10 by omega), vu_sw (show 2 ≠ 8 by omega)]
theorem vKeeps_2 (W : nl_O) (x : Int) (i : Nat) : vKeeps (vu W 2 0 x) i = vKeeps W i := by
  unfold vKeeps
  rw [vHv_2, vu_k (show 5 ≠ 2 by omega), vu_k (show 7 ≠ 2 by omega), vu_k (show 8 ≠ 2 by omega)]
theorem vRow_2 (x : Int) : ∀ (d i : Nat) (W : nl_O), vRow d i (vu W 2 0 x) = (vu (vRow d i W).1 2 0 x, (vRow d i W).2) := by
  intro d
  induction d with
  | zero => intro i W; rfl
  | succ d ih => intro i W; simp only [vRow]; rw [vKeeps_2, vSee_2, ih]
theorem vNights_2 (x : Int) : ∀ (d : Nat) (W : nl_O), vNights d (vu W 2 0 x) = (vu (vNights d W).1 2 0 x, (vNights d W).2) := by
  intro d
  induction d with
  | zero => intro W; rfl
  | succ d ih =>
    intro W
    simp only [vNights, vNight]
    rw [vN_2, vRow_2]
    dsimp only
    rw [vu_k (show 1 ≠ 2 by omega), vu_sw (show 2 ≠ 1 by omega), ih]
theorem vPass_s (d : Nat) (V : nl_O) : vPass d (vPass 1 V) = vPass (d + 1) V ∧ (vNights d (vPass 1 V)).2 = (vNights d (vNight V).1).2 := by
  have e1 : vPass 1 V = vu (vNight V).1 2 0 ((vNight V).1 2 0 + (vNight V).2) := by
    unfold vPass
    simp only [vNights]
    rw [Int.add_zero]
  have e2 := vNights_2 ((vNight V).1 2 0 + (vNight V).2) d (vNight V).1
  rw [← e1] at e2
  refine ⟨?_, by rw [e2]⟩
  unfold vPass at e2 ⊢
  rw [e2]
  dsimp only
  rw [vu_vu, vu_at]
  simp only [vNights]
  rw [vNights_lo (show 2 < 7 by omega) (show 2 ≠ 1 by omega), Int.add_assoc]
theorem vPass_0 (V : nl_O) : vPass 0 V = V := by
  unfold vPass
  simp only [vNights]
  rw [Int.add_zero, vu_self]
theorem lp_goesOn {LS : Int} {n : Nat} (hn : 5 ≤ n) {h : nl_H} : ∀ (d j : Nat) {N : Int} {V : nl_O} {g : Int}, N + 7 * d ≤ 90000 → j + d ≤ 100 → vok N V → 0 ≤ g → g + 7 * d ≤ 9000 →
    nl_Rn LS cd_X6_goesOn (nl_c LS n) ct_X6_goesOn 1 4 [some (vO 6 0), some (vI ((j + d : Nat) : Int)), some (vI g), some (vI (j : Int))] (sm h V) (g + (vNights d V).2, sm h (vPass d V)) := by
  intro d
  induction d with
  | zero =>
    intro j N V g hN hj hV hg1 hg2
    refine .ret ?_
    rw [sg_X6_goesOn_4, vPass_0]
    simp only [vNights]
    simp (disch := omega) only [nx_of, if_pos, if_neg, if_true, if_false, true_or, or_true, Int.toNat_natCast, Option.bind_some]
    rw [show g + 0 = g by omega]
  | succ d ih =>
    intro j N V g hN hj hV hg1 hg2
    have a := vPass_ok (d := 1) hV
    have b := vNights_ok 1 hV
    have c1 := sq_passes (LS := LS) hn (h := h) (V := V) (N := N) (by omega) hV
    have k9 := ih (j + 1) (N := N + 7) (V := vPass 1 V) (g := g + (vNights 1 V).2) (by omega) (by omega) (vok_up a.1 (by omega)) (by omega) (by omega)
    have e := vPass_s d V
    have e1 : (vNights 1 V).2 = (vNight V).2 := by simp only [vNights]; rw [Int.add_zero]
    rw [e.1, e.2, show j + 1 + d = j + (d + 1) by omega, Int.add_assoc, e1] at k9
    rw [e1] at c1
    refine .go ?_ k9
    rw [sg_X6_goesOn_4]
    simp (disch := omega) only [nx_of, if_pos, if_neg, if_true, if_false, true_or, or_true, Int.toNat_natCast, Option.bind_some, c1]
    rfl
theorem sq_goesOn {LS : Int} {n : Nat} (hn : 6 ≤ n) {h : nl_H} {V : nl_O} {d : Nat} {N : Int} (hd : d ≤ 100) (hN : N ≤ 80000) (hV : vok N V) : nl_c LS n m_X6_goesOn [vO 6 0, vI (d : Int)] (sm h V) = some ((vNights d V).2, sm h (vPass d V)) := by
  obtain ⟨n, rfl, hn1⟩ := nl_suc hn
  have k9 := lp_goesOn (LS := LS) hn1 (h := h) d 0 (V := V) (g := 0) (by omega) (by omega) hV (by omega) (by omega)
  rw [show 0 + d = d by omega, show 0 + (vNights d V).2 = (vNights d V).2 by omega] at k9
  refine cl_X6_goesOn (.go ?_ k9)
  rw [sg_X6_goesOn_0]
  rfl
theorem vSee_hi {k i : Nat} (hk : 10 < k) (W : nl_O) (a : Nat) : vSee W a k i = W k i := by
  unfold vSee
  rw [vu_k (by omega), vu_k (by omega)]
  split
  · rw [vu_k (by omega)]
  · rw [vu_k (by omega), vu_k (by omega)]
theorem vRow_hi {k i : Nat} (hk : 10 < k) : ∀ (e a : Nat) (W : nl_O), (vRow e a W).1 k i = W k i := by
  intro e
  induction e with
  | zero => intro a W; rfl
  | succ e ih => intro a W; simp only [vRow]; rw [ih, vSee_hi hk]
theorem vNights_hi {k i : Nat} (hk : 10 < k) : ∀ (e : Nat) (W : nl_O), (vNights e W).1 k i = W k i := by
  intro e
  induction e with
  | zero => intro W; rfl
  | succ e ih => intro W; simp only [vNights, vNight]; rw [ih, vu_k (by omega), vRow_hi hk]
theorem vPass_hi {k i : Nat} (hk : 10 < k) (d : Nat) (V : nl_O) : vPass d V k i = V k i := by
  unfold vPass
  rw [vu_k (by omega), vNights_hi hk]
theorem vPass_lo {k i d : Nat} {V : nl_O} (hk : k < 7) (h1 : k ≠ 1) (h2 : k ≠ 2) : vPass d V k i = V k i := by
  unfold vPass
  rw [vu_k h2, vNights_lo hk h1]
