/-! Nights. -/
theorem see_lo {V : nl_O} {i k j : Nat} (hk : k < 7) : vSee V i k j = V k j := by
  unfold vSee
  rw [vu_k (by omega), vu_k (by omega)]
  split
  · rw [vu_k (by omega)]
  · rw [vu_k (by omega), vu_k (by omega)]
theorem see_7 {V : nl_O} {i j : Nat} : vSee V i 7 j = if j = i then (if vHv V i (V 8 i).toNat ≤ V 5 i - V 7 i then (if 40 < V 7 i + 2 then 40 else V 7 i + 2) else (if V 7 i - 3 < 0 then 0 else V 7 i - 3)) else V 7 j := by
  unfold vSee
  rw [vu_k (by omega), vu_k (by omega)]
  by_cases hj : j = i
  · subst hj
    rw [if_pos rfl]
    split
    · rw [vu_at]
    · rw [vu_k (by omega), vu_at]
  · rw [if_neg hj]
    split
    · rw [vu_ne (fun z => hj z.2)]
    · rw [vu_k (by omega), vu_ne (fun z => hj z.2)]
theorem see_8 {V : nl_O} {i j : Nat} : vSee V i 8 j = if j = i then (if V 8 i + 1 < V 0 0 then V 8 i + 1 else 0) else V 8 j := by
  unfold vSee
  by_cases hj : j = i
  · subst hj
    rw [if_pos rfl, vu_at]
  · rw [if_neg hj, vu_ne (fun z => hj z.2), vu_k (by omega)]
    split
    · rw [vu_k (by omega)]
    · rw [vu_k (by omega), vu_k (by omega)]
theorem see_9 {V : nl_O} {i j : Nat} : vSee V i 9 j = if j = i ∧ ¬ vHv V i (V 8 i).toNat ≤ V 5 i - V 7 i then V 9 i + 1 else V 9 j := by
  unfold vSee
  rw [vu_k (by omega), vu_k (by omega)]
  by_cases hk : vHv V i (V 8 i).toNat ≤ V 5 i - V 7 i
  · rw [if_pos hk, vu_k (by omega), if_neg (fun z => z.2 hk)]
  · rw [if_neg hk]
    by_cases hj : j = i
    · subst hj
      rw [vu_at, if_pos ⟨rfl, hk⟩]
    · rw [vu_ne (fun z => hj z.2), vu_k (by omega), if_neg (fun z => hj z.1)]
theorem see_10 {V : nl_O} {i j : Nat} : vSee V i 10 j = if j = i * 7 + (V 8 i).toNat then V 10 j + 1 else V 10 j := by
  unfold vSee
  rw [vu_k (by omega)]
  by_cases hj : j = i * 7 + (V 8 i).toNat
  · subst hj
    rw [if_pos rfl, vu_at]
  · rw [if_neg hj, vu_ne (fun z => hj z.2)]
    split
    · rw [vu_k (by omega)]
    · rw [vu_k (by omega), vu_k (by omega)]
theorem vok_see {N : Int} {V : nl_O} (hV : vok N V) {i : Nat} (hi : (i : Int) < V 0 0) : vok (N + 1) (vSee V i) := by
  obtain ⟨a1, a2, a3, a4, a5⟩ := hV
  unfold vok
  simp only [see_lo (show 0 < 7 by omega), see_lo (show 1 < 7 by omega), see_lo (show 2 < 7 by omega), see_lo (show 3 < 7 by omega), see_lo (show 4 < 7 by omega), see_lo (show 5 < 7 by omega), see_lo (show 6 < 7 by omega), see_7, see_8, see_9, see_10]
  have b := a4 i hi
  refine ⟨a1, by omega, by omega, fun j hj => ?_, fun j k hj hk => ?_⟩
  · have c := a4 j hj
    refine ⟨c.1, c.2.1, c.2.2.1, c.2.2.2.1, ?_, ?_, ?_⟩
    · split
      · split <;> split <;> omega
      · exact c.2.2.2.2.1
    · split
      · split <;> omega
      · exact c.2.2.2.2.2.1
    · split
      · omega
      · omega
  · have c := a5 j k hj hk
    split <;> omega
/-- houses i, i + 1, .. see their hours through: the valley then, the gaps -/
def vRow : Nat → Nat → nl_O → nl_O × Int
  | 0, _, V => (V, 0)
  | d + 1, i, V => ((vRow d (i + 1) (vSee V i)).1, (1 - vKeeps V i) + (vRow d (i + 1) (vSee V i)).2)
def vNight (V : nl_O) : nl_O × Int := (vu (vRow (vN V) 0 V).1 1 0 ((vRow (vN V) 0 V).1 1 0 + 1), (vRow (vN V) 0 V).2)
def vNights : Nat → nl_O → nl_O × Int
  | 0, V => (V, 0)
  | m + 1, V => ((vNights m (vNight V).1).1, (vNight V).2 + (vNights m (vNight V).1).2)
theorem vKeeps_in (V : nl_O) (i : Nat) : vKeeps V i = 0 ∨ vKeeps V i = 1 := by
  unfold vKeeps
  split
  · exact Or.inr rfl
  · exact Or.inl rfl
theorem vRow_ok : ∀ (d i : Nat) {N : Int} {V : nl_O}, vok N V → (i : Int) + d = V 0 0 → vok (N + d) (vRow d i V).1 ∧ (vRow d i V).1 0 0 = V 0 0 ∧ 0 ≤ (vRow d i V).2 ∧ (vRow d i V).2 ≤ d := by
  intro d
  induction d with
  | zero =>
    intro i N V hV hi
    simp only [vRow]
    refine ⟨?_, trivial, by omega, by omega⟩
    rw [show N + ((0 : Nat) : Int) = N by omega]
    exact hV
  | succ d ih =>
    intro i N V hV hi
    have h1 := vok_see hV (i := i) (by omega)
    have h2 := ih (i + 1) h1 (by rw [see_lo (by omega)]; omega)
    have h3 := vKeeps_in V i
    rw [see_lo (by omega)] at h2
    simp only [vRow]
    refine ⟨?_, h2.2.1, by omega, by omega⟩
    rw [show N + ((d + 1 : Nat) : Int) = N + 1 + d by omega]
    exact h2.1
theorem vRow_lo {k j : Nat} (hk : k < 7) : ∀ (d i : Nat) (V : nl_O), (vRow d i V).1 k j = V k j := by
  intro d
  induction d with
  | zero => intro i V; rfl
  | succ d ih =>
    intro i V
    simp only [vRow]
    rw [ih, see_lo hk]
theorem vok_u1 {N : Int} {V : nl_O} (hV : vok N V) {x : Int} (hx : 0 ≤ x ∧ x ≤ N) : vok N (vu V 1 0 x) := by
  obtain ⟨a1, a2, a3, a4, a5⟩ := hV
  unfold vok
  rw [vu_at]
  simp only [vu_k (show 0 ≠ 1 by omega), vu_k (show 2 ≠ 1 by omega), vu_k (show 3 ≠ 1 by omega), vu_k (show 4 ≠ 1 by omega), vu_k (show 5 ≠ 1 by omega), vu_k (show 6 ≠ 1 by omega), vu_k (show 7 ≠ 1 by omega), vu_k (show 8 ≠ 1 by omega), vu_k (show 9 ≠ 1 by omega), vu_k (show 10 ≠ 1 by omega)]
  exact ⟨a1, hx, a3, a4, a5⟩
theorem vok_u2 {N : Int} {V : nl_O} (hV : vok N V) {x : Int} (hx : 0 ≤ x ∧ x ≤ 7 * N) : vok N (vu V 2 0 x) := by
  obtain ⟨a1, a2, a3, a4, a5⟩ := hV
  unfold vok
  rw [vu_at]
  simp only [vu_k (show 0 ≠ 2 by omega), vu_k (show 1 ≠ 2 by omega), vu_k (show 3 ≠ 2 by omega), vu_k (show 4 ≠ 2 by omega), vu_k (show 5 ≠ 2 by omega), vu_k (show 6 ≠ 2 by omega), vu_k (show 7 ≠ 2 by omega), vu_k (show 8 ≠ 2 by omega), vu_k (show 9 ≠ 2 by omega), vu_k (show 10 ≠ 2 by omega)]
  exact ⟨a1, a2, hx, a4, a5⟩
theorem vok_up {N M : Int} {V : nl_O} (hV : vok N V) (h : N ≤ M) : vok M V := by
  obtain ⟨a1, a2, a3, a4, a5⟩ := hV
  refine ⟨a1, by omega, by omega, fun i hi => ?_, fun i k hi hk => ?_⟩
  · have := a4 i hi; omega
  · have := a5 i k hi hk; omega
theorem vN_eq {N : Int} {V : nl_O} (hV : vok N V) : (vN V : Int) = V 0 0 := by
  have := hV.1
  unfold vN
  omega
theorem vNight_ok {N : Int} {V : nl_O} (hV : vok N V) : vok (N + 7) (vNight V).1 ∧ (vNight V).1 0 0 = V 0 0 ∧ 0 ≤ (vNight V).2 ∧ (vNight V).2 ≤ 7 := by
  have h0 := hV.1
  have h1 := vRow_ok (vN V) 0 hV (by rw [vN_eq hV]; omega)
  have h2 := vN_eq hV
  have h3 : vok (N + 7) (vRow (vN V) 0 V).1 := vok_up h1.1 (by omega)
  have h4 := vRow_lo (k := 1) (j := 0) (by omega) (vN V) 0 V
  have h5 := hV.2.1
  unfold vNight
  refine ⟨vok_u1 h3 (by omega), ?_, by dsimp only; omega, by dsimp only; omega⟩
  dsimp only
  rw [vu_k (by omega)]
  exact h1.2.1
theorem vNights_ok : ∀ (m : Nat) {N : Int} {V : nl_O}, vok N V → vok (N + 7 * m) (vNights m V).1 ∧ (vNights m V).1 0 0 = V 0 0 ∧ 0 ≤ (vNights m V).2 ∧ (vNights m V).2 ≤ 7 * m := by
  intro m
  induction m with
  | zero =>
    intro N V hV
    simp only [vNights]
    refine ⟨?_, trivial, by omega, by omega⟩
    rw [show N + 7 * ((0 : Nat) : Int) = N by omega]
    exact hV
  | succ m ih =>
    intro N V hV
    have h1 := vNight_ok hV
    have h2 := ih h1.1
    simp only [vNights]
    refine ⟨?_, by rw [h2.2.1]; exact h1.2.1, by omega, by omega⟩
    rw [show N + 7 * ((m + 1 : Nat) : Int) = N + 7 + 7 * m by omega]
    exact h2.1

/-- a night's row, from house j on, in the code -/
theorem lp_row {LS : Int} {n : Nat} (hn : 4 ≤ n) {o : Nat} {h : nl_H} {x1 : Int} {r : Int × nl_H} : ∀ (d j : Nat) {N : Int} {V : nl_O} {g m : Int}, N + d ≤ 100000 → vok N V → (j : Int) + d = V 0 0 → 0 ≤ g → g + d ≤ 10000 →
    nl_Rn LS cd_X4_letNightsPass (nl_c LS n) ct_X4_letNightsPass 1 4 [some (vO 4 o), some (vI x1), some (vI (g + (vRow d j V).2)), some (vI (m + 1)), some (vI (j + d : Nat))] (so h 4 o (vu (vRow d j V).1 1 0 ((vRow d j V).1 1 0 + 1))) r →
    nl_Rn LS cd_X4_letNightsPass (nl_c LS n) ct_X4_letNightsPass 1 12 [some (vO 4 o), some (vI x1), some (vI g), some (vI m), some (vI (j : Int))] (so h 4 o V) r := by
  intro d
  induction d with
  | zero =>
    intro j N V g m hN hV hj hg1 hg2 k
    have hn9 := hV.1
    simp only [vRow] at k
    refine .go ?_ k
    rw [sg_X4_letNightsPass_12]
    simp (disch := omega) only [nx_of, if_pos, if_neg, if_true, if_false, true_or, or_true, Int.toNat_natCast, Option.bind_some, so_at, up_so, so_so]
    rw [show g + 0 = g by omega]
    rfl
  | succ d ih =>
    intro j N V g m hN hV hj hg1 hg2 k
    have hn9 := hV.1
    have hc := sp_seeThrough (LS := LS) hn (h := so h 4 o V) (o := o) (i := j) (N := N) (by omega) (by rw [so_at]; exact hV) (by rw [so_at]; omega)
    rw [so_at, so_so] at hc
    have hk := vKeeps_in V j
    simp only [vRow] at k
    rw [show g + (1 - vKeeps V j + (vRow d (j + 1) (vSee V j)).2) = (g + (1 - vKeeps V j)) + (vRow d (j + 1) (vSee V j)).2 by omega, show j + (d + 1) = j + 1 + d by omega] at k
    have k9 := ih (j + 1) (N := N + 1) (V := vSee V j) (g := g + (1 - vKeeps V j)) (m := m) (by omega) (vok_see hV (by omega)) (by rw [see_lo (by omega)]; omega) (by omega) (by omega) k
    refine .go ?_ k9
    rw [sg_X4_letNightsPass_12]
    rcases hk with hk | hk
    · simp (disch := omega) only [nx_of, if_pos, if_neg, if_true, if_false, true_or, or_true, Int.toNat_natCast, Option.bind_some, so_at, hc, hk]
      rfl
    · simp (disch := omega) only [nx_of, if_pos, if_neg, if_true, if_false, true_or, or_true, Int.toNat_natCast, Option.bind_some, so_at, hc, hk]
      rfl

theorem lp_nights {LS : Int} {n : Nat} (hn : 4 ≤ n) {o : Nat} {h : nl_H} : ∀ (d m : Nat) {N : Int} {V : nl_O} {g : Int} (w : Option nl_V), N + 7 * d ≤ 90000 → m + d ≤ 100 → vok N V → 0 ≤ g → g + 7 * d ≤ 9000 →
    nl_Rn LS cd_X4_letNightsPass (nl_c LS n) ct_X4_letNightsPass 1 4 [some (vO 4 o), some (vI ((m + d : Nat) : Int)), some (vI g), some (vI (m : Int)), w] (so h 4 o V) (g + (vNights d V).2, so h 4 o (vu (vNights d V).1 2 0 ((vNights d V).1 2 0 + (g + (vNights d V).2)))) := by
  intro d
  induction d with
  | zero =>
    intro m N V g w hN hm hV hg1 hg2
    refine .ret ?_
    rw [sg_X4_letNightsPass_4]
    simp only [vNights]
    simp (disch := omega) only [nx_of, if_pos, if_neg, if_true, if_false, true_or, or_true, Int.toNat_natCast, Option.bind_some, so_at, up_so, so_so]
    rw [show g + 0 = g by omega]
  | succ d ih =>
    intro m N V g w hN hm hV hg1 hg2
    have hn9 := hV.1
    have h1 := vNight_ok hV
    have h2 := vN_eq hV
    have k9 := ih (m + 1) (N := N + 7) (V := (vNight V).1) (g := g + (vNight V).2) (some (vI ((0 + vN V : Nat) : Int))) (by omega) (by omega) h1.1 (by omega) (by omega)
    have e1 : g + (vNight V).2 + (vNights d (vNight V).1).2 = g + (vNights (d + 1) V).2 := by simp only [vNights]; omega
    have e2 : (vNights d (vNight V).1).1 = (vNights (d + 1) V).1 := rfl
    rw [e1, e2, show m + 1 + d = m + (d + 1) by omega] at k9
    have k8 := lp_row (LS := LS) hn (o := o) (h := h) (x1 := ((m + (d + 1) : Nat) : Int)) (vN V) 0 (N := N) (V := V) (g := g) (m := (m : Int)) (by omega) hV (by omega) hg1 (by omega) k9
    refine .go ?_ k8
    rw [sg_X4_letNightsPass_4]
    simp (disch := omega) only [nx_of, if_pos, if_neg, if_true, if_false, true_or, or_true, Int.toNat_natCast, Option.bind_some]
    rfl
/-- d nights, the gaps added to those so far -/
def vPass (d : Nat) (V : nl_O) : nl_O := vu (vNights d V).1 2 0 ((vNights d V).1 2 0 + (vNights d V).2)
theorem sp_letNightsPass {LS : Int} {n : Nat} (hn : 5 ≤ n) {h : nl_H} {o d : Nat} {N : Int} (hd : d ≤ 100) (hN : N ≤ 80000) (hV : vok N (h 4 o)) : nl_c LS n m_X4_letNightsPass [vO 4 o, vI (d : Int)] h = some ((vNights d (h 4 o)).2, so h 4 o (vPass d (h 4 o))) := by
  obtain ⟨n, rfl, hn1⟩ := nl_suc hn
  have k9 := lp_nights (LS := LS) hn1 (o := o) (h := h) d 0 (N := N) (V := h 4 o) (g := 0) none (by omega) (by omega) hV (by omega) (by omega)
  rw [so_self, show 0 + d = d by omega, show 0 + (vNights d (h 4 o)).2 = (vNights d (h 4 o)).2 by omega] at k9
  refine cl_X4_letNightsPass (.go ?_ k9)
  rw [sg_X4_letNightsPass_0]
  rfl
theorem vNights_lo {k j : Nat} (hk : k < 7) (hk1 : k ≠ 1) : ∀ (m : Nat) (V : nl_O), (vNights m V).1 k j = V k j := by
  intro m
  induction m with
  | zero => intro V; rfl
  | succ m ih =>
    intro V
    simp only [vNights, vNight]
    rw [ih, vu_k hk1, vRow_lo hk]
theorem vNights_1 : ∀ (m : Nat) (V : nl_O), (vNights m V).1 1 0 = V 1 0 + m := by
  intro m
  induction m with
  | zero => intro V; simp only [vNights]; omega
  | succ m ih =>
    intro V
    simp only [vNights, vNight]
    rw [ih, vu_at, vRow_lo (by omega)]
    omega
theorem vPass_ok {d : Nat} {N : Int} {V : nl_O} (hV : vok N V) : vok (N + 7 * d) (vPass d V) ∧ vPass d V 0 0 = V 0 0 := by
  have h1 := vNights_ok d hV
  have h2 := vNights_lo (k := 2) (j := 0) (by omega) (by omega) d V
  have h3 := hV.2.2.1
  unfold vPass
  refine ⟨vok_u2 h1.1 (by omega), ?_⟩
  rw [vu_k (by omega)]
  exact h1.2.1
