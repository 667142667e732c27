/-! Sightings; the nights that one house goes through. -/
def sok (m : Int) (S : nl_O) : Prop := (0 ≤ S 3 0 ∧ S 3 0 ≤ 6) ∧ ∀ i : Nat, (i : Int) < S 3 0 → (0 ≤ S 0 i ∧ S 0 i ≤ 20) ∧ (0 ≤ S 1 i ∧ S 1 i < m) ∧ (S 2 i = 0 ∨ S 2 i = 1)
theorem sp_seClear {LS : Int} {n : Nat} (hn : 1 ≤ n) {h : nl_H} : nl_c LS n m_X3_clear [vO 3 0] h = some (0, so h 3 0 (vu (h 3 0) 3 0 0)) := by
  obtain ⟨n, rfl, hn1⟩ := nl_suc hn
  refine cl_X3_clear (.ret ?_)
  rw [sg_X3_clear_0, up_so]
def vAdd (S : nl_O) (x y z : Int) : nl_O := vu (vu (vu (vu S 0 (S 3 0).toNat x) 1 (S 3 0).toNat y) 2 (S 3 0).toNat z) 3 0 (S 3 0 + 1)
theorem sp_seAdd {LS : Int} {n : Nat} (hn : 1 ≤ n) {h : nl_H} {x y z : Int} (hf : 0 ≤ h 3 0 3 0 ∧ h 3 0 3 0 < 6) (hz : z = 0 ∨ z = 1) : nl_c LS n m_X3_add [vO 3 0, vI x, vI y, vI z] h = some (0, so h 3 0 (vAdd (h 3 0) x y z)) := by
  obtain ⟨n, rfl, hn1⟩ := nl_suc hn
  obtain ⟨f, hf2⟩ : ∃ f : Nat, h 3 0 3 0 = f := ⟨(h 3 0 3 0).toNat, by omega⟩
  refine cl_X3_add (.ret ?_)
  rw [sg_X3_add_0]
  unfold vAdd
  simp (disch := omega) only [nx_of, if_pos, if_neg, if_true, if_false, true_or, or_true, Int.toNat_natCast, Option.bind_some, up_so, so_at, so_so, vu_k, hf2, hz, and_true]
def vLast (S : nl_O) : Nat → Int
  | 0 => -1
  | i + 1 => if vLast S i < S 0 i then S 0 i else vLast S i
theorem vLast_in {m : Int} {S : nl_O} (hS : sok m S) : ∀ i : Nat, (i : Int) ≤ S 3 0 → -1 ≤ vLast S i ∧ vLast S i ≤ 20 := by
  intro i
  induction i with
  | zero => intro _; simp only [vLast]; omega
  | succ i ih =>
    intro hi
    have h1 := ih (by omega)
    have h2 := (hS.2 i (by omega)).1
    simp only [vLast]
    split <;> omega
theorem lp_last {LS : Int} {den : nl_D} {h : nl_H} {m : Int} (hS : sok m (h 3 0)) : ∀ (d i : Nat), (i : Int) + d = h 3 0 3 0 →
    nl_Rn LS cd_X3_lastNight den ct_X3_lastNight 1 4 [some (vO 3 0), some (vI (vLast (h 3 0) i)), some (vI (i : Int))] h (vLast (h 3 0) (i + d), h) := by
  have h1 := hS.1
  intro d
  induction d with
  | zero =>
    intro i hi
    refine .ret ?_
    rw [sg_X3_lastNight_4]
    simp (disch := omega) only [nx_of, if_pos, if_neg, if_true, if_false, true_or, or_true, Int.toNat_natCast, Option.bind_some, Nat.add_zero]
  | succ d ih =>
    intro i hi
    have b := (hS.2 i (by omega)).1
    have c := vLast_in hS i (by omega)
    have k9 := ih (i + 1) (by omega)
    rw [show i + 1 + d = i + (d + 1) by omega] at k9
    refine .go ?_ k9
    rw [sg_X3_lastNight_4]
    simp only [vLast]
    simp (disch := omega) only [nx_of, if_pos, if_neg, if_true, if_false, true_or, or_true, Int.toNat_natCast, Option.bind_some]
    rfl
theorem sp_last {LS : Int} {n : Nat} (hn : 1 ≤ n) {h : nl_H} {m : Int} (hS : sok m (h 3 0)) : nl_c LS n m_X3_lastNight [vO 3 0] h = some (vLast (h 3 0) (h 3 0 3 0).toNat, h) := by
  obtain ⟨n, rfl, hn1⟩ := nl_suc hn
  have h1 := hS.1
  have k9 := lp_last (LS := LS) (den := nl_c LS n) hS (h 3 0 3 0).toNat 0 (by omega)
  rw [Nat.zero_add] at k9
  refine cl_X3_lastNight (.go ?_ k9)
  rw [sg_X3_lastNight_0]
  rfl
/-- does what is seen of a night hold in a valley, from the i-th on -/
def vFit (S V : nl_O) (x : Int) : Nat → Nat → Int
  | 0, _ => 1
  | d + 1, i => if S 0 i = x then (if vGap V (S 1 i).toNat = S 2 i then vFit S V x d (i + 1) else 0) else vFit S V x d (i + 1)
theorem vGap_in (V : nl_O) (k : Nat) : vGap V k = 0 ∨ vGap V k = 1 := by
  unfold vGap
  split
  · exact Or.inl rfl
  · split
    · exact Or.inl rfl
    · exact Or.inr rfl
theorem lp_fit {LS : Int} {n : Nat} (hn : 4 ≤ n) {h : nl_H} {v : Nat} {N x : Int} (hN : N ≤ 100000) (hV : vok N (h 4 v)) (hS : sok (h 4 v 0 0) (h 3 0)) (hx : 0 ≤ x ∧ x ≤ 100) : ∀ (d i : Nat), (i : Int) + d = h 3 0 3 0 →
    nl_Rn LS cd_X3_fit (nl_c LS n) ct_X3_fit 3 2 [some (vO 3 0), some (vO 4 v), some (vI x), some (vI (i : Int))] h (vFit (h 3 0) (h 4 v) x d i, h) := by
  have h1 := hS.1
  intro d
  induction d with
  | zero =>
    intro i hi
    refine .ret ?_
    rw [sg_X3_fit_2]
    simp (disch := omega) only [nx_of, if_pos, if_neg, if_true, if_false, true_or, or_true, Int.toNat_natCast, Option.bind_some, vFit]
  | succ d ih =>
    intro i hi
    have b := hS.2 i (by omega)
    obtain ⟨k, hk⟩ : ∃ k : Nat, h 3 0 1 i = k := ⟨(h 3 0 1 i).toNat, by omega⟩
    have hc := sp_isGapAt (LS := LS) hn (h := h) (o := v) (k := k) hN hV (by omega)
    have hg := vGap_in (h 4 v) k
    have k9 := ih (i + 1) (by omega)
    simp only [vFit, hk, Int.toNat_natCast]
    by_cases q1 : h 3 0 0 i = x
    · by_cases q2 : vGap (h 4 v) k = h 3 0 2 i
      · rw [if_pos q1, if_pos q2]
        refine .go ?_ k9
        rw [sg_X3_fit_2]
        simp (disch := omega) only [nx_of, if_pos, if_neg, if_true, if_false, true_or, or_true, Int.toNat_natCast, Option.bind_some, hk, hc]
        rfl
      · rw [if_pos q1, if_neg q2]
        refine .ret ?_
        rw [sg_X3_fit_2]
        simp (disch := omega) only [nx_of, if_pos, if_neg, if_true, if_false, true_or, or_true, Int.toNat_natCast, Option.bind_some, hk, hc]
    · rw [if_neg q1]
      refine .go ?_ k9
      rw [sg_X3_fit_2]
      simp (disch := omega) only [nx_of, if_pos, if_neg, if_true, if_false, true_or, or_true, Int.toNat_natCast, Option.bind_some]
      rfl
theorem sp_fit {LS : Int} {n : Nat} (hn : 5 ≤ n) {h : nl_H} {v : Nat} {N x : Int} (hN : N ≤ 100000) (hV : vok N (h 4 v)) (hS : sok (h 4 v 0 0) (h 3 0)) (hx : 0 ≤ x ∧ x ≤ 100) : nl_c LS n m_X3_fit [vO 3 0, vO 4 v, vI x] h = some (vFit (h 3 0) (h 4 v) x (h 3 0 3 0).toNat 0, h) := by
  obtain ⟨n, rfl, hn1⟩ := nl_suc hn
  have h1 := hS.1
  have k9 := lp_fit (LS := LS) hn1 hN hV hS hx (h 3 0 3 0).toNat 0 (by omega)
  refine cl_X3_fit (.go ?_ k9)
  rw [sg_X3_fit_0]
  rfl
/-- the first of m nights in which a house misses, counted from i on; -1 -/
def vMiss : Nat → Nat → nl_O → Nat → Int
  | 0, _, _, _ => -1
  | m + 1, t, V, i => if vKeeps V i = 0 then t else vMiss m (t + 1) (vSee V i) i
theorem lp_miss {LS : Int} {n : Nat} (hn : 4 ≤ n) {h : nl_H} {i x : Nat} (hx : x ≤ 100) : ∀ (m t : Nat) {N : Int} {V : nl_O}, N + m ≤ 100000 → vok N V → (i : Int) < V 0 0 → t + m = x + 1 → ∃ W,
    nl_Rn LS cd_X5_nextMissAhead (nl_c LS n) ct_X5_nextMissAhead 1 2 [some (vO 5 0), some (vI (i : Int)), some (vI (x : Int)), some (vI (t : Int))] (so h 4 1 V) (vMiss m t V i, so h 4 1 W) := by
  intro m
  induction m with
  | zero =>
    intro t N V hN hV hi ht
    refine ⟨V, .ret ?_⟩
    rw [sg_X5_nextMissAhead_2]
    simp (disch := omega) only [nx_of, if_pos, if_neg, if_true, if_false, true_or, or_true, Int.toNat_natCast, Option.bind_some, vMiss]
  | succ m ih =>
    intro t N V hN hV hi ht
    have hc := sp_seeThrough (LS := LS) hn (h := so h 4 1 V) (o := 1) (i := i) (N := N) (by omega) (by rw [so_at]; exact hV) (by rw [so_at]; exact hi)
    rw [so_at, so_so] at hc
    simp only [vMiss]
    rcases vKeeps_in V i with hk | hk
    · refine ⟨vSee V i, .ret ?_⟩
      rw [sg_X5_nextMissAhead_2]
      simp (disch := omega) only [nx_of, if_pos, if_neg, if_true, if_false, true_or, or_true, Int.toNat_natCast, Option.bind_some, hc, hk]
    · obtain ⟨W, k9⟩ := ih (t + 1) (N := N + 1) (V := vSee V i) (by omega) (vok_see hV hi) (by rw [see_lo (by omega)]; exact hi) (by omega)
      refine ⟨W, ?_⟩
      rw [if_neg (by omega)]
      refine .go ?_ k9
      rw [sg_X5_nextMissAhead_2]
      simp (disch := omega) only [nx_of, if_pos, if_neg, if_true, if_false, true_or, or_true, Int.toNat_natCast, Option.bind_some, hc, hk]
      rfl
theorem sp_nextMiss {LS : Int} {n : Nat} (hn : 5 ≤ n) {h : nl_H} {i x : Nat} {N : Int} (hx : x ≤ 100) (hN : N ≤ 90000) (hV : vok N (h 4 1)) (hi : (i : Int) < h 4 1 0 0) : ∃ W, nl_c LS n m_X5_nextMissAhead [vO 5 0, vI (i : Int), vI (x : Int)] h = some (vMiss x 1 (h 4 1) i, so h 4 1 W) := by
  obtain ⟨n, rfl, hn1⟩ := nl_suc hn
  obtain ⟨W, k9⟩ := lp_miss (LS := LS) hn1 (h := h) (i := i) hx x 1 (N := N) (V := h 4 1) (by omega) hV hi (by omega)
  rw [so_self] at k9
  refine ⟨W, cl_X5_nextMissAhead (.go ?_ k9)⟩
  rw [sg_X5_nextMissAhead_0]
  rfl
