/-! What is called from without: what is worked out ahead. -/
theorem vMiss_in : ∀ (m t : Nat) (V : nl_O) (i : Nat), vMiss m t V i = -1 ∨ ((t : Int) ≤ vMiss m t V i ∧ vMiss m t V i < t + m) := by
  intro m
  induction m with
  | zero => intro t V i; exact .inl rfl
  | succ m ih =>
    intro t V i
    have k9 := ih (t + 1) (vSee V i) i
    simp only [vMiss]
    split
    · exact .inr ⟨by omega, by omega⟩
    · omega
theorem pu_first {LS : Int} {n : Nat} (hn : 6 ≤ n) {h : nl_H} {x N : Int} (hx : nl_inR x) (hN : N ≤ 90000) (hV : vok N (h 4 0)) : ∃ W, nl_c LS n m_X5_first [vO 5 0, vI x] h = some (if 0 ≤ x ∧ x < h 4 0 0 0 then (if vMiss 40 1 (h 4 0) x.toNat = -1 then -4 else vMiss 40 1 (h 4 0) x.toNat) else -1, so h 4 1 W) := by
  obtain ⟨n, rfl, hn1⟩ := nl_suc hn
  have hn9 := hV.1
  have c1 := sp_isHouse (LS := LS) (n := n) (by omega) (h := h) (o := 0) hx (by omega)
  by_cases q : 0 ≤ x ∧ x < h 4 0 0 0
  · obtain ⟨i, rfl⟩ : ∃ i : Nat, x = i := ⟨x.toNat, by omega⟩
    have c2 := sp_copyFrom (LS := LS) (n := n) (by omega) (h := h) (o := 1) (v := 0) (by omega)
    have hq := veq_copy (A := h 4 1) (B := h 4 0) hn9.2
    have hW := vok_veq hV hq
    obtain ⟨W, c3⟩ := sp_nextMiss (LS := LS) hn1 (h := so h 4 1 (vCopy (h 4 1) (h 4 0))) (i := i) (x := 40) (N := N) (by omega) hN (by rw [so_at]; exact hW) (by rw [so_at, hq.1.1]; exact q.2)
    rw [so_at, so_so, vMiss_veq 40 1 hW hq (by rw [hq.1.1]; exact q.2)] at c3
    have g : ((40 : Nat) : Int) = 40 := rfl
    rw [g] at c3
    refine ⟨W, cl_X5_first (.ret ?_)⟩
    rw [sg_X5_first_0]
    rw [if_pos q] at c1 ⊢
    have b := vMiss_in 40 1 (h 4 0) i
    rw [Int.toNat_natCast]
    by_cases q2 : vMiss 40 1 (h 4 0) i = -1
    · simp (disch := omega) only [nx_of, if_pos, if_neg, if_true, if_false, true_or, or_true, Int.toNat_natCast, Option.bind_some, c1, c2, c3]
    · simp (disch := omega) only [nx_of, if_pos, if_neg, if_true, if_false, true_or, or_true, Int.toNat_natCast, Option.bind_some, c1, c2, c3]
  · refine ⟨h 4 1, cl_X5_first (.ret ?_)⟩
    rw [sg_X5_first_0]
    rw [if_neg q] at c1 ⊢
    simp (disch := omega) only [nx_of, if_pos, if_neg, if_true, if_false, true_or, or_true, Int.toNat_natCast, Option.bind_some, c1, so_self]
theorem pu_even {LS : Int} {n : Nat} (hn : 6 ≤ n) {h : nl_H} {x N : Int} (hx : nl_inR x) (hN : N ≤ 100000) (hV : vok N (h 4 0)) : ∃ W, nl_c LS n m_X5_even [vO 5 0, vI x] h = some (if x = -1 then dC (h 0 0) (h 4 0) 5 0 else if 0 ≤ x ∧ x < h 4 0 0 0 then dC (h 0 0) (h 4 0) 2 x.toNat else -1, so h 0 0 W) := by
  obtain ⟨n, rfl, hn1⟩ := nl_suc hn
  have hn9 := hV.1
  have c1 := sp_isHouse (LS := LS) (n := n) (by omega) (h := h) (o := 0) hx (by omega)
  have c2 := sp_choose (LS := LS) hn1 (h := h) (v := 0) hN hV
  obtain ⟨hx1, hx2⟩ := hx
  by_cases q : x = -1
  · subst q
    refine ⟨dC (h 0 0) (h 4 0), cl_X5_even (.ret ?_)⟩
    rw [sg_X5_even_0]
    simp (disch := omega) only [nx_of, if_pos, if_neg, if_true, if_false, true_or, or_true, Int.toNat_natCast, Option.bind_some, c2, so_at]
  · by_cases q2 : 0 ≤ x ∧ x < h 4 0 0 0
    · refine ⟨dC (h 0 0) (h 4 0), cl_X5_even (.ret ?_)⟩
      rw [sg_X5_even_0]
      rw [if_neg q, if_pos q2]
      rw [if_pos q2] at c1
      simp (disch := omega) only [nx_of, if_pos, if_neg, if_true, if_false, true_or, or_true, Int.toNat_natCast, Option.bind_some, c1, c2, so_at]
    · refine ⟨h 0 0, cl_X5_even (.ret ?_)⟩
      rw [sg_X5_even_0]
      rw [if_neg q, if_neg q2]
      rw [if_neg q2] at c1
      simp (disch := omega) only [nx_of, if_pos, if_neg, if_true, if_false, true_or, or_true, Int.toNat_natCast, Option.bind_some, c1, so_self]
def rCount (h : nl_H) (x : Int) : Int :=
  if x = 0 then h 4 0 0 0 else if x = 1 then h 4 0 1 0 else if x = 2 then h 4 0 2 0 else if x = 3 then vSum (h 4 0) 7 (vN (h 4 0)) 0 else if x = 4 then h 3 0 3 0 else if x = 5 then h 2 0 1 0 else if x = 6 then h 2 1 1 0 else if x = 7 then h 5 0 1 0 else -1
theorem pu_count {LS : Int} {n : Nat} (hn : 2 ≤ n) {h : nl_H} {x N : Int} (hx : nl_inR x) (hV : vok N (h 4 0)) : nl_c LS n m_X5_count [vO 5 0, vI x] h = some (rCount h x, h) := by
  obtain ⟨n, rfl, hn1⟩ := nl_suc hn
  have c1 := sp_tiredTogether (LS := LS) hn1 (h := h) (o := 0) hV
  obtain ⟨hx1, hx2⟩ := hx
  refine cl_X5_count (.ret ?_)
  rw [sg_X5_count_0]
  unfold rCount
  by_cases y0 : x = 0
  · simp (disch := omega) only [nx_of, if_pos, if_neg, if_true, if_false, true_or, or_true, Int.toNat_natCast, Option.bind_some, c1]
  by_cases y1 : x = 1
  · simp (disch := omega) only [nx_of, if_pos, if_neg, if_true, if_false, true_or, or_true, Int.toNat_natCast, Option.bind_some, c1]
  by_cases y2 : x = 2
  · simp (disch := omega) only [nx_of, if_pos, if_neg, if_true, if_false, true_or, or_true, Int.toNat_natCast, Option.bind_some, c1]
  by_cases y3 : x = 3
  · simp (disch := omega) only [nx_of, if_pos, if_neg, if_true, if_false, true_or, or_true, Int.toNat_natCast, Option.bind_some, c1]
  by_cases y4 : x = 4
  · simp (disch := omega) only [nx_of, if_pos, if_neg, if_true, if_false, true_or, or_true, Int.toNat_natCast, Option.bind_some, c1]
  by_cases y5 : x = 5
  · simp (disch := omega) only [nx_of, if_pos, if_neg, if_true, if_false, true_or, or_true, Int.toNat_natCast, Option.bind_some, c1]
  by_cases y6 : x = 6
  · simp (disch := omega) only [nx_of, if_pos, if_neg, if_true, if_false, true_or, or_true, Int.toNat_natCast, Option.bind_some, c1]
  by_cases y7 : x = 7
  · simp (disch := omega) only [nx_of, if_pos, if_neg, if_true, if_false, true_or, or_true, Int.toNat_natCast, Option.bind_some, c1]
  simp (disch := omega) only [nx_of, if_pos, if_neg, if_true, if_false, true_or, or_true, Int.toNat_natCast, Option.bind_some, c1]
theorem dD_o {m : Nat} : ∀ (e i S : Nat) (D : nl_O) (f j : Nat), f ≠ 2 → f ≠ 5 → dD D m e i S f j = D f j := by
  intro e
  induction e with
  | zero => intro i S D f j _ _; rfl
  | succ e ih =>
    intro i S D f j h2 h5
    simp only [dD]
    rw [ih _ _ _ _ _ h2 h5, vu_k h5, vu_k h2]
theorem dD_5 {m : Nat} : ∀ (e i S : Nat) (D : nl_O), D 5 0 ≤ dD D m e i S 5 0 ∧ dD D m e i S 5 0 ≤ D 5 0 + e := by
  intro e
  induction e with
  | zero => intro i S D; simp only [dD]; omega
  | succ e ih =>
    intro i S D
    simp only [dD]
    split
    · have k9 := ih (i + 1) (S ||| 2 ^ (dLow D S i m 0)) (vu (vu D 2 i ((dLow D S i m 0 : Nat) : Int)) 5 0 (D 5 0 + 0))
      rw [vu_at] at k9
      omega
    · have k9 := ih (i + 1) (S ||| 2 ^ (dLow D S i m 0)) (vu (vu D 2 i ((dLow D S i m 0 : Nat) : Int)) 5 0 (D 5 0 + 1))
      rw [vu_at] at k9
      omega
theorem dC_5 (D V : nl_O) : 0 ≤ dC D V 5 0 ∧ dC D V 5 0 ≤ vN V := by
  have k9 := dD_5 (m := vN V) (vN V) 0 0 (vu (dTab (dZ D V) (vN V) (2 ^ vN V)) 5 0 0)
  rw [vu_at] at k9
  unfold dC
  omega
theorem dC_3 (D V : nl_O) {a : Nat} (ha : a < vN V) : dC D V 3 a = ((dBits V a (vN V) : Nat) : Int) := by
  unfold dC
  rw [dD_o _ _ _ _ _ _ (by omega) (by omega), vu_k (by omega), dTab_o _ _ _ _ (by omega)]
  unfold dZ
  exact dWW_b _ _ _ _ (by omega) (by omega)
theorem pu_swaps {LS : Int} {n : Nat} (hn : 11 ≤ n) {h : nl_H} {N : Int} (hN : N ≤ 100000) (hV : vok N (h 4 0)) : ∃ W, nl_c LS n m_X5_swaps [vO 5 0] h = some (if dC (h 0 0) (h 4 0) 5 0 ≤ 0 then fS (dL (dC (h 0 0) (h 4 0)) (h 4 0) (vN (h 4 0)) 0) (vN (h 4 0)) (vN (h 4 0)) 0 else -4, so h 0 0 W) := by
  obtain ⟨n, rfl, hn1⟩ := nl_suc hn
  have hn9 := hV.1
  have h7 : vN (h 4 0) ≤ 7 := by unfold vN; omega
  have b5 := dC_5 (h 0 0) (h 4 0)
  have c2 := sp_choose (LS := LS) (n := n) (by omega) (h := h) (v := 0) hN hV
  have e4 : so h 0 0 (dC (h 0 0) (h 4 0)) 4 0 = h 4 0 := so_ne (by omega)
  have c3 := sp_fewestSwaps (LS := LS) hn1 (h := so h 0 0 (dC (h 0 0) (h 4 0))) (v := 0) (N := N) (by rw [e4]; exact hV) (by
    intro i hi
    rw [e4] at hi
    rw [so_at, dC_3 _ _ hi]
    exact ⟨_, dBits_lt _ h7, rfl⟩)
  rw [e4, so_at, so_so] at c3
  by_cases q : dC (h 0 0) (h 4 0) 5 0 ≤ 0
  · refine ⟨_, cl_X5_swaps (.ret (r := (_, so h 0 0 (dL (dC (h 0 0) (h 4 0)) (h 4 0) (vN (h 4 0)) 0))) ?_)⟩
    rw [sg_X5_swaps_0]
    simp (disch := omega) only [nx_of, if_pos, if_neg, if_true, if_false, true_or, or_true, Int.toNat_natCast, Option.bind_some, c2, so_at, c3]
  · refine ⟨_, cl_X5_swaps (.ret (r := (_, so h 0 0 (dC (h 0 0) (h 4 0)))) ?_)⟩
    rw [sg_X5_swaps_0]
    simp (disch := omega) only [nx_of, if_pos, if_neg, if_true, if_false, true_or, or_true, Int.toNat_natCast, Option.bind_some, c2, so_at]
def rBehind (V : nl_O) (x y z : Int) : Int :=
  if (0 ≤ x ∧ x ≤ 40) ∧ (0 ≤ y ∧ y < V 0 0) ∧ 0 ≤ z ∧ z ≤ 1 then (if z = 0 then vPass x.toNat V 7 y.toNat else vPass x.toNat V 8 y.toNat) else -1
theorem pu_behind {LS : Int} {n : Nat} (hn : 6 ≤ n) {h : nl_H} {x y z N : Int} (hx : nl_inR x) (hy : nl_inR y) (hz : nl_inR z) (hN : N ≤ 80000) (hV : vok N (h 4 0)) : ∃ W, nl_c LS n m_X5_behind [vO 5 0, vI x, vI y, vI z] h = some (rBehind (h 4 0) x y z, so h 4 1 W) := by
  obtain ⟨n, rfl, hn1⟩ := nl_suc hn
  have hn9 := hV.1
  have c1 := sp_isWithin (LS := LS) (n := n) (by omega) (h := h) (a := 0) (b := 40) hx ⟨by omega, by omega⟩ ⟨by omega, by omega⟩
  have c2 := sp_isHouse (LS := LS) (n := n) (by omega) (h := h) (o := 0) hy (by omega)
  have c3 := sp_isWithin (LS := LS) (n := n) (by omega) (h := h) (a := 0) (b := 1) hz ⟨by omega, by omega⟩ ⟨by omega, by omega⟩
  have c4 := sp_copyFrom (LS := LS) (n := n) (by omega) (h := h) (o := 1) (v := 0) (by omega)
  have hq := veq_copy (A := h 4 1) (B := h 4 0) hn9.2
  have hW := vok_veq hV hq
  obtain ⟨hz1, hz2⟩ := hz
  unfold rBehind
  by_cases q1 : 0 ≤ x ∧ x ≤ 40
  · by_cases q2 : 0 ≤ y ∧ y < h 4 0 0 0
    · by_cases q3 : 0 ≤ z ∧ z ≤ 1
      · obtain ⟨d, rfl⟩ : ∃ d : Nat, x = d := ⟨x.toNat, by omega⟩
        obtain ⟨i, rfl⟩ : ∃ i : Nat, y = i := ⟨y.toNat, by omega⟩
        have c5 := sp_letNightsPass (LS := LS) hn1 (h := so h 4 1 (vCopy (h 4 1) (h 4 0))) (o := 1) (d := d) (N := N) (by omega) hN (by rw [so_at]; exact hW)
        rw [so_at, so_so] at c5
        have hp := vPass_veq (d := d) hW hq
        have i1 : (i : Int) < vPass d (vCopy (h 4 1) (h 4 0)) 0 0 := by rw [(vPass_ok (d := d) hW).2, hq.1.1]; exact q2.2
        have e7 := hp.2.1 7 i (by omega) (by omega) i1
        have e8 := hp.2.1 8 i (by omega) (by omega) i1
        rw [if_pos ⟨q1, q2, q3⟩, Int.toNat_natCast, Int.toNat_natCast]
        rw [if_pos q1] at c1
        rw [if_pos q2] at c2
        rw [if_pos q3] at c3
        refine ⟨vPass d (vCopy (h 4 1) (h 4 0)), cl_X5_behind (.ret ?_)⟩
        rw [sg_X5_behind_0]
        by_cases z0 : z = 0
        · simp (disch := omega) only [nx_of, if_pos, if_neg, if_true, if_false, true_or, or_true, Int.toNat_natCast, Option.bind_some, c1, c2, c3, c4, c5, so_at, e7]
        · simp (disch := omega) only [nx_of, if_pos, if_neg, if_true, if_false, true_or, or_true, Int.toNat_natCast, Option.bind_some, c1, c2, c3, c4, c5, so_at, e8]
      · refine ⟨h 4 1, cl_X5_behind (.ret ?_)⟩
        rw [sg_X5_behind_0, if_neg (fun w => q3 w.2.2), so_self]
        rw [if_pos q1] at c1
        rw [if_pos q2] at c2
        rw [if_neg q3] at c3
        simp (disch := omega) only [nx_of, if_pos, if_neg, if_true, if_false, true_or, or_true, Int.toNat_natCast, Option.bind_some, c1, c2, c3]
    · refine ⟨h 4 1, cl_X5_behind (.ret ?_)⟩
      rw [sg_X5_behind_0, if_neg (fun w => q2 w.2.1), so_self]
      rw [if_pos q1] at c1
      rw [if_neg q2] at c2
      simp (disch := omega) only [nx_of, if_pos, if_neg, if_true, if_false, true_or, or_true, Int.toNat_natCast, Option.bind_some, c1, c2]
  · refine ⟨h 4 1, cl_X5_behind (.ret ?_)⟩
    rw [sg_X5_behind_0, if_neg (fun w => q1 w.1), so_self]
    rw [if_neg q1] at c1
    simp (disch := omega) only [nx_of, if_pos, if_neg, if_true, if_false, true_or, or_true, Int.toNat_natCast, Option.bind_some, c1]
/-- the bits of the gaps, of d hours from k on -/
def vGs (V : nl_O) : Nat → Nat → Nat → Nat
  | 0, _, B => B
  | d + 1, k, B => vGs V d (k + 1) (if vGap V k = 0 then B else B ||| 2 ^ k)
theorem lp_gaps {LS : Int} {n : Nat} (hn : 4 ≤ n) {h : nl_H} {N : Int} (hN : N ≤ 100000) (hV : vok N (h 4 0)) : ∀ (d k B : Nat), (k : Int) + d = h 4 0 0 0 → B < 128 → nl_Rn LS cd_X5_gaps (nl_c LS n) ct_X5_gaps 1 4 [some (vO 5 0), some (vI (B : Int)), some (vI (k : Int))] h (((vGs (h 4 0) d k B : Nat) : Int), h) := by
  have hn9 := hV.1
  intro d
  induction d with
  | zero =>
    intro k B hk hB
    refine .ret ?_
    rw [sg_X5_gaps_4]
    simp (disch := omega) only [nx_of, if_pos, if_neg, if_true, if_false, true_or, or_true, Int.toNat_natCast, Option.bind_some, vGs]
  | succ d ih =>
    intro k B hk hB
    have c1 := sp_isGapAt (LS := LS) hn (h := h) (o := 0) (k := k) hN hV (by omega)
    have b1 := vGap_in (h 4 0) k
    have b2 := bo_lt hB (k := k) (by omega)
    have p9 : (0 : Int) ≤ (B : Int) ∧ (0 : Int) ≤ ((2 ^ k : Nat) : Int) := ⟨Int.natCast_nonneg _, Int.natCast_nonneg _⟩
    by_cases q : vGap (h 4 0) k = 0
    · have k9 := ih (k + 1) B (by omega) hB
      have e9 : vGs (h 4 0) (d + 1) k B = vGs (h 4 0) d (k + 1) B := by simp only [vGs]; rw [if_pos q]
      rw [e9]
      refine .go ?_ k9
      rw [sg_X5_gaps_4]
      simp (disch := omega) only [nx_of, if_pos, if_neg, if_true, if_false, true_or, or_true, Int.toNat_natCast, Option.bind_some, c1]
      rfl
    · have k9 := ih (k + 1) (B ||| 2 ^ k) (by omega) b2
      have e9 : vGs (h 4 0) (d + 1) k B = vGs (h 4 0) d (k + 1) (B ||| 2 ^ k) := by simp only [vGs]; rw [if_neg q]
      rw [e9]
      refine .go ?_ k9
      rw [sg_X5_gaps_4]
      simp (disch := omega) only [nx_of, if_pos, if_neg, if_true, if_false, true_or, or_true, Int.toNat_natCast, Option.bind_some, c1, bp_z]
      rfl
theorem pu_gaps {LS : Int} {n : Nat} (hn : 5 ≤ n) {h : nl_H} {N : Int} (hN : N ≤ 100000) (hV : vok N (h 4 0)) : nl_c LS n m_X5_gaps [vO 5 0] h = some (((vGs (h 4 0) (vN (h 4 0)) 0 0 : Nat) : Int), h) := by
  obtain ⟨n, rfl, hn1⟩ := nl_suc hn
  have e := vN_eq hV
  refine cl_X5_gaps (.go ?_ (lp_gaps hn1 hN hV (vN (h 4 0)) 0 0 (by omega) (by omega)))
  rw [sg_X5_gaps_0]
  rfl
