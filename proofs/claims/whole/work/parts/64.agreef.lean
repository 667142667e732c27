/-! Both answer alike: first. -/
theorem vMiss_t : ∀ (m t t' : Nat) (V : nl_O) (i : Nat), vMiss m t V i = -1 → vMiss m t' V i = -1 := by
  intro m
  induction m with
  | zero => intro t t' V i h; exact h
  | succ m ih =>
    intro t t' V i h
    simp only [vMiss] at h ⊢
    by_cases q : vKeeps V i = 0
    · rw [if_pos q] at h; omega
    · rw [if_neg q] at h
      rw [if_neg q]
      exact ih (t + 1) (t' + 1) _ _ h
theorem ex_first6 {LS : Int} {n : Nat} (hn : 2 ≤ n) {h : nl_H} {W : nl_O} {i t : Nat} {x : Int} (hi : i < 7) (ht : t ≤ 40) (hx : 0 ≤ x ∧ x ≤ 100000) (h9 : W 9 i = x + 1) : nl_Rn LS cd_X6_first (nl_c LS n) ct_X6_first 1 23 [some (vO 6 0), some (vI (i : Int)), some (vI x), some (vI (t : Int)), none] (sm h W) ((t : Int), sm h (mTk W 25 0)) := by
  have c1 := sq_putBack (LS := LS) (n := n) (by omega) (h := h) (V := W)
  refine .ret ?_
  rw [sg_X6_first_23]
  by_cases q : t = 40
  · simp (disch := omega) only [↓reduceIte, i_le, i_nle, i_lt, i_nlt, i_eq, i_ne, and_self, and_true, true_and, and_false, false_and, or_true, true_or, or_false, false_or, nx_of, Int.toNat_natCast, Option.bind_some, rm_0, rm_1, rm_2, rm_3, rm_4, rm_5, rm_6, rm_7, rm_8, rm_9, rm_10, rm_11, rm_12, rm_13, rm_14, rm_15, rm_16, rm_17, rm_18, rm_19, rm_20, rm_21, rm_22, rm_23, rm_24, rm_25, rm_26, rm_27, rm_28, rm_29, um_0, um_1, um_2, um_3, um_4, um_5, um_6, um_7, um_8, um_9, um_10, um_11, um_12, um_13, um_14, um_15, um_16, um_17, um_18, um_19, um_20, um_21, um_22, um_23, um_24, um_25, um_26, um_27, um_28, um_29, rm_k, um_k, vu_at, vu_ne, ↓bd c1, c1, h9]
  · simp (disch := omega) only [↓reduceIte, i_le, i_nle, i_lt, i_nlt, i_eq, i_ne, and_self, and_true, true_and, and_false, false_and, or_true, true_or, or_false, false_or, nx_of, Int.toNat_natCast, Option.bind_some, rm_0, rm_1, rm_2, rm_3, rm_4, rm_5, rm_6, rm_7, rm_8, rm_9, rm_10, rm_11, rm_12, rm_13, rm_14, rm_15, rm_16, rm_17, rm_18, rm_19, rm_20, rm_21, rm_22, rm_23, rm_24, rm_25, rm_26, rm_27, rm_28, rm_29, um_0, um_1, um_2, um_3, um_4, um_5, um_6, um_7, um_8, um_9, um_10, um_11, um_12, um_13, um_14, um_15, um_16, um_17, um_18, um_19, um_20, um_21, um_22, um_23, um_24, um_25, um_26, um_27, um_28, um_29, rm_k, um_k, vu_at, vu_ne, ↓bd c1, c1, h9]
theorem lp_first6 {LS : Int} {n : Nat} (hn : 5 ≤ n) {h : nl_H} {V : nl_O} {i : Nat} {x : Int} (h7 : V 0 0 ≤ 7) (hx : 0 ≤ x ∧ x ≤ 90000) : ∀ (d t : Nat) {N : Int} {W : nl_O}, t + d = 40 → N + 7 * d ≤ 90000 → vok N W → (i : Int) < W 0 0 → W 9 i = x → mk W V → ∃ U, nl_Rn LS cd_X6_first (nl_c LS n) ct_X6_first 1 23 [some (vO 6 0), some (vI (i : Int)), some (vI x), some (vI (t : Int)), none] (sm h W) (if vMiss d (t + 1) W i = -1 then -4 else vMiss d (t + 1) W i, sm h U) ∧ ms U V := by
  intro d
  induction d with
  | zero =>
    intro t N W ht hN hV hi h9 hk
    have h0 := hV.1
    have c1 := sq_putBack (LS := LS) (n := n) (by omega) (h := h) (V := W)
    refine ⟨mTk W 25 0, .ret ?_, mk_back h7 hk⟩
    rw [sg_X6_first_23]
    simp only [vMiss]
    simp (disch := omega) only [↓reduceIte, i_le, i_nle, i_lt, i_nlt, i_eq, i_ne, and_self, and_true, true_and, and_false, false_and, or_true, true_or, or_false, false_or, nx_of, Int.toNat_natCast, Option.bind_some, rm_0, rm_1, rm_2, rm_3, rm_4, rm_5, rm_6, rm_7, rm_8, rm_9, rm_10, rm_11, rm_12, rm_13, rm_14, rm_15, rm_16, rm_17, rm_18, rm_19, rm_20, rm_21, rm_22, rm_23, rm_24, rm_25, rm_26, rm_27, rm_28, rm_29, um_0, um_1, um_2, um_3, um_4, um_5, um_6, um_7, um_8, um_9, um_10, um_11, um_12, um_13, um_14, um_15, um_16, um_17, um_18, um_19, um_20, um_21, um_22, um_23, um_24, um_25, um_26, um_27, um_28, um_29, rm_k, um_k, vu_at, vu_ne, ↓bd c1, c1, h9]
  | succ d ih =>
    intro t N W ht hN hV hi h9 hk
    have h0 := hV.1
    have c1 := sq_passes (LS := LS) hn (h := h) (V := W) (N := N) (by omega) hV
    have p9 := vPass_9 hV hi
    have p0 := vPass_ok (d := 1) hV
    have kk := mk_pass hk 1
    have hs : nl_ex LS cd_X6_first (nl_c LS n) ct_X6_first 1 400 23 [some (vO 6 0), some (vI (i : Int)), some (vI x), some (vI (t : Int)), none] [] (sm h W) = some (.inl (23, [some (vO 6 0), some (vI (i : Int)), some (vI x), some (vI ((t + 1 : Nat) : Int)), none], sm h (vPass 1 W))) := by
      rw [sg_X6_first_23]
      simp (disch := omega) only [↓reduceIte, i_le, i_nle, i_lt, i_nlt, i_eq, i_ne, and_self, and_true, true_and, and_false, false_and, or_true, true_or, or_false, false_or, nx_of, Int.toNat_natCast, Option.bind_some, rm_0, rm_1, rm_2, rm_3, rm_4, rm_5, rm_6, rm_7, rm_8, rm_9, rm_10, rm_11, rm_12, rm_13, rm_14, rm_15, rm_16, rm_17, rm_18, rm_19, rm_20, rm_21, rm_22, rm_23, rm_24, rm_25, rm_26, rm_27, rm_28, rm_29, um_0, um_1, um_2, um_3, um_4, um_5, um_6, um_7, um_8, um_9, um_10, um_11, um_12, um_13, um_14, um_15, um_16, um_17, um_18, um_19, um_20, um_21, um_22, um_23, um_24, um_25, um_26, um_27, um_28, um_29, rm_k, um_k, vu_at, vu_ne, ↓bd c1, c1, h9]
      rfl
    rcases vKeeps_in W i with q | q
    · have em : vMiss (d + 1) (t + 1) W i = ((t + 1 : Nat) : Int) := by simp only [vMiss]; rw [if_pos q]
      rw [em]
      refine ⟨mTk (vPass 1 W) 25 0, ?_, mk_back h7 kk⟩
      have k9 := ex_first6 (LS := LS) (n := n) (by omega) (h := h) (W := vPass 1 W) (i := i) (t := t + 1) (x := x) (by omega) (by omega) (by omega) (by rw [p9, h9, q]; omega)
      rw [if_neg (by omega)]
      exact .go hs k9
    · have em : vMiss (d + 1) (t + 1) W i = vMiss d (t + 1 + 1) (vSee W i) i := by simp only [vMiss]; rw [if_neg (by omega)]
      rw [em]
      obtain ⟨U, k9, k8⟩ := ih (t + 1) (N := N + 7) (W := vPass 1 W) (by omega) (by omega) (vok_up p0.1 (by omega)) (by rw [p0.2]; exact hi) (by rw [p9, h9, q]; omega) kk
      rw [← miss_pass hV hi] at k9
      exact ⟨U, .go hs k9, k8⟩
theorem sq_first {LS : Int} {n : Nat} (hn : 6 ≤ n) {h : nl_H} {V : nl_O} {x N : Int} (hx : nl_inR x) (hN : N ≤ 80000) (hV : vok N V) : ∃ U, nl_c LS n m_X6_first [vO 6 0, vI x] (sm h V) = some (if 0 ≤ x ∧ x < V 0 0 then (if vMiss 40 1 V x.toNat = -1 then -4 else vMiss 40 1 V x.toNat) else -1, sm h U) ∧ ms U V := by
  obtain ⟨n, rfl, hn1⟩ := nl_suc hn
  have h0 := hV.1
  have c1 := sq_isOne (LS := LS) (n := n) (by omega) (h := h) (V := V) hx (by omega)
  have c4 := sq_start (LS := LS) (n := n) (by omega) (h := h) (V := V)
  obtain ⟨hx1, hx2⟩ := hx
  by_cases q : 0 ≤ x ∧ x < V 0 0
  · rw [if_pos q] at c1 ⊢
    obtain ⟨i, rfl⟩ : ∃ i : Nat, x = i := ⟨x.toNat, by omega⟩
    rw [Int.toNat_natCast]
    have e0 := mLy_veq (V := V) (k := 25) (a := 0) (by omega)
    have hL := vok_veq hV e0
    have e9 : mLy V 25 0 9 i = V 9 i := mLy_o (by omega)
    have b9 := (hV.2.2.2.1 i q.2).2.2.2.2.2.2
    obtain ⟨U, k9, k8⟩ := lp_first6 (LS := LS) hn1 (h := h) (V := V) (i := i) (x := V 9 i) (by omega) (by omega) 40 0 (W := mLy V 25 0) (by omega) (by omega) hL (by rw [e0.1.1]; exact q.2) e9 (mk_0 V)
    rw [vMiss_veq 40 (0 + 1) hL e0 (by rw [e0.1.1]; exact q.2)] at k9
    refine ⟨U, cl_X6_first (.go ?_ k9), k8⟩
    rw [sg_X6_first_0]
    simp (disch := omega) only [↓reduceIte, i_le, i_nle, i_lt, i_nlt, i_eq, i_ne, and_self, and_true, true_and, and_false, false_and, or_true, true_or, or_false, false_or, nx_of, Int.toNat_natCast, Option.bind_some, rm_0, rm_1, rm_2, rm_3, rm_4, rm_5, rm_6, rm_7, rm_8, rm_9, rm_10, rm_11, rm_12, rm_13, rm_14, rm_15, rm_16, rm_17, rm_18, rm_19, rm_20, rm_21, rm_22, rm_23, rm_24, rm_25, rm_26, rm_27, rm_28, rm_29, um_0, um_1, um_2, um_3, um_4, um_5, um_6, um_7, um_8, um_9, um_10, um_11, um_12, um_13, um_14, um_15, um_16, um_17, um_18, um_19, um_20, um_21, um_22, um_23, um_24, um_25, um_26, um_27, um_28, um_29, rm_k, um_k, vu_at, vu_ne, ↓bd c1, ↓bd c4, c1, c4, e9]
    rfl
  · rw [if_neg q] at c1 ⊢
    refine ⟨V, cl_X6_first (.ret ?_), ms_refl V⟩
    rw [sg_X6_first_0]
    simp (disch := omega) only [↓reduceIte, i_le, i_nle, i_lt, i_nlt, i_eq, i_ne, and_self, and_true, true_and, and_false, false_and, or_true, true_or, or_false, false_or, nx_of, Int.toNat_natCast, Option.bind_some, rm_0, rm_1, rm_2, rm_3, rm_4, rm_5, rm_6, rm_7, rm_8, rm_9, rm_10, rm_11, rm_12, rm_13, rm_14, rm_15, rm_16, rm_17, rm_18, rm_19, rm_20, rm_21, rm_22, rm_23, rm_24, rm_25, rm_26, rm_27, rm_28, rm_29, um_0, um_1, um_2, um_3, um_4, um_5, um_6, um_7, um_8, um_9, um_10, um_11, um_12, um_13, um_14, um_15, um_16, um_17, um_18, um_19, um_20, um_21, um_22, um_23, um_24, um_25, um_26, um_27, um_28, um_29, rm_k, um_k, vu_at, vu_ne, ↓bd c1, c1]
theorem ag_first {LS : Int} {n : Nat} (hn : 20 ≤ n) {g : nl_H} (r : rg g) {x : Int} (hx : nl_inR x) : ag LS n m_X5_first m_X6_first [vI x] g := by
  have hV := vgd_N r.1
  have a2 := r.2.1
  have e0 := a2.1.1
  obtain ⟨W, c⟩ := pu_first (LS := LS) (n := n) (by omega) (h := g) hx (by omega) (vok_veq hV a2)
  obtain ⟨U, m, s⟩ := sq_first (LS := LS) (n := n) (by omega) (h := so g 4 1 W) hx (by omega) hV
  refine ag_of rfl c (so_ne (by omega)) m ?_ (rl_ms (rl_so r (by omega)) s)
  rw [e0]
  by_cases q : 0 ≤ x ∧ x < mv (g 6 0) 0 0
  · rw [if_pos q, if_pos q, vMiss_veq 40 1 (vok_veq hV a2) a2 (by omega)]
  · rw [if_neg q, if_neg q]
