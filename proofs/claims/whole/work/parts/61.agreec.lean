/-! Both answer alike: gaps, far. -/
theorem vGs_tb {V : nl_O} {b : Nat} : ∀ (d k B : Nat), (vGs V d k B).testBit b = true ↔ (B.testBit b = true ∨ (k ≤ b ∧ b < k + d ∧ vGap V b = 1)) := by
  intro d
  induction d with
  | zero =>
    intro k B
    simp only [vGs]
    constructor
    · exact .inl
    · rintro (q | q)
      · exact q
      · omega
  | succ d ih =>
    intro k B
    simp only [vGs]
    rw [ih]
    have g := vGap_in V k
    by_cases q : vGap V k = 0
    · rw [if_pos q]
      constructor
      · rintro (p | p)
        · exact .inl p
        · exact .inr ⟨by omega, by omega, p.2.2⟩
      · rintro (p | p)
        · exact .inl p
        · refine .inr ⟨?_, by omega, p.2.2⟩
          by_cases z : k = b
          · subst z; omega
          · omega
    · rw [if_neg q, Nat.testBit_or, Nat.testBit_two_pow]
      simp only [Bool.or_eq_true, decide_eq_true_eq]
      constructor
      · rintro ((p | p) | p)
        · exact .inl p
        · subst p; exact .inr ⟨by omega, by omega, by omega⟩
        · exact .inr ⟨by omega, by omega, p.2.2⟩
      · rintro (p | p)
        · exact .inl (.inl p)
        · by_cases z : k = b
          · exact .inl (.inr z)
          · exact .inr ⟨by omega, by omega, p.2.2⟩
theorem mGs_tb {V : nl_O} {b : Nat} : ∀ (e i B : Nat), (mGs V e i B).testBit b = true ↔ (B.testBit b = true ∨ ∃ j : Nat, i ≤ j ∧ j < i + e ∧ (V 8 j).toNat = b ∧ ¬ vHv V j b ≤ V 5 j - V 7 j) := by
  intro e
  induction e with
  | zero =>
    intro i B
    simp only [mGs]
    constructor
    · exact .inl
    · rintro (q | ⟨j, q⟩)
      · exact q
      · omega
  | succ e ih =>
    intro i B
    simp only [mGs]
    rw [ih]
    by_cases q : vHv V i (V 8 i).toNat ≤ V 5 i - V 7 i
    · rw [if_pos q]
      constructor
      · rintro (p | ⟨j, p1, p2, p3, p4⟩)
        · exact .inl p
        · exact .inr ⟨j, by omega, by omega, p3, p4⟩
      · rintro (p | ⟨j, p1, p2, p3, p4⟩)
        · exact .inl p
        · refine .inr ⟨j, ?_, by omega, p3, p4⟩
          by_cases z : i = j
          · subst z; rw [← p3] at p4; exact absurd q p4
          · omega
    · rw [if_neg q, Nat.testBit_or, Nat.testBit_two_pow]
      simp only [Bool.or_eq_true, decide_eq_true_eq]
      constructor
      · rintro ((p | p) | ⟨j, p1, p2, p3, p4⟩)
        · exact .inl p
        · exact .inr ⟨i, by omega, by omega, p, by rw [← p]; exact q⟩
        · exact .inr ⟨j, by omega, by omega, p3, p4⟩
      · rintro (p | ⟨j, p1, p2, p3, p4⟩)
        · exact .inl (.inl p)
        · by_cases z : i = j
          · subst z; exact .inl (.inr p3)
          · exact .inr ⟨j, by omega, by omega, p3, p4⟩
theorem vGap_1 {N : Int} {V : nl_O} (hV : vok N V) (hI : vinj V) {b : Nat} (hb : (b : Int) < V 0 0) : vGap V b = 1 ↔ ∃ j : Nat, (j : Int) < V 0 0 ∧ (V 8 j).toNat = b ∧ ¬ vHv V j b ≤ V 5 j - V 7 j := by
  obtain ⟨i, hi, e⟩ := vsur hV hI hb
  have w : vWho V (b : Int) (vN V) 0 = i := by rw [← e]; exact vWho_of hV hI hi
  unfold vGap
  rw [w, if_neg (by omega), Int.toNat_natCast]
  constructor
  · intro q
    refine ⟨i, hi, by omega, fun p => ?_⟩
    rw [if_pos p] at q
    omega
  · rintro ⟨j, j1, j2, j3⟩
    have b8 := (hV.2.2.2.1 j j1).2.2.2.2.2.1
    have ij : j = i := hI j i j1 hi (by omega)
    subst ij
    rw [if_neg j3]
theorem mGs_eq {N : Int} {V : nl_O} (hV : vok N V) (hI : vinj V) : mGs V (vN V) 0 0 = vGs V (vN V) 0 0 := by
  have e := vN_eq hV
  refine Nat.eq_of_testBit_eq fun b => Bool.eq_iff_iff.mpr ?_
  rw [mGs_tb, vGs_tb]
  simp only [Nat.zero_testBit, Bool.false_eq_true, false_or]
  constructor
  · rintro ⟨j, j1, j2, j3, j4⟩
    have b8 := (hV.2.2.2.1 j (by omega)).2.2.2.2.2.1
    exact ⟨by omega, by omega, (vGap_1 hV hI (b := b) (by omega)).mpr ⟨j, by omega, j3, j4⟩⟩
  · rintro ⟨_, b1, b2⟩
    obtain ⟨j, j1, j2, j3⟩ := (vGap_1 hV hI (b := b) (by omega)).mp b2
    exact ⟨j, by omega, by omega, j2, j3⟩
theorem vGs_veq {N : Int} {V W : nl_O} (hV : vok N V) (h : veq V W) : ∀ (d k B : Nat), (k : Int) + d ≤ V 0 0 → vGs V d k B = vGs W d k B := by
  intro d
  induction d with
  | zero => intro k B _; rfl
  | succ d ih =>
    intro k B hk
    simp only [vGs]
    rw [vGap_veq hV h (k := k) (by omega), ih _ _ (by omega)]
theorem ag_gaps {LS : Int} {n : Nat} (hn : 20 ≤ n) {g : nl_H} (r : rg g) : ag LS n m_X5_gaps m_X6_gaps [] g := by
  have r' : rl g (mv (g 6 0)) := r
  have a1 := r'.1
  have a2 := r'.2.1
  have hV := vgd_N a1
  have hW := vok_veq hV a2
  have e := vN_eq hW
  obtain ⟨n, rfl, hn1⟩ := nl_suc (n := n) (d := 19) (by omega)
  have c := pu_gaps (LS := LS) (n := n + 1) (by omega) (h := g) (by omega) hW
  refine ag_of (V := mv (g 6 0)) rfl c rfl (b := ((mGs (mv (g 6 0)) (vN (mv (g 6 0))) 0 0 : Nat) : Int)) ?_ ?_ r
  · have c1 := sq_gapSet (LS := LS) (n := n) (by omega) (h := g) (V := mv (g 6 0)) (by omega) hV
    refine cl_X6_gaps (.ret ?_)
    rw [sg_X6_gaps_0]
    simp (disch := omega) only [↓reduceIte, i_le, i_nle, i_lt, i_nlt, i_eq, i_ne, and_self, and_true, true_and, and_false, false_and, or_true, true_or, or_false, false_or, nx_of, Int.toNat_natCast, Option.bind_some, rm_0, rm_1, rm_2, rm_3, rm_4, rm_5, rm_6, rm_7, rm_8, rm_9, rm_10, rm_11, rm_12, rm_13, rm_14, rm_15, rm_16, rm_17, rm_18, rm_19, rm_20, rm_21, rm_22, rm_23, rm_24, rm_25, rm_26, rm_27, rm_28, rm_29, um_0, um_1, um_2, um_3, um_4, um_5, um_6, um_7, um_8, um_9, um_10, um_11, um_12, um_13, um_14, um_15, um_16, um_17, um_18, um_19, um_20, um_21, um_22, um_23, um_24, um_25, um_26, um_27, um_28, um_29, rm_k, um_k, vu_at, vu_ne, ↓bd c1, c1]
  · rw [mGs_eq hV a1.2.1, vGs_veq hW a2 _ _ _ (by omega), vN_veq a2]
theorem lp_far6 {LS : Int} {n : Nat} (hn : 1 ≤ n) {h : nl_H} {V : nl_O} {N x : Int} (hx : x = 0 ∨ x = 1) (hV : vok N V) (hI : vinj V) : ∀ (d k : Nat) {g : Int}, (k : Int) + d = V 0 0 → 1 ≤ k → 0 ≤ g → g + 99 * d ≤ 1000 →
    nl_Rn LS cd_X6_far (nl_c LS n) ct_X6_far 1 31 [some (vO 6 0), some (vI x), some (vI g), some (vI (vLo V k)), some (vI (vHi V k)), some (vI (k : Int))] (sm h V) (if x = 0 then g + vWay V d k else vHi V (vN V) - vLo V (vN V), sm h V) := by
  have h0 := hV.1
  have e := vN_eq hV
  intro d
  induction d with
  | zero =>
    intro k g hk h1 h2 h3
    obtain rfl : k = vN V := by omega
    refine .ret ?_
    rw [sg_X6_far_31]
    simp only [vWay]
    rw [show g + 0 = g by omega]
    rcases hx with rfl | rfl
    · simp (disch := omega) only [↓reduceIte, i_le, i_nle, i_lt, i_nlt, i_eq, i_ne, and_self, and_true, true_and, and_false, false_and, or_true, true_or, or_false, false_or, nx_of, Int.toNat_natCast, Option.bind_some, rm_0, rm_1, rm_2, rm_3, rm_4, rm_5, rm_6, rm_7, rm_8, rm_9, rm_10, rm_11, rm_12, rm_13, rm_14, rm_15, rm_16, rm_17, rm_18, rm_19, rm_20, rm_21, rm_22, rm_23, rm_24, rm_25, rm_26, rm_27, rm_28, rm_29, um_0, um_1, um_2, um_3, um_4, um_5, um_6, um_7, um_8, um_9, um_10, um_11, um_12, um_13, um_14, um_15, um_16, um_17, um_18, um_19, um_20, um_21, um_22, um_23, um_24, um_25, um_26, um_27, um_28, um_29, rm_k, um_k, vu_at, vu_ne]
    · simp (disch := omega) only [↓reduceIte, i_le, i_nle, i_lt, i_nlt, i_eq, i_ne, and_self, and_true, true_and, and_false, false_and, or_true, true_or, or_false, false_or, nx_of, Int.toNat_natCast, Option.bind_some, rm_0, rm_1, rm_2, rm_3, rm_4, rm_5, rm_6, rm_7, rm_8, rm_9, rm_10, rm_11, rm_12, rm_13, rm_14, rm_15, rm_16, rm_17, rm_18, rm_19, rm_20, rm_21, rm_22, rm_23, rm_24, rm_25, rm_26, rm_27, rm_28, rm_29, um_0, um_1, um_2, um_3, um_4, um_5, um_6, um_7, um_8, um_9, um_10, um_11, um_12, um_13, um_14, um_15, um_16, um_17, um_18, um_19, um_20, um_21, um_22, um_23, um_24, um_25, um_26, um_27, um_28, um_29, rm_k, um_k, vu_at, vu_ne]
  | succ d ih =>
    intro k g hk h1 h2 h3
    have b6 := (hV.2.2.2.1 k (by omega)).2.2.2.1
    have bl := vLo_in hV k (by omega)
    obtain ⟨i, hi, ei⟩ := vsur hV hI (k := k - 1) (by omega)
    obtain ⟨j, hj, ej⟩ := vsur hV hI (k := k) (by omega)
    have wi : vWho V ((k : Int) - 1) (vN V) 0 = i := by rw [show (k : Int) - 1 = V 8 i by omega]; exact vWho_of hV hI hi
    have wj : vWho V (k : Int) (vN V) 0 = j := by rw [← ej]; exact vWho_of hV hI hj
    have bi := (hV.2.2.2.1 i hi).2.2.2.1
    have bj := (hV.2.2.2.1 j hj).2.2.2.1
    have c1 := sq_whoHas (LS := LS) hn (h := h) hV hI (x := (k : Int) - 1) (by omega)
    have c2 := sq_whoHas (LS := LS) hn (h := h) hV hI (x := (k : Int)) (by omega)
    rw [wi] at c1
    rw [wj] at c2
    have ey : vWy V k = if 0 ≤ V 6 j - V 6 i then V 6 j - V 6 i else -(V 6 j - V 6 i) := by
      unfold vWy
      rw [wi, wj, if_neg (by omega), Int.toNat_natCast, Int.toNat_natCast]
    have c3 : nl_c LS n m_X6_off [vI (V 6 i), vI (V 6 j)] (sm h V) = some (vWy V k, sm h V) := by
      obtain ⟨n, rfl, hn1⟩ := nl_suc (n := n) (d := 0) hn
      refine cl_X6_off (.ret ?_)
      rw [sg_X6_off_0]
      by_cases q : V 6 i ≤ V 6 j
      · rw [if_pos (by omega)] at ey
        rw [ey]; simp (disch := omega) only [↓reduceIte, i_le, i_nle, i_lt, i_nlt, i_eq, i_ne, and_self, and_true, true_and, and_false, false_and, or_true, true_or, or_false, false_or, nx_of, Int.toNat_natCast, Option.bind_some, rm_0, rm_1, rm_2, rm_3, rm_4, rm_5, rm_6, rm_7, rm_8, rm_9, rm_10, rm_11, rm_12, rm_13, rm_14, rm_15, rm_16, rm_17, rm_18, rm_19, rm_20, rm_21, rm_22, rm_23, rm_24, rm_25, rm_26, rm_27, rm_28, rm_29, um_0, um_1, um_2, um_3, um_4, um_5, um_6, um_7, um_8, um_9, um_10, um_11, um_12, um_13, um_14, um_15, um_16, um_17, um_18, um_19, um_20, um_21, um_22, um_23, um_24, um_25, um_26, um_27, um_28, um_29, rm_k, um_k, vu_at, vu_ne]
      · rw [if_neg (by omega)] at ey
        rw [ey, show -(V 6 j - V 6 i) = V 6 i - V 6 j by omega]; simp (disch := omega) only [↓reduceIte, i_le, i_nle, i_lt, i_nlt, i_eq, i_ne, and_self, and_true, true_and, and_false, false_and, or_true, true_or, or_false, false_or, nx_of, Int.toNat_natCast, Option.bind_some, rm_0, rm_1, rm_2, rm_3, rm_4, rm_5, rm_6, rm_7, rm_8, rm_9, rm_10, rm_11, rm_12, rm_13, rm_14, rm_15, rm_16, rm_17, rm_18, rm_19, rm_20, rm_21, rm_22, rm_23, rm_24, rm_25, rm_26, rm_27, rm_28, rm_29, um_0, um_1, um_2, um_3, um_4, um_5, um_6, um_7, um_8, um_9, um_10, um_11, um_12, um_13, um_14, um_15, um_16, um_17, um_18, um_19, um_20, um_21, um_22, um_23, um_24, um_25, um_26, um_27, um_28, um_29, rm_k, um_k, vu_at, vu_ne]
    have c4 := sp_lesser (LS := LS) hn (h := sm h V) (a := vLo V k) (b := V 6 k) ⟨by omega, by omega⟩ ⟨by omega, by omega⟩
    have c5 := sp_greater (LS := LS) hn (h := sm h V) (a := vHi V k) (b := V 6 k) ⟨by omega, by omega⟩ ⟨by omega, by omega⟩
    have f4 : (if V 6 k ≤ vLo V k then V 6 k else vLo V k) = vLo V (k + 1) := by
      simp only [vLo]; split <;> split <;> omega
    have f5 : (if vHi V k ≤ V 6 k then V 6 k else vHi V k) = vHi V (k + 1) := by
      simp only [vHi]; split <;> split <;> omega
    rw [f4] at c4
    rw [f5] at c5
    have by6 : 0 ≤ vWy V k ∧ vWy V k ≤ 99 := by
      rw [ey]
      split <;> omega
    have k9 := ih (k + 1) (g := g + vWy V k) (by omega) (by omega) (by omega) (by omega)
    have ew : g + vWy V k + vWay V d (k + 1) = g + vWay V (d + 1) k := by simp only [vWay]; omega
    rw [ew] at k9
    refine .go ?_ k9
    rw [sg_X6_far_31]
    simp (disch := omega) only [↓reduceIte, i_le, i_nle, i_lt, i_nlt, i_eq, i_ne, and_self, and_true, true_and, and_false, false_and, or_true, true_or, or_false, false_or, nx_of, Int.toNat_natCast, Option.bind_some, rm_0, rm_1, rm_2, rm_3, rm_4, rm_5, rm_6, rm_7, rm_8, rm_9, rm_10, rm_11, rm_12, rm_13, rm_14, rm_15, rm_16, rm_17, rm_18, rm_19, rm_20, rm_21, rm_22, rm_23, rm_24, rm_25, rm_26, rm_27, rm_28, rm_29, um_0, um_1, um_2, um_3, um_4, um_5, um_6, um_7, um_8, um_9, um_10, um_11, um_12, um_13, um_14, um_15, um_16, um_17, um_18, um_19, um_20, um_21, um_22, um_23, um_24, um_25, um_26, um_27, um_28, um_29, rm_k, um_k, vu_at, vu_ne, ↓bd c1, ↓bd c2, ↓bd c3, ↓bd c4, ↓bd c5, c1, c2, c3, c4, c5]
    rfl
theorem sq_far {LS : Int} {n : Nat} (hn : 2 ≤ n) {h : nl_H} {V : nl_O} {x N : Int} (hx : nl_inR x) (hV : vok N V) (hI : vinj V) : nl_c LS n m_X6_far [vO 6 0, vI x] (sm h V) = some (rFar V x, sm h V) := by
  obtain ⟨n, rfl, hn1⟩ := nl_suc hn
  have h0 := hV.1
  have e := vN_eq hV
  have c1 := sq_in (LS := LS) hn1 (h := sm h V) (x := x) (a := 0) (b := 1) hx (by omega) (by omega)
  have b6 := (hV.2.2.2.1 0 (by omega)).2.2.2.1
  have l1 : vLo V 1 = V 6 0 := by
    show (if V 6 0 < (99 : Int) then V 6 0 else (99 : Int)) = V 6 0
    by_cases q : V 6 0 < 99
    · rw [if_pos q]
    · rw [if_neg q]; omega
  have l2 : vHi V 1 = V 6 0 := by
    show (if (0 : Int) < V 6 0 then V 6 0 else (0 : Int)) = V 6 0
    by_cases q : 0 < V 6 0
    · rw [if_pos q]
    · rw [if_neg q]; omega
  unfold rFar
  by_cases q : 0 ≤ x ∧ x ≤ 1
  · rw [if_pos q] at c1 ⊢
    have k9 := lp_far6 (LS := LS) hn1 (h := h) (x := x) (by omega) hV hI (vN V - 1) 1 (g := 0) (by omega) (by omega) (by omega) (by omega)
    rw [l1, l2, show 0 + vWay V (vN V - 1) 1 = vWay V (vN V - 1) 1 by omega] at k9
    have mono : ∀ i : Nat, (i : Int) ≤ V 0 0 → 1 ≤ i → vLo V i ≤ V 6 0 ∧ V 6 0 ≤ vHi V i := by
      intro i
      induction i with
      | zero => intro _ _; omega
      | succ i ih =>
        intro h1 h2
        by_cases z : i = 0
        · subst z; rw [l1, l2]; omega
        · have := ih (by omega) (by omega)
          simp only [vLo, vHi]
          split <;> split <;> omega
    have mm := mono (vN V) (by omega) (by omega)
    rw [if_neg (show ¬ vHi V (vN V) - vLo V (vN V) < 0 by omega)]
    refine cl_X6_far (.go ?_ k9)
    rw [sg_X6_far_0]
    simp (disch := omega) only [↓reduceIte, i_le, i_nle, i_lt, i_nlt, i_eq, i_ne, and_self, and_true, true_and, and_false, false_and, or_true, true_or, or_false, false_or, nx_of, Int.toNat_natCast, Option.bind_some, rm_0, rm_1, rm_2, rm_3, rm_4, rm_5, rm_6, rm_7, rm_8, rm_9, rm_10, rm_11, rm_12, rm_13, rm_14, rm_15, rm_16, rm_17, rm_18, rm_19, rm_20, rm_21, rm_22, rm_23, rm_24, rm_25, rm_26, rm_27, rm_28, rm_29, um_0, um_1, um_2, um_3, um_4, um_5, um_6, um_7, um_8, um_9, um_10, um_11, um_12, um_13, um_14, um_15, um_16, um_17, um_18, um_19, um_20, um_21, um_22, um_23, um_24, um_25, um_26, um_27, um_28, um_29, rm_k, um_k, vu_at, vu_ne, ↓bd c1, c1]
    rfl
  · rw [if_neg q] at c1 ⊢
    refine cl_X6_far (.ret ?_)
    rw [sg_X6_far_0]
    simp (disch := omega) only [↓reduceIte, i_le, i_nle, i_lt, i_nlt, i_eq, i_ne, and_self, and_true, true_and, and_false, false_and, or_true, true_or, or_false, false_or, nx_of, Int.toNat_natCast, Option.bind_some, rm_0, rm_1, rm_2, rm_3, rm_4, rm_5, rm_6, rm_7, rm_8, rm_9, rm_10, rm_11, rm_12, rm_13, rm_14, rm_15, rm_16, rm_17, rm_18, rm_19, rm_20, rm_21, rm_22, rm_23, rm_24, rm_25, rm_26, rm_27, rm_28, rm_29, um_0, um_1, um_2, um_3, um_4, um_5, um_6, um_7, um_8, um_9, um_10, um_11, um_12, um_13, um_14, um_15, um_16, um_17, um_18, um_19, um_20, um_21, um_22, um_23, um_24, um_25, um_26, um_27, um_28, um_29, rm_k, um_k, vu_at, vu_ne, ↓bd c1, c1]
theorem ag_far {LS : Int} {n : Nat} (hn : 20 ≤ n) {g : nl_H} (r : rg g) {x : Int} (hx : nl_inR x) : ag LS n m_X5_far m_X6_far [vI x] g := by
  have hV := vgd_N r.1
  exact ag_of rfl (pu_far (by omega) hx (vok_veq hV r.2.1)) rfl (sq_far (by omega) hx hV r.1.2.1) (rFar_veq hV (veq_symm r.2.1) x) r
