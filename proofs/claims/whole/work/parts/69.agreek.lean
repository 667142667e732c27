/-! Both answer alike: kinds, strengths. -/
theorem vAs_k {V : nl_O} {i : Nat} {a : Int} : vAs V i a (V 5 i) = vu V 4 i a := by
  unfold vAs
  have e : V 5 i = vu V 4 i a 5 i := (vu_k (by omega)).symm
  rw [e, vu_self]
theorem vAs_s {V : nl_O} {i : Nat} {b : Int} : vAs V i (V 4 i) b = vu V 5 i b := by
  unfold vAs
  rw [vu_self]
theorem lp_kinds6 {LS : Int} {n : Nat} (hn : 7 ≤ n) {h : nl_H} {N : Int} {S V : nl_O} {i : Nat} (hN : N ≤ 70000) (hV : vok N V) (hI : vinj V) (hS : rse S V) (hi : (i : Int) < V 0 0) : ∀ (e a B : Nat) (W : nl_O), ms (vu W 4 i (V 4 i)) V → a + e = 4 → B < 128 → ∃ U, nl_Rn LS cd_X6_kinds (nl_c LS n) ct_X6_kinds 1 22 [some (vO 6 0), some (vI (i : Int)), some (vI (V 4 i)), some (vI (B : Int)), some (vI (a : Int))] (sm h W) (((vKi S V i e a B : Nat) : Int), sm h U) ∧ ms U V := by
  have h0 := hV.1
  have b4 := (hV.2.2.2.1 i hi).2.1
  have b5 := (hV.2.2.2.1 i hi).2.2.1
  intro e
  induction e with
  | zero =>
    intro a B W hW ha hB
    refine ⟨vu W 4 i (V 4 i), .ret ?_, hW⟩
    rw [sg_X6_kinds_22]
    simp only [vKi]
    simp (disch := omega) only [↓reduceIte, i_le, i_nle, i_lt, i_nlt, i_eq, i_ne, and_self, and_true, true_and, and_false, false_and, or_true, true_or, or_false, false_or, nx_of, Int.toNat_natCast, Option.bind_some, rm_0, rm_1, rm_2, rm_3, rm_4, rm_5, rm_6, rm_7, rm_8, rm_9, rm_10, rm_11, rm_12, rm_13, rm_14, rm_15, rm_16, rm_17, rm_18, rm_19, rm_20, rm_21, rm_22, rm_23, rm_24, rm_25, rm_26, rm_27, rm_28, rm_29, um_0, um_1, um_2, um_3, um_4, um_5, um_6, um_7, um_8, um_9, um_10, um_11, um_12, um_13, um_14, um_15, um_16, um_17, um_18, um_19, um_20, um_21, um_22, um_23, um_24, um_25, um_26, um_27, um_28, um_29, rm_k, um_k, vu_at, vu_ne]
  | succ e ih =>
    intro a B W hW ha hB
    have m0 := ms_vu hW (k := 4) (i := i) (x := (a : Int)) ⟨by omega, by omega⟩
    rw [vu_vu] at m0
    have hA := vAs_ok (i := i) (a := (a : Int)) (b := V 5 i) hV (by omega) b5
    rw [vAs_k] at hA
    have hU := vok_veq hA m0.1
    have iA : vinj (vu V 4 i (a : Int)) := vinj_o hI (vu_k (by omega)) fun j => vu_k (by omega)
    have z0 : vu W 4 i (a : Int) 0 0 = V 0 0 := by rw [m0.1.1.1]; exact vu_k (by omega)
    have hR : rse S (vu W 4 i (a : Int)) := rse_same hS z0 fun k j h1 h2 => by rw [m0.2 k j (by omega), vu_k (by omega)]
    obtain ⟨U, c1, s1⟩ := sq_isSo (LS := LS) (n := n) hn (h := h) (S := S) (V := vu W 4 i (a : Int)) hN hU (vinj_veq iA m0.1) hR
    have hsok : sok (vu W 4 i (a : Int) 0 0) S := by rw [z0]; exact hS.1
    rw [vFs_veq 21 0 hU m0.1 hsok, vFs_21 hS.1 i (a : Int) (V 5 i) vAs_k] at c1
    have m1 := ms_vu s1 (k := 4) (i := i) (x := V 4 i) ⟨by omega, by omega⟩
    rw [vu_vu] at m1
    have m2 := ms_trans m1 hW
    have z1 : (0 : Int).toNat = 0 := rfl
    have p9 : (0 : Int) ≤ ((2 ^ a : Nat) : Int) := Int.natCast_nonneg _
    simp only [vKi]
    have fi : vFa S V i (a : Int) (V 5 i) = 0 ∨ vFa S V i (a : Int) (V 5 i) = 1 := vFs_in _ _ _ _
    by_cases q : vFa S V i (a : Int) (V 5 i) = 0
    · rw [if_pos q]
      rw [q] at c1
      obtain ⟨Y, k9, k8⟩ := ih (a + 1) B U m2 (by omega) hB
      refine ⟨Y, .go ?_ k9, k8⟩
      rw [sg_X6_kinds_22]
      simp (disch := omega) only [↓reduceIte, i_le, i_nle, i_lt, i_nlt, i_eq, i_ne, and_self, and_true, true_and, and_false, false_and, or_true, true_or, or_false, false_or, nx_of, Int.toNat_natCast, Option.bind_some, rm_0, rm_1, rm_2, rm_3, rm_4, rm_5, rm_6, rm_7, rm_8, rm_9, rm_10, rm_11, rm_12, rm_13, rm_14, rm_15, rm_16, rm_17, rm_18, rm_19, rm_20, rm_21, rm_22, rm_23, rm_24, rm_25, rm_26, rm_27, rm_28, rm_29, um_0, um_1, um_2, um_3, um_4, um_5, um_6, um_7, um_8, um_9, um_10, um_11, um_12, um_13, um_14, um_15, um_16, um_17, um_18, um_19, um_20, um_21, um_22, um_23, um_24, um_25, um_26, um_27, um_28, um_29, rm_k, um_k, vu_at, vu_ne, ↓bd c1, c1, z1, Nat.or_zero]
      rfl
    · rw [if_neg q]
      rw [show vFa S V i (a : Int) (V 5 i) = 1 by omega] at c1
      obtain ⟨Y, k9, k8⟩ := ih (a + 1) (B ||| 2 ^ a) U m2 (by omega) (bo_lt hB (by omega))
      refine ⟨Y, .go ?_ k9, k8⟩
      rw [sg_X6_kinds_22]
      simp (disch := omega) only [↓reduceIte, i_le, i_nle, i_lt, i_nlt, i_eq, i_ne, and_self, and_true, true_and, and_false, false_and, or_true, true_or, or_false, false_or, nx_of, Int.toNat_natCast, Option.bind_some, rm_0, rm_1, rm_2, rm_3, rm_4, rm_5, rm_6, rm_7, rm_8, rm_9, rm_10, rm_11, rm_12, rm_13, rm_14, rm_15, rm_16, rm_17, rm_18, rm_19, rm_20, rm_21, rm_22, rm_23, rm_24, rm_25, rm_26, rm_27, rm_28, rm_29, um_0, um_1, um_2, um_3, um_4, um_5, um_6, um_7, um_8, um_9, um_10, um_11, um_12, um_13, um_14, um_15, um_16, um_17, um_18, um_19, um_20, um_21, um_22, um_23, um_24, um_25, um_26, um_27, um_28, um_29, rm_k, um_k, vu_at, vu_ne, ↓bd c1, c1, bp_z]
      rfl
theorem sq_kinds {LS : Int} {n : Nat} (hn : 8 ≤ n) {h : nl_H} {S V : nl_O} {x N : Int} (hx : nl_inR x) (hN : N ≤ 70000) (hV : vok N V) (hI : vinj V) (hS : rse S V) : ∃ U, nl_c LS n m_X6_kinds [vO 6 0, vI x] (sm h V) = some (if 0 ≤ x ∧ x < V 0 0 then ((vKi S V x.toNat 4 0 0 : Nat) : Int) else -1, sm h U) ∧ ms U V := by
  obtain ⟨n, rfl, hn1⟩ := nl_suc hn
  have h0 := hV.1
  have c1 := sq_isOne (LS := LS) (n := n) (by omega) (h := h) (V := V) hx (by omega)
  obtain ⟨hx1, hx2⟩ := hx
  by_cases q : 0 ≤ x ∧ x < V 0 0
  · rw [if_pos q] at c1 ⊢
    obtain ⟨i, rfl⟩ : ∃ i : Nat, x = i := ⟨x.toNat, by omega⟩
    rw [Int.toNat_natCast]
    obtain ⟨U, k9, k8⟩ := lp_kinds6 (LS := LS) hn1 (h := h) hN hV hI hS q.2 4 0 0 V (by rw [vu_self]; exact ms_refl V) (by omega) (by omega)
    refine ⟨U, cl_X6_kinds (.go ?_ k9), k8⟩
    rw [sg_X6_kinds_0]
    simp (disch := omega) only [↓reduceIte, i_le, i_nle, i_lt, i_nlt, i_eq, i_ne, and_self, and_true, true_and, and_false, false_and, or_true, true_or, or_false, false_or, nx_of, Int.toNat_natCast, Option.bind_some, rm_0, rm_1, rm_2, rm_3, rm_4, rm_5, rm_6, rm_7, rm_8, rm_9, rm_10, rm_11, rm_12, rm_13, rm_14, rm_15, rm_16, rm_17, rm_18, rm_19, rm_20, rm_21, rm_22, rm_23, rm_24, rm_25, rm_26, rm_27, rm_28, rm_29, um_0, um_1, um_2, um_3, um_4, um_5, um_6, um_7, um_8, um_9, um_10, um_11, um_12, um_13, um_14, um_15, um_16, um_17, um_18, um_19, um_20, um_21, um_22, um_23, um_24, um_25, um_26, um_27, um_28, um_29, rm_k, um_k, vu_at, vu_ne, ↓bd c1, c1]
    rfl
  · rw [if_neg q] at c1 ⊢
    refine ⟨V, cl_X6_kinds (.ret ?_), ms_refl V⟩
    rw [sg_X6_kinds_0]
    simp (disch := omega) only [↓reduceIte, i_le, i_nle, i_lt, i_nlt, i_eq, i_ne, and_self, and_true, true_and, and_false, false_and, or_true, true_or, or_false, false_or, nx_of, Int.toNat_natCast, Option.bind_some, rm_0, rm_1, rm_2, rm_3, rm_4, rm_5, rm_6, rm_7, rm_8, rm_9, rm_10, rm_11, rm_12, rm_13, rm_14, rm_15, rm_16, rm_17, rm_18, rm_19, rm_20, rm_21, rm_22, rm_23, rm_24, rm_25, rm_26, rm_27, rm_28, rm_29, um_0, um_1, um_2, um_3, um_4, um_5, um_6, um_7, um_8, um_9, um_10, um_11, um_12, um_13, um_14, um_15, um_16, um_17, um_18, um_19, um_20, um_21, um_22, um_23, um_24, um_25, um_26, um_27, um_28, um_29, rm_k, um_k, vu_at, vu_ne, ↓bd c1, c1]
theorem vAs_veq {V W : nl_O} (h : veq V W) {i : Nat} {a b : Int} : veq (vAs V i a b) (vAs W i a b) := veq_v (veq_v h ⟨by omega, by omega⟩ rfl) ⟨by omega, by omega⟩ rfl
theorem vFa_veq {N : Int} {S V W : nl_O} (hV : vok N V) (h : veq V W) (hS : sok (V 0 0) S) {i : Nat} (hi : (i : Int) < V 0 0) {a b : Int} (ha : 0 ≤ a ∧ a ≤ 3) (hb : 0 ≤ b ∧ b ≤ 40) : vFa S V i a b = vFa S W i a b := by
  unfold vFa
  have z0 : vAs V i a b 0 0 = V 0 0 := by unfold vAs; rw [vu_k (by omega), vu_k (by omega)]
  exact vFs_veq _ _ (vAs_ok hV ha hb) (vAs_veq h) (by rw [z0]; exact hS)
theorem vKi_veq {N : Int} {S V W : nl_O} (hV : vok N V) (h : veq V W) (hS : sok (V 0 0) S) {i : Nat} (hi : (i : Int) < V 0 0) : ∀ (e a B : Nat), a + e ≤ 4 → vKi S V i e a B = vKi S W i e a B := by
  have b5 := (hV.2.2.2.1 i hi).2.2.1
  intro e
  induction e with
  | zero => intro a B _; rfl
  | succ e ih =>
    intro a B ha
    simp only [vKi]
    rw [vFa_veq hV h hS hi (by omega) b5, h.2.1 5 i (by omega) (by omega) hi, ih _ _ (by omega)]
theorem ag_kinds {LS : Int} {n : Nat} (hn : 20 ≤ n) {g : nl_H} (r : rg g) {x : Int} (hx : nl_inR x) : ag LS n m_X5_kinds m_X6_kinds [vI x] g := by
  have hV := vgd_N r.1
  have a2 := r.2.1
  have a5 := r.2.2.2.2.1
  have hW := vok_veq hV a2
  have e0 := a2.1.1
  have hS : sok (g 4 0 0 0) (g 3 0) := by rw [e0]; exact a5.1
  obtain ⟨W, c⟩ := pu_kinds (LS := LS) (n := n) (by omega) (h := g) hx (by omega) hW hS
  obtain ⟨U, m, s⟩ := sq_kinds (LS := LS) (n := n) (by omega) (h := so g 4 1 W) hx (by omega) hV r.1.2.1 a5
  refine ag_of rfl c (so_ne (by omega)) m ?_ (rl_ms (rl_so r (by omega)) s)
  by_cases q : 0 ≤ x ∧ x < mv (g 6 0) 0 0
  · rw [if_pos q, if_pos (by omega), vKi_veq hW a2 hS (i := x.toNat) (by omega) 4 0 0 (by omega)]
  · rw [if_neg q, if_neg (by omega)]
theorem lp_strengths6 {LS : Int} {n : Nat} (hn : 7 ≤ n) {h : nl_H} {N : Int} {S V : nl_O} {i : Nat} {y : Int} (hy : y = 0 ∨ y = 1) (hN : N ≤ 70000) (hV : vok N V) (hI : vinj V) (hS : rse S V) (hi : (i : Int) < V 0 0) : ∀ (e : Nat) (x : Int) (g : Int × Int) (W : nl_O) (w7 : Option nl_V), ms (vu W 5 i (V 5 i)) V → x + 1 = e → e ≤ 41 → ∃ U, nl_Rn LS cd_X6_strengths (nl_c LS n) ct_X6_strengths 1 37 [some (vO 6 0), some (vI (i : Int)), some (vI y), some (vI (V 5 i)), some (vI g.1), some (vI g.2), some (vI x), w7] (sm h W) (if y = 0 then (vSt S V i e g).1 else (vSt S V i e g).2, sm h U) ∧ ms U V := by
  have h0 := hV.1
  have b4 := (hV.2.2.2.1 i hi).2.1
  have b5 := (hV.2.2.2.1 i hi).2.2.1
  intro e
  induction e with
  | zero =>
    intro x g W w7 hW hx he
    refine ⟨vu W 5 i (V 5 i), .ret ?_, hW⟩
    rw [sg_X6_strengths_37]
    simp only [vSt]
    rcases hy with rfl | rfl
    · simp (disch := omega) only [↓reduceIte, i_le, i_nle, i_lt, i_nlt, i_eq, i_ne, and_self, and_true, true_and, and_false, false_and, or_true, true_or, or_false, false_or, nx_of, Int.toNat_natCast, Option.bind_some, rm_0, rm_1, rm_2, rm_3, rm_4, rm_5, rm_6, rm_7, rm_8, rm_9, rm_10, rm_11, rm_12, rm_13, rm_14, rm_15, rm_16, rm_17, rm_18, rm_19, rm_20, rm_21, rm_22, rm_23, rm_24, rm_25, rm_26, rm_27, rm_28, rm_29, um_0, um_1, um_2, um_3, um_4, um_5, um_6, um_7, um_8, um_9, um_10, um_11, um_12, um_13, um_14, um_15, um_16, um_17, um_18, um_19, um_20, um_21, um_22, um_23, um_24, um_25, um_26, um_27, um_28, um_29, rm_k, um_k, vu_at, vu_ne]
    · simp (disch := omega) only [↓reduceIte, i_le, i_nle, i_lt, i_nlt, i_eq, i_ne, and_self, and_true, true_and, and_false, false_and, or_true, true_or, or_false, false_or, nx_of, Int.toNat_natCast, Option.bind_some, rm_0, rm_1, rm_2, rm_3, rm_4, rm_5, rm_6, rm_7, rm_8, rm_9, rm_10, rm_11, rm_12, rm_13, rm_14, rm_15, rm_16, rm_17, rm_18, rm_19, rm_20, rm_21, rm_22, rm_23, rm_24, rm_25, rm_26, rm_27, rm_28, rm_29, um_0, um_1, um_2, um_3, um_4, um_5, um_6, um_7, um_8, um_9, um_10, um_11, um_12, um_13, um_14, um_15, um_16, um_17, um_18, um_19, um_20, um_21, um_22, um_23, um_24, um_25, um_26, um_27, um_28, um_29, rm_k, um_k, vu_at, vu_ne]
  | succ e ih =>
    intro x g W w7 hW hx he
    obtain rfl : x = (e : Int) := by omega
    have m0 := ms_vu hW (k := 5) (i := i) (x := (e : Int)) ⟨by omega, by omega⟩
    rw [vu_vu] at m0
    have hA := vAs_ok (i := i) (a := V 4 i) (b := (e : Int)) hV b4 (by omega)
    rw [vAs_s] at hA
    have hU := vok_veq hA m0.1
    have iA : vinj (vu V 5 i (e : Int)) := vinj_o hI (vu_k (by omega)) fun j => vu_k (by omega)
    have z0 : vu W 5 i (e : Int) 0 0 = V 0 0 := by rw [m0.1.1.1]; exact vu_k (by omega)
    have hR : rse S (vu W 5 i (e : Int)) := rse_same hS z0 fun k j h1 h2 => by rw [m0.2 k j (by omega), vu_k (by omega)]
    obtain ⟨U, c1, s1⟩ := sq_isSo (LS := LS) (n := n) hn (h := h) (S := S) (V := vu W 5 i (e : Int)) hN hU (vinj_veq iA m0.1) hR
    have hsok : sok (vu W 5 i (e : Int) 0 0) S := by rw [z0]; exact hS.1
    rw [vFs_veq 21 0 hU m0.1 hsok, vFs_21 hS.1 i (V 4 i) (e : Int) vAs_s] at c1
    have m1 := ms_vu s1 (k := 5) (i := i) (x := V 5 i) ⟨by omega, by omega⟩
    rw [vu_vu] at m1
    have m2 := ms_trans m1 hW
    have ed : (e : Int) + (-1) = (e : Int) - 1 := by omega
    have fi : vFa S V i (V 4 i) (e : Int) = 0 ∨ vFa S V i (V 4 i) (e : Int) = 1 := vFs_in _ _ _ _
    by_cases q : vFa S V i (V 4 i) (e : Int) = 0
    · have es : vSt S V i (e + 1) g = vSt S V i e g := by simp only [vSt]; rw [if_pos q]
      rw [es]
      rw [q] at c1
      obtain ⟨Y, k9, k8⟩ := ih ((e : Int) - 1) g U (some (vI 0)) m2 (by omega) (by omega)
      refine ⟨Y, .go ?_ k9, k8⟩
      rw [sg_X6_strengths_37]
      simp (disch := omega) only [↓reduceIte, i_le, i_nle, i_lt, i_nlt, i_eq, i_ne, and_self, and_true, true_and, and_false, false_and, or_true, true_or, or_false, false_or, nx_of, Int.toNat_natCast, Option.bind_some, rm_0, rm_1, rm_2, rm_3, rm_4, rm_5, rm_6, rm_7, rm_8, rm_9, rm_10, rm_11, rm_12, rm_13, rm_14, rm_15, rm_16, rm_17, rm_18, rm_19, rm_20, rm_21, rm_22, rm_23, rm_24, rm_25, rm_26, rm_27, rm_28, rm_29, um_0, um_1, um_2, um_3, um_4, um_5, um_6, um_7, um_8, um_9, um_10, um_11, um_12, um_13, um_14, um_15, um_16, um_17, um_18, um_19, um_20, um_21, um_22, um_23, um_24, um_25, um_26, um_27, um_28, um_29, rm_k, um_k, vu_at, vu_ne, ↓bd c1, c1, ed, Int.add_zero]
    · have es : vSt S V i (e + 1) g = vSt S V i e (g.1 + 1, (e : Int)) := by simp only [vSt]; rw [if_neg q]
      rw [es]
      rw [show vFa S V i (V 4 i) (e : Int) = 1 by omega] at c1
      obtain ⟨Y, k9, k8⟩ := ih ((e : Int) - 1) (g.1 + 1, (e : Int)) U (some (vI 1)) m2 (by omega) (by omega)
      refine ⟨Y, .go ?_ k9, k8⟩
      rw [sg_X6_strengths_37]
      simp (disch := omega) only [↓reduceIte, i_le, i_nle, i_lt, i_nlt, i_eq, i_ne, and_self, and_true, true_and, and_false, false_and, or_true, true_or, or_false, false_or, nx_of, Int.toNat_natCast, Option.bind_some, rm_0, rm_1, rm_2, rm_3, rm_4, rm_5, rm_6, rm_7, rm_8, rm_9, rm_10, rm_11, rm_12, rm_13, rm_14, rm_15, rm_16, rm_17, rm_18, rm_19, rm_20, rm_21, rm_22, rm_23, rm_24, rm_25, rm_26, rm_27, rm_28, rm_29, um_0, um_1, um_2, um_3, um_4, um_5, um_6, um_7, um_8, um_9, um_10, um_11, um_12, um_13, um_14, um_15, um_16, um_17, um_18, um_19, um_20, um_21, um_22, um_23, um_24, um_25, um_26, um_27, um_28, um_29, rm_k, um_k, vu_at, vu_ne, ↓bd c1, c1, ed]
theorem sq_strengths {LS : Int} {n : Nat} (hn : 8 ≤ n) {h : nl_H} {S V : nl_O} {x y N : Int} (hx : nl_inR x) (hy : nl_inR y) (hN : N ≤ 70000) (hV : vok N V) (hI : vinj V) (hS : rse S V) : ∃ U, nl_c LS n m_X6_strengths [vO 6 0, vI x, vI y] (sm h V) = some (rStrengths S V x y, sm h U) ∧ ms U V := by
  obtain ⟨n, rfl, hn1⟩ := nl_suc hn
  have h0 := hV.1
  have c1 := sq_isOne (LS := LS) (n := n) (by omega) (h := h) (V := V) hx (by omega)
  have c2 := sq_in (LS := LS) (n := n) (by omega) (h := sm h V) (x := y) (a := 0) (b := 1) hy (by omega) (by omega)
  obtain ⟨hx1, hx2⟩ := hx
  obtain ⟨hy1, hy2⟩ := hy
  unfold rStrengths
  by_cases q : 0 ≤ x ∧ x < V 0 0
  · rw [if_pos q] at c1
    by_cases q2 : 0 ≤ y ∧ y ≤ 1
    · rw [if_pos q2] at c2
      rw [if_pos ⟨q, q2⟩]
      obtain ⟨i, rfl⟩ : ∃ i : Nat, x = i := ⟨x.toNat, by omega⟩
      rw [Int.toNat_natCast]
      obtain ⟨U, k9, k8⟩ := lp_strengths6 (LS := LS) hn1 (h := h) (y := y) (by omega) hN hV hI hS q.2 41 40 (0, -4) V none (by rw [vu_self]; exact ms_refl V) (by omega) (by omega)
      refine ⟨U, cl_X6_strengths (.go ?_ k9), k8⟩
      rw [sg_X6_strengths_0]
      simp (disch := omega) only [↓reduceIte, i_le, i_nle, i_lt, i_nlt, i_eq, i_ne, and_self, and_true, true_and, and_false, false_and, or_true, true_or, or_false, false_or, nx_of, Int.toNat_natCast, Option.bind_some, rm_0, rm_1, rm_2, rm_3, rm_4, rm_5, rm_6, rm_7, rm_8, rm_9, rm_10, rm_11, rm_12, rm_13, rm_14, rm_15, rm_16, rm_17, rm_18, rm_19, rm_20, rm_21, rm_22, rm_23, rm_24, rm_25, rm_26, rm_27, rm_28, rm_29, um_0, um_1, um_2, um_3, um_4, um_5, um_6, um_7, um_8, um_9, um_10, um_11, um_12, um_13, um_14, um_15, um_16, um_17, um_18, um_19, um_20, um_21, um_22, um_23, um_24, um_25, um_26, um_27, um_28, um_29, rm_k, um_k, vu_at, vu_ne, ↓bd c1, ↓bd c2, c1, c2]
    · rw [if_neg q2] at c2
      rw [if_neg (by omega)]
      refine ⟨V, cl_X6_strengths (.ret ?_), ms_refl V⟩
      rw [sg_X6_strengths_0]
      simp (disch := omega) only [↓reduceIte, i_le, i_nle, i_lt, i_nlt, i_eq, i_ne, and_self, and_true, true_and, and_false, false_and, or_true, true_or, or_false, false_or, nx_of, Int.toNat_natCast, Option.bind_some, rm_0, rm_1, rm_2, rm_3, rm_4, rm_5, rm_6, rm_7, rm_8, rm_9, rm_10, rm_11, rm_12, rm_13, rm_14, rm_15, rm_16, rm_17, rm_18, rm_19, rm_20, rm_21, rm_22, rm_23, rm_24, rm_25, rm_26, rm_27, rm_28, rm_29, um_0, um_1, um_2, um_3, um_4, um_5, um_6, um_7, um_8, um_9, um_10, um_11, um_12, um_13, um_14, um_15, um_16, um_17, um_18, um_19, um_20, um_21, um_22, um_23, um_24, um_25, um_26, um_27, um_28, um_29, rm_k, um_k, vu_at, vu_ne, ↓bd c1, ↓bd c2, c1, c2]
  · rw [if_neg q] at c1
    rw [if_neg (by omega)]
    refine ⟨V, cl_X6_strengths (.ret ?_), ms_refl V⟩
    rw [sg_X6_strengths_0]
    simp (disch := omega) only [↓reduceIte, i_le, i_nle, i_lt, i_nlt, i_eq, i_ne, and_self, and_true, true_and, and_false, false_and, or_true, true_or, or_false, false_or, nx_of, Int.toNat_natCast, Option.bind_some, rm_0, rm_1, rm_2, rm_3, rm_4, rm_5, rm_6, rm_7, rm_8, rm_9, rm_10, rm_11, rm_12, rm_13, rm_14, rm_15, rm_16, rm_17, rm_18, rm_19, rm_20, rm_21, rm_22, rm_23, rm_24, rm_25, rm_26, rm_27, rm_28, rm_29, um_0, um_1, um_2, um_3, um_4, um_5, um_6, um_7, um_8, um_9, um_10, um_11, um_12, um_13, um_14, um_15, um_16, um_17, um_18, um_19, um_20, um_21, um_22, um_23, um_24, um_25, um_26, um_27, um_28, um_29, rm_k, um_k, vu_at, vu_ne, ↓bd c1, c1]
theorem vSt_veq {N : Int} {S V W : nl_O} (hV : vok N V) (h : veq V W) (hS : sok (V 0 0) S) {i : Nat} (hi : (i : Int) < V 0 0) : ∀ (e : Nat) (g : Int × Int), e ≤ 41 → vSt S V i e g = vSt S W i e g := by
  have b4 := (hV.2.2.2.1 i hi).2.1
  intro e
  induction e with
  | zero => intro g _; rfl
  | succ e ih =>
    intro g he
    simp only [vSt]
    rw [vFa_veq hV h hS hi b4 (by omega), h.2.1 4 i (by omega) (by omega) hi, ih _ (by omega)]
theorem ag_strengths {LS : Int} {n : Nat} (hn : 20 ≤ n) {g : nl_H} (r : rg g) {x y : Int} (hx : nl_inR x) (hy : nl_inR y) : ag LS n m_X5_strengths m_X6_strengths [vI x, vI y] g := by
  have hV := vgd_N r.1
  have a2 := r.2.1
  have a5 := r.2.2.2.2.1
  have hW := vok_veq hV a2
  have e0 := a2.1.1
  have hS : sok (g 4 0 0 0) (g 3 0) := by rw [e0]; exact a5.1
  obtain ⟨W, c⟩ := pu_strengths (LS := LS) (n := n) (by omega) (h := g) hx hy (by omega) hW hS
  obtain ⟨U, m, s⟩ := sq_strengths (LS := LS) (n := n) (by omega) (h := so g 4 1 W) hx hy (by omega) hV r.1.2.1 a5
  refine ag_of rfl c (so_ne (by omega)) m ?_ (rl_ms (rl_so r (by omega)) s)
  unfold rStrengths
  by_cases q : (0 ≤ x ∧ x < mv (g 6 0) 0 0) ∧ 0 ≤ y ∧ y ≤ 1
  · have q' : (0 ≤ x ∧ x < g 4 0 0 0) ∧ 0 ≤ y ∧ y ≤ 1 := by omega
    rw [if_pos q, if_pos q', vSt_veq hW a2 hS (i := x.toNat) (by omega) 41 _ (by omega)]
  · have q' : ¬ ((0 ≤ x ∧ x < g 4 0 0 0) ∧ 0 ≤ y ∧ y ≤ 1) := by omega
    rw [if_neg q, if_neg q']
