/-! Both answer alike: what was seen. -/
theorem vinj_pass {N : Int} {V : nl_O} (hV : vok N V) (hI : vinj V) (d : Nat) : vinj (vPass d V) :=
  vinj_o (V := (vNights d V).1) (vinj_nights d hV hI) (by unfold vPass; rw [vu_k (by omega)]) (fun i => by unfold vPass; rw [vu_k (by omega)])
theorem gap_bit {N : Int} {V : nl_O} (hV : vok N V) (hI : vinj V) {b : Nat} (hb : (b : Int) < V 0 0) : ((mGs V (vN V) 0 0 / 2 ^ b &&& 1 : Nat) : Int) = vGap V b := by
  have e := vN_eq hV
  have g := vGap_in V b
  have t := vGs_tb (V := V) (b := b) (vN V) 0 0
  rw [bt_z, mGs_eq hV hI]
  by_cases q : vGap V b = 1
  · rw [if_pos (t.mpr (.inr ⟨by omega, by omega, q⟩)), q]
  · rw [if_neg (fun z => by
      rcases t.mp z with p | p
      · rw [Nat.zero_testBit] at p; cases p
      · exact q p.2.2)]
    omega
theorem mGs_lt {N : Int} {V : nl_O} (hV : vok N V) : ∀ (e i B : Nat), (i : Int) + e ≤ V 0 0 → B < 128 → mGs V e i B < 128 := by
  have h0 := hV.1
  intro e
  induction e with
  | zero => intro i B _ h; exact h
  | succ e ih =>
    intro i B hi hB
    have b8 := (hV.2.2.2.1 i (by omega)).2.2.2.2.2.1
    simp only [mGs]
    refine ih (i + 1) _ (by omega) ?_
    split
    · exact hB
    · exact bo_lt hB (by omega)
theorem lp_isSoI {LS : Int} {n : Nat} (hn : 5 ≤ n) {h : nl_H} {N : Int} {S W : nl_O} {t : Nat} {r : Int × nl_H} (hN : N ≤ 90000) (hV : vok N W) (hI : vinj W) (hS : rse S W) (ht : t ≤ 20) : ∀ (d k : Nat) (so : Int), (so = 0 ∨ so = 1) → (k : Int) + d = S 3 0 →
    nl_Rn LS cd_X6_isSo (nl_c LS n) ct_X6_isSo 3 8 [some (vO 6 0), some (vI (if so = 0 then 0 else vFit S W (t : Int) d k)), some (vI ((t : Int) + 1)), some (vI ((mGs W (vN W) 0 0 : Nat) : Int)), some (vI ((k + d : Nat) : Int))] (sm h (vPass 1 W)) r →
    nl_Rn LS cd_X6_isSo (nl_c LS n) ct_X6_isSo 3 22 [some (vO 6 0), some (vI so), some (vI (t : Int)), some (vI ((mGs W (vN W) 0 0 : Nat) : Int)), some (vI (k : Int))] (sm h W) r := by
  have h0 := hV.1
  have h11 := hS.2.1
  have s6 := hS.1.1
  have e := vN_eq hV
  have hB := mGs_lt hV (vN W) 0 0 (by omega) (by omega)
  intro d
  induction d with
  | zero =>
    intro k so hso hk kk
    have c1 := sq_passes (LS := LS) (n := n) hn (h := h) (V := W) (N := N) (by omega) hV
    have es : (if so = 0 then 0 else vFit S W (t : Int) 0 k) = so := by
      simp only [vFit]
      split <;> omega
    rw [es] at kk
    refine .go ?_ kk
    rw [sg_X6_isSo_22]
    simp (disch := omega) only [↓reduceIte, i_le, i_nle, i_lt, i_nlt, i_eq, i_ne, and_self, and_true, true_and, and_false, false_and, or_true, true_or, or_false, false_or, nx_of, Int.toNat_natCast, Option.bind_some, rm_0, rm_1, rm_2, rm_3, rm_4, rm_5, rm_6, rm_7, rm_8, rm_9, rm_10, rm_11, rm_12, rm_13, rm_14, rm_15, rm_16, rm_17, rm_18, rm_19, rm_20, rm_21, rm_22, rm_23, rm_24, rm_25, rm_26, rm_27, rm_28, rm_29, um_0, um_1, um_2, um_3, um_4, um_5, um_6, um_7, um_8, um_9, um_10, um_11, um_12, um_13, um_14, um_15, um_16, um_17, um_18, um_19, um_20, um_21, um_22, um_23, um_24, um_25, um_26, um_27, um_28, um_29, rm_k, um_k, vu_at, vu_ne, ↓bd c1, c1]
    rfl
  | succ d ih =>
    intro k so hso hk kk
    have a1 := hS.1.2 k (by omega)
    have a2 := hS.2.2 k (by omega)
    obtain ⟨b, hb⟩ : ∃ b : Nat, S 1 k = b := ⟨(S 1 k).toNat, by omega⟩
    have gb := gap_bit hV hI (b := b) (by omega)
    have gi := vGap_in W b
    have z1 : (1 : Int).toNat = 1 := rfl
    have p9 : (0 : Int) ≤ ((mGs W (vN W) 0 0 / 2 ^ b : Nat) : Int) := Int.natCast_nonneg _
    have e13 : W 13 k = (b : Int) := by omega
    have e12 : W 12 k = S 0 k := a2.1
    have e14 : W 14 k = S 2 k := a2.2.2
    rw [show k + (d + 1) = k + 1 + d by omega] at kk
    rcases hso with rfl | rfl
    · rw [if_pos rfl] at kk
      refine .go ?_ (ih (k + 1) 0 (.inl rfl) (by omega) (by rw [if_pos rfl]; exact kk))
      rw [sg_X6_isSo_22]
      simp (disch := omega) only [↓reduceIte, i_le, i_nle, i_lt, i_nlt, i_eq, i_ne, and_self, and_true, true_and, and_false, false_and, or_true, true_or, or_false, false_or, nx_of, Int.toNat_natCast, Option.bind_some, rm_0, rm_1, rm_2, rm_3, rm_4, rm_5, rm_6, rm_7, rm_8, rm_9, rm_10, rm_11, rm_12, rm_13, rm_14, rm_15, rm_16, rm_17, rm_18, rm_19, rm_20, rm_21, rm_22, rm_23, rm_24, rm_25, rm_26, rm_27, rm_28, rm_29, um_0, um_1, um_2, um_3, um_4, um_5, um_6, um_7, um_8, um_9, um_10, um_11, um_12, um_13, um_14, um_15, um_16, um_17, um_18, um_19, um_20, um_21, um_22, um_23, um_24, um_25, um_26, um_27, um_28, um_29, rm_k, um_k, vu_at, vu_ne]
      rfl
    · rw [if_neg (by omega)] at kk
      by_cases q1 : S 0 k = (t : Int)
      · by_cases q2 : vGap W b = S 2 k
        · have ef : vFit S W (t : Int) (d + 1) k = vFit S W (t : Int) d (k + 1) := by
            simp only [vFit]
            rw [if_pos q1, hb, Int.toNat_natCast, if_pos q2]
          rw [ef] at kk
          refine .go ?_ (ih (k + 1) 1 (.inr rfl) (by omega) (by rw [if_neg (by omega)]; exact kk))
          rw [sg_X6_isSo_22]
          simp (disch := omega) only [↓reduceIte, i_le, i_nle, i_lt, i_nlt, i_eq, i_ne, and_self, and_true, true_and, and_false, false_and, or_true, true_or, or_false, false_or, nx_of, Int.toNat_natCast, Option.bind_some, rm_0, rm_1, rm_2, rm_3, rm_4, rm_5, rm_6, rm_7, rm_8, rm_9, rm_10, rm_11, rm_12, rm_13, rm_14, rm_15, rm_16, rm_17, rm_18, rm_19, rm_20, rm_21, rm_22, rm_23, rm_24, rm_25, rm_26, rm_27, rm_28, rm_29, um_0, um_1, um_2, um_3, um_4, um_5, um_6, um_7, um_8, um_9, um_10, um_11, um_12, um_13, um_14, um_15, um_16, um_17, um_18, um_19, um_20, um_21, um_22, um_23, um_24, um_25, um_26, um_27, um_28, um_29, rm_k, um_k, vu_at, vu_ne, e12, e13, e14, bs_z, z1, gb]
          rfl
        · have ef : vFit S W (t : Int) (d + 1) k = 0 := by
            simp only [vFit]
            rw [if_pos q1, hb, Int.toNat_natCast, if_neg q2]
          rw [ef] at kk
          refine .go ?_ (ih (k + 1) 0 (.inl rfl) (by omega) (by rw [if_pos rfl]; exact kk))
          rw [sg_X6_isSo_22]
          simp (disch := omega) only [↓reduceIte, i_le, i_nle, i_lt, i_nlt, i_eq, i_ne, and_self, and_true, true_and, and_false, false_and, or_true, true_or, or_false, false_or, nx_of, Int.toNat_natCast, Option.bind_some, rm_0, rm_1, rm_2, rm_3, rm_4, rm_5, rm_6, rm_7, rm_8, rm_9, rm_10, rm_11, rm_12, rm_13, rm_14, rm_15, rm_16, rm_17, rm_18, rm_19, rm_20, rm_21, rm_22, rm_23, rm_24, rm_25, rm_26, rm_27, rm_28, rm_29, um_0, um_1, um_2, um_3, um_4, um_5, um_6, um_7, um_8, um_9, um_10, um_11, um_12, um_13, um_14, um_15, um_16, um_17, um_18, um_19, um_20, um_21, um_22, um_23, um_24, um_25, um_26, um_27, um_28, um_29, rm_k, um_k, vu_at, vu_ne, e12, e13, e14, bs_z, z1, gb]
          rfl
      · have ef : vFit S W (t : Int) (d + 1) k = vFit S W (t : Int) d (k + 1) := by
          simp only [vFit]
          rw [if_neg q1]
        rw [ef] at kk
        refine .go ?_ (ih (k + 1) 1 (.inr rfl) (by omega) (by rw [if_neg (by omega)]; exact kk))
        rw [sg_X6_isSo_22]
        simp (disch := omega) only [↓reduceIte, i_le, i_nle, i_lt, i_nlt, i_eq, i_ne, and_self, and_true, true_and, and_false, false_and, or_true, true_or, or_false, false_or, nx_of, Int.toNat_natCast, Option.bind_some, rm_0, rm_1, rm_2, rm_3, rm_4, rm_5, rm_6, rm_7, rm_8, rm_9, rm_10, rm_11, rm_12, rm_13, rm_14, rm_15, rm_16, rm_17, rm_18, rm_19, rm_20, rm_21, rm_22, rm_23, rm_24, rm_25, rm_26, rm_27, rm_28, rm_29, um_0, um_1, um_2, um_3, um_4, um_5, um_6, um_7, um_8, um_9, um_10, um_11, um_12, um_13, um_14, um_15, um_16, um_17, um_18, um_19, um_20, um_21, um_22, um_23, um_24, um_25, um_26, um_27, um_28, um_29, rm_k, um_k, vu_at, vu_ne, e12, e13, e14]
        rfl
theorem rse_pass {N : Int} {S W : nl_O} (hV : vok N W) (r : rse S W) (d : Nat) : rse S (vPass d W) := rse_same r (vPass_ok hV).2 fun k i h1 h2 => vPass_hi (by omega) _ _
theorem lp_isSoO {LS : Int} {n : Nat} (hn : 6 ≤ n) {h : nl_H} {S V : nl_O} (h7 : V 0 0 ≤ 7) : ∀ (e t : Nat) {N : Int} {W : nl_O} (so : Int) (w3 w4 : Option nl_V), t + e = 21 → N + 7 * e ≤ 80000 → vok N W → vinj W → rse S W → mk W V → (so = 0 ∨ so = 1) → ∃ U, nl_Rn LS cd_X6_isSo (nl_c LS n) ct_X6_isSo 3 8 [some (vO 6 0), some (vI so), some (vI (t : Int)), w3, w4] (sm h W) (if so = 0 then 0 else vFs S e t W, sm h U) ∧ ms U V := by
  intro e
  induction e with
  | zero =>
    intro t N W so w3 w4 ht hN hV hI hS hk hso
    have c1 := sq_putBack (LS := LS) (n := n) (by omega) (h := h) (V := W)
    have es : (if so = 0 then 0 else vFs S 0 t W) = so := by
      simp only [vFs]
      split <;> omega
    rw [es]
    refine ⟨mTk W 25 0, .ret ?_, mk_back h7 hk⟩
    rw [sg_X6_isSo_8]
    rcases hso with rfl | rfl
    · simp (disch := omega) only [↓reduceIte, i_le, i_nle, i_lt, i_nlt, i_eq, i_ne, and_self, and_true, true_and, and_false, false_and, or_true, true_or, or_false, false_or, nx_of, Int.toNat_natCast, Option.bind_some, rm_0, rm_1, rm_2, rm_3, rm_4, rm_5, rm_6, rm_7, rm_8, rm_9, rm_10, rm_11, rm_12, rm_13, rm_14, rm_15, rm_16, rm_17, rm_18, rm_19, rm_20, rm_21, rm_22, rm_23, rm_24, rm_25, rm_26, rm_27, rm_28, rm_29, um_0, um_1, um_2, um_3, um_4, um_5, um_6, um_7, um_8, um_9, um_10, um_11, um_12, um_13, um_14, um_15, um_16, um_17, um_18, um_19, um_20, um_21, um_22, um_23, um_24, um_25, um_26, um_27, um_28, um_29, rm_k, um_k, vu_at, vu_ne, ↓bd c1, c1]
    · simp (disch := omega) only [↓reduceIte, i_le, i_nle, i_lt, i_nlt, i_eq, i_ne, and_self, and_true, true_and, and_false, false_and, or_true, true_or, or_false, false_or, nx_of, Int.toNat_natCast, Option.bind_some, rm_0, rm_1, rm_2, rm_3, rm_4, rm_5, rm_6, rm_7, rm_8, rm_9, rm_10, rm_11, rm_12, rm_13, rm_14, rm_15, rm_16, rm_17, rm_18, rm_19, rm_20, rm_21, rm_22, rm_23, rm_24, rm_25, rm_26, rm_27, rm_28, rm_29, um_0, um_1, um_2, um_3, um_4, um_5, um_6, um_7, um_8, um_9, um_10, um_11, um_12, um_13, um_14, um_15, um_16, um_17, um_18, um_19, um_20, um_21, um_22, um_23, um_24, um_25, um_26, um_27, um_28, um_29, rm_k, um_k, vu_at, vu_ne, ↓bd c1, c1]
  | succ e ih =>
    intro t N W so w3 w4 ht hN hV hI hS hk hso
    have h0 := hV.1
    have s6 := hS.1.1
    have hp := vPass_ok (d := 1) hV
    have c1 := sq_gapSet (LS := LS) (n := n) (by omega) (h := h) (V := W) (N := N) (by omega) hV
    have fi := vFit_in S W (t : Int) (S 3 0).toNat 0
    have hso' : (if so = 0 then 0 else vFit S W (t : Int) (S 3 0).toNat 0) = 0 ∨ (if so = 0 then 0 else vFit S W (t : Int) (S 3 0).toNat 0) = 1 := by
      split
      · exact .inl rfl
      · exact fi
    obtain ⟨U, k9, k8⟩ := ih (t + 1) (N := N + 7) (W := vPass 1 W) (if so = 0 then 0 else vFit S W (t : Int) (S 3 0).toNat 0) (some (vI ((mGs W (vN W) 0 0 : Nat) : Int))) (some (vI ((0 + (S 3 0).toNat : Nat) : Int))) (by omega) (by omega) (vok_up hp.1 (by omega)) (vinj_pass hV hI 1) (rse_pass hV hS 1) (mk_pass hk 1) hso'
    have ee : (if (if so = 0 then 0 else vFit S W (t : Int) (S 3 0).toNat 0) = 0 then 0 else vFs S e (t + 1) (vPass 1 W)) = (if so = 0 then 0 else vFs S (e + 1) t W) := by
      by_cases q : so = 0
      · rw [if_pos q, if_pos rfl, if_pos q]
      · rw [if_neg q, if_neg q]
        rfl
    rw [ee] at k9
    have k7 := lp_isSoI (LS := LS) (n := n) (by omega) (h := h) (t := t) (r := (if so = 0 then 0 else vFs S (e + 1) t W, sm h U)) (N := N) (by omega) hV hI hS (by omega) (S 3 0).toNat 0 so hso (by omega) k9
    refine ⟨U, .go ?_ k7, k8⟩
    rw [sg_X6_isSo_8]
    simp (disch := omega) only [↓reduceIte, i_le, i_nle, i_lt, i_nlt, i_eq, i_ne, and_self, and_true, true_and, and_false, false_and, or_true, true_or, or_false, false_or, nx_of, Int.toNat_natCast, Option.bind_some, rm_0, rm_1, rm_2, rm_3, rm_4, rm_5, rm_6, rm_7, rm_8, rm_9, rm_10, rm_11, rm_12, rm_13, rm_14, rm_15, rm_16, rm_17, rm_18, rm_19, rm_20, rm_21, rm_22, rm_23, rm_24, rm_25, rm_26, rm_27, rm_28, rm_29, um_0, um_1, um_2, um_3, um_4, um_5, um_6, um_7, um_8, um_9, um_10, um_11, um_12, um_13, um_14, um_15, um_16, um_17, um_18, um_19, um_20, um_21, um_22, um_23, um_24, um_25, um_26, um_27, um_28, um_29, rm_k, um_k, vu_at, vu_ne, ↓bd c1, c1]
    rfl
theorem sq_isSo {LS : Int} {n : Nat} (hn : 7 ≤ n) {h : nl_H} {S V : nl_O} {N : Int} (hN : N ≤ 70000) (hV : vok N V) (hI : vinj V) (hS : rse S V) : ∃ U, nl_c LS n m_X6_isSo [vO 6 0] (sm h V) = some (vFs S 21 0 V, sm h U) ∧ ms U V := by
  obtain ⟨n, rfl, hn1⟩ := nl_suc hn
  have h0 := hV.1
  have c4 := sq_start (LS := LS) (n := n) (by omega) (h := h) (V := V)
  have e0 := mLy_veq (V := V) (k := 25) (a := 0) (by omega)
  have hL := vok_veq hV e0
  obtain ⟨U, k9, k8⟩ := lp_isSoO (LS := LS) hn1 (h := h) (S := S) (V := V) (by omega) 21 0 (N := N) (W := mLy V 25 0) 1 none none (by omega) (by omega) hL (vinj_veq hI e0) (rse_same hS e0.1.1 fun k i _ _ => mLy_o (by omega)) (mk_0 V) (.inr rfl)
  rw [if_neg (by omega), vFs_veq 21 0 hL e0 (by rw [e0.1.1]; exact hS.1)] at k9
  refine ⟨U, cl_X6_isSo (.go ?_ k9), k8⟩
  rw [sg_X6_isSo_0]
  simp (disch := omega) only [↓reduceIte, i_le, i_nle, i_lt, i_nlt, i_eq, i_ne, and_self, and_true, true_and, and_false, false_and, or_true, true_or, or_false, false_or, nx_of, Int.toNat_natCast, Option.bind_some, rm_0, rm_1, rm_2, rm_3, rm_4, rm_5, rm_6, rm_7, rm_8, rm_9, rm_10, rm_11, rm_12, rm_13, rm_14, rm_15, rm_16, rm_17, rm_18, rm_19, rm_20, rm_21, rm_22, rm_23, rm_24, rm_25, rm_26, rm_27, rm_28, rm_29, um_0, um_1, um_2, um_3, um_4, um_5, um_6, um_7, um_8, um_9, um_10, um_11, um_12, um_13, um_14, um_15, um_16, um_17, um_18, um_19, um_20, um_21, um_22, um_23, um_24, um_25, um_26, um_27, um_28, um_29, rm_k, um_k, vu_at, vu_ne, ↓bd c4, c4]
  rfl
theorem vLast_ge {S : nl_O} : ∀ k i : Nat, i < k → S 0 i ≤ vLast S k := by
  intro k
  induction k with
  | zero => intro i hi; omega
  | succ k ih =>
    intro i hi
    simp only [vLast]
    by_cases q : i = k
    · subst q; split <;> omega
    · have := ih i (by omega)
      split <;> omega
theorem vFit_off {S V : nl_O} {x : Int} : ∀ (d i : Nat), (∀ j, i ≤ j → j < i + d → S 0 j ≠ x) → vFit S V x d i = 1 := by
  intro d
  induction d with
  | zero => intro i _; rfl
  | succ d ih =>
    intro i h
    simp only [vFit]
    rw [if_neg (h i (by omega) (by omega))]
    exact ih (i + 1) fun j a b => h j (by omega) (by omega)
theorem vFs_1 {S : nl_O} : ∀ (e t : Nat) (V : nl_O), (∀ i : Nat, (i : Int) < S 3 0 → S 0 i < (t : Int)) → vFs S e t V = 1 := by
  intro e
  induction e with
  | zero => intro t V _; rfl
  | succ e ih =>
    intro t V h
    simp only [vFs]
    rw [vFit_off (S 3 0).toNat 0 (fun j a b => by have := h j (by omega); omega), if_neg (by omega)]
    exact ih (t + 1) _ fun i hi => by have := h i hi; omega
theorem vFs_cut {S : nl_O} : ∀ (a e t : Nat) (V : nl_O), a ≤ e → (∀ i : Nat, (i : Int) < S 3 0 → S 0 i < (t : Int) + a) → vFs S e t V = vFs S a t V := by
  intro a
  induction a with
  | zero => intro e t V _ h; exact vFs_1 e t V fun i hi => by have := h i hi; omega
  | succ a ih =>
    intro e t V he h
    obtain ⟨e, rfl⟩ : ∃ f, e = f + 1 := ⟨e - 1, by omega⟩
    simp only [vFs]
    rw [ih e (t + 1) _ (by omega) fun i hi => by have := h i hi; omega]
theorem vFs_21 {S V W : nl_O} {m : Int} (hS : sok m S) (i : Nat) (a b : Int) (e : vAs V i a b = W) : vFs S 21 0 W = vFa S V i a b := by
  subst e
  unfold vFa
  have s6 := hS.1
  have l := vLast_in hS (S 3 0).toNat (by omega)
  refine vFs_cut _ 21 0 _ (by omega) fun j hj => ?_
  have := vLast_ge (S := S) (S 3 0).toNat j (by omega)
  omega
theorem ms_vu {U W : nl_O} (h : ms U W) {k i : Nat} (hk : 3 ≤ k ∧ k ≤ 9) {x : Int} : ms (vu U k i x) (vu W k i x) :=
  ⟨veq_v h.1 hk rfl, fun k' j hj => by rw [vu_k (by omega), vu_k (by omega)]; exact h.2 k' j hj⟩
