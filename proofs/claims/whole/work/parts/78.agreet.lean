/-! Both answer alike: fault, lay. -/
theorem rn_T {T T' : Nat → Int} {L : Nat} (h : ∀ i, i < L → T i = T' i) (p : Nat) : rn T L p = rn T' L p := by
  unfold rn
  by_cases q : p < L
  · by_cases q2 : p + 1 < L
    · rw [h p q, h (p + 1) q2]
    · rw [h p q]
      by_cases c : p < L ∧ 48 ≤ T' p ∧ T' p ≤ 57
      · rw [if_pos c, if_pos c, if_neg (fun z => q2 z.1), if_neg (fun z => q2 z.1)]
      · rw [if_neg c, if_neg c]
  · rw [if_neg (fun z => q z.1), if_neg (fun z => q z.1)]
theorem pItem_T {T T' : Nat → Int} {L : Nat} (h : ∀ i, i < L → T i = T' i) {p : Nat} (hp : p < L) (hr ho : Int) : pItem T L hr ho p = pItem T' L hr ho p := by
  have e : ∀ (i : Nat) (c : Int), (i < L ∧ T i = c) = (i < L ∧ T' i = c) := fun i c => propext ⟨fun z => ⟨z.1, by rw [← h i z.1]; exact z.2⟩, fun z => ⟨z.1, by rw [h i z.1]; exact z.2⟩⟩
  unfold pItem
  rw [h p hp]
  simp only [rn_T h, e]
theorem pAll_T {T T' : Nat → Int} {L : Nat} (h : ∀ i, i < L → T i = T' i) : ∀ (d p : Nat) (Q : nl_O), pAll T L d p Q = pAll T' L d p Q := by
  intro d
  induction d with
  | zero => intro p Q; rfl
  | succ d ih =>
    intro p Q
    simp only [pAll]
    by_cases q : L ≤ p
    · rw [if_pos q, if_pos q]
    · rw [if_neg q, if_neg q, pItem_T h (by omega)]
      cases pItem T' L (Q 5 0) (Q 6 0) p with
      | none => rfl
      | some r => exact ih _ _
theorem sr_trans {U V W : nl_O} (a : sr U V) (b : sr V W) : sr U W := fun k i h => (a k i h).trans (b k i h)
theorem sr_ms {W V : nl_O} (h : sr W V) : ms W V := ⟨⟨⟨h _ _ (by omega), h _ _ (by omega), h _ _ (by omega)⟩, fun _ _ _ _ _ => h _ _ (by omega), fun _ _ _ _ => h _ _ (by omega)⟩, fun k i hk => h k i (by omega)⟩
theorem lp_fault6 {LS : Int} {n : Nat} (hn : 5 ≤ n) {h : nl_H} {T : Nat → Int} {L : Nat} (hT : tok T L) : ∀ (d p : Nat) (w : Option nl_V) (V Q : nl_O), L ≤ p + d → p ≤ L → V 15 = T → V 16 0 = (L : Int) → V 17 0 = (p : Int) → pok Q → rp V Q → ∃ W, nl_Rn LS cd_X6_fault (nl_c LS n) ct_X6_fault 1 15 [some (vO 6 0), w] (sm h V) (if (pAll T L d p Q).1 = -1 then -4 else (pAll T L d p Q).1, sm h W) ∧ sr W V ∧ ((pAll T L d p Q).1 = -1 → rp W (pAll T L d p Q).2) := by
  have hL := hT.1
  have ex : ∀ (d p : Nat) (w : Option nl_V) (V Q : nl_O), L ≤ p → p ≤ L → V 16 0 = (L : Int) → V 17 0 = (p : Int) → rp V Q → pAll T L d p Q = (-1, Q) → ∃ W, nl_Rn LS cd_X6_fault (nl_c LS n) ct_X6_fault 1 15 [some (vO 6 0), w] (sm h V) (if (pAll T L d p Q).1 = -1 then -4 else (pAll T L d p Q).1, sm h W) ∧ sr W V ∧ ((pAll T L d p Q).1 = -1 → rp W (pAll T L d p Q).2) := by
    intro d p w V Q h1 h2 h16 h17 hR e
    rw [e]
    refine ⟨V, .ret ?_, fun _ _ _ => rfl, fun _ => hR⟩
    rw [sg_X6_fault_15]
    dsimp only
    rw [if_pos rfl]
    simp (disch := omega) only [↓reduceIte, i_le, i_nle, i_lt, i_nlt, i_eq, i_ne, and_self, and_true, true_and, and_false, false_and, or_true, true_or, or_false, false_or, nx_of, Int.toNat_natCast, Option.bind_some, rm_0, rm_1, rm_2, rm_3, rm_4, rm_5, rm_6, rm_7, rm_8, rm_9, rm_10, rm_11, rm_12, rm_13, rm_14, rm_15, rm_16, rm_17, rm_18, rm_19, rm_20, rm_21, rm_22, rm_23, rm_24, rm_25, rm_26, rm_27, rm_28, rm_29, um_0, um_1, um_2, um_3, um_4, um_5, um_6, um_7, um_8, um_9, um_10, um_11, um_12, um_13, um_14, um_15, um_16, um_17, um_18, um_19, um_20, um_21, um_22, um_23, um_24, um_25, um_26, um_27, um_28, um_29, rm_k, um_k, vu_at, vu_ne, h16, h17]
  intro d
  induction d with
  | zero => intro p w V Q h1 h2 h15 h16 h17 hQ hR; exact ex 0 p w V Q (by omega) h2 h16 h17 hR rfl
  | succ d ih =>
    intro p w V Q h1 h2 h15 h16 h17 hQ hR
    by_cases q : L ≤ p
    · exact ex (d + 1) p w V Q q h2 h16 h17 hR (by simp only [pAll]; rw [if_pos q])
    · obtain ⟨W, a, c1, s, ha, r⟩ := sq_readsItem (LS := LS) hn (h := h) (V := V) (Q := Q) (L := L) (p := p) h16 h17 (by omega) (by rw [h15]; exact hT) hQ hR
      unfold rI at r
      rw [h15] at r
      cases hI : pItem T L (Q 5 0) (Q 6 0) p with
      | none =>
        rw [hI] at r
        dsimp only at r
        subst r
        have e : pAll T L (d + 1) p Q = ((p : Int), Q) := by simp only [pAll]; rw [if_neg q, hI]
        rw [e]
        refine ⟨W, .ret ?_, s, fun z => by dsimp only at z; omega⟩
        rw [sg_X6_fault_15]
        dsimp only
        rw [if_neg (show ¬ (p : Int) = -1 by omega)]
        simp (disch := omega) only [↓reduceIte, i_le, i_nle, i_lt, i_nlt, i_eq, i_ne, and_self, and_true, true_and, and_false, false_and, or_true, true_or, or_false, false_or, nx_of, Int.toNat_natCast, Option.bind_some, rm_0, rm_1, rm_2, rm_3, rm_4, rm_5, rm_6, rm_7, rm_8, rm_9, rm_10, rm_11, rm_12, rm_13, rm_14, rm_15, rm_16, rm_17, rm_18, rm_19, rm_20, rm_21, rm_22, rm_23, rm_24, rm_25, rm_26, rm_27, rm_28, rm_29, um_0, um_1, um_2, um_3, um_4, um_5, um_6, um_7, um_8, um_9, um_10, um_11, um_12, um_13, um_14, um_15, um_16, um_17, um_18, um_19, um_20, um_21, um_22, um_23, um_24, um_25, um_26, um_27, um_28, um_29, rm_k, um_k, vu_at, vu_ne, ↓bd c1, c1, h16, h17]
      | some v =>
        obtain ⟨e9, b, x, y, z⟩ := v
        rw [hI] at r
        dsimp only at r
        obtain ⟨rfl, r2, r3⟩ := r
        have hin := pItem_in hI
        have e : pAll T L (d + 1) p Q = pAll T L d e9 (pStep Q b x y z) := by simp only [pAll]; rw [if_neg q, hI]
        rw [e]
        obtain ⟨U, k1, k2, k3⟩ := ih e9 (some (vI (p : Int))) W (pStep Q b x y z) (by omega) (by omega) ((funext fun i => s 15 i (by omega)).trans h15) (by rw [s 16 0 (by omega)]; exact h16) r2 (pok_step hQ hin.2.2.1 hin.2.2.2) r3
        refine ⟨U, .go ?_ k1, sr_trans k2 s, k3⟩
        rw [sg_X6_fault_15]
        simp (disch := omega) only [↓reduceIte, i_le, i_nle, i_lt, i_nlt, i_eq, i_ne, and_self, and_true, true_and, and_false, false_and, or_true, true_or, or_false, false_or, nx_of, Int.toNat_natCast, Option.bind_some, rm_0, rm_1, rm_2, rm_3, rm_4, rm_5, rm_6, rm_7, rm_8, rm_9, rm_10, rm_11, rm_12, rm_13, rm_14, rm_15, rm_16, rm_17, rm_18, rm_19, rm_20, rm_21, rm_22, rm_23, rm_24, rm_25, rm_26, rm_27, rm_28, rm_29, um_0, um_1, um_2, um_3, um_4, um_5, um_6, um_7, um_8, um_9, um_10, um_11, um_12, um_13, um_14, um_15, um_16, um_17, um_18, um_19, um_20, um_21, um_22, um_23, um_24, um_25, um_26, um_27, um_28, um_29, rm_k, um_k, vu_at, vu_ne, ↓bd c1, c1, h16, h17]
theorem sq_fault {LS : Int} {n : Nat} (hn : 6 ≤ n) {h : nl_H} {T : Nat → Int} {V Q : nl_O} {L : Nat} (hT : tok T L) (h15 : ∀ i, i < L → V 15 i = T i) (h16 : V 16 0 = (L : Int)) (hQ5 : Q 5 0 = 0) (hQ6 : Q 6 0 = 0) : ∃ W, nl_c LS n m_X6_fault [vO 6 0] (sm h V) = some (if (pAll T L L 0 Q).1 = -1 then -4 else (pAll T L L 0 Q).1, sm h W) ∧ sr W V ∧ ((pAll T L L 0 Q).1 = -1 → rp W (pAll T L L 0 Q).2) := by
  obtain ⟨n, rfl, hn1⟩ := nl_suc hn
  have hT' : tok (V 15) L := ⟨hT.1, fun i hi => by rw [h15 i hi]; exact hT.2 i hi⟩
  generalize hU : vu (vu (vu V 17 0 0) 18 0 0) 19 0 0 = U
  have uo : ∀ k i : Nat, k ≠ 17 → k ≠ 18 → k ≠ 19 → U k i = V k i := fun k i h1 h2 h3 => by rw [← hU, vu_k h3, vu_k h2, vu_k h1]
  have u17 : U 17 0 = ((0 : Nat) : Int) := by rw [← hU, vu_k (by omega), vu_k (by omega), vu_at]; rfl
  have u18 : U 18 0 = 0 := by rw [← hU, vu_k (by omega), vu_at]
  have u19 : U 19 0 = 0 := by rw [← hU, vu_at]
  obtain ⟨W, k1, k2, k3⟩ := lp_fault6 (LS := LS) hn1 (h := h) hT' L 0 none U Q (by omega) (by omega) (funext fun i => uo 15 i (by omega) (by omega) (by omega)) (by rw [uo 16 0 (by omega) (by omega) (by omega)]; exact h16) u17 ⟨by omega, by omega, fun i hi => by omega, fun i hi => by omega⟩ ⟨by omega, by omega, fun i hi => by omega, fun i hi => by omega⟩
  rw [pAll_T h15] at k1 k3
  refine ⟨W, cl_X6_fault (.go ?_ k1), sr_trans k2 fun k i hk => uo k i (by omega) (by omega) (by omega), k3⟩
  rw [sg_X6_fault_0]
  simp (disch := omega) only [↓reduceIte, i_le, i_nle, i_lt, i_nlt, i_eq, i_ne, and_self, and_true, true_and, and_false, false_and, or_true, true_or, or_false, false_or, nx_of, Int.toNat_natCast, Option.bind_some, rm_0, rm_1, rm_2, rm_3, rm_4, rm_5, rm_6, rm_7, rm_8, rm_9, rm_10, rm_11, rm_12, rm_13, rm_14, rm_15, rm_16, rm_17, rm_18, rm_19, rm_20, rm_21, rm_22, rm_23, rm_24, rm_25, rm_26, rm_27, rm_28, rm_29, um_0, um_1, um_2, um_3, um_4, um_5, um_6, um_7, um_8, um_9, um_10, um_11, um_12, um_13, um_14, um_15, um_16, um_17, um_18, um_19, um_20, um_21, um_22, um_23, um_24, um_25, um_26, um_27, um_28, um_29, rm_k, um_k, vu_at, vu_ne, hU]
theorem ag_fault {LS : Int} {n : Nat} (hn : 20 ≤ n) {g : nl_H} (r : rg g) : ag LS n m_X5_fault m_X6_fault [] g := by
  have r' : rl g (mv (g 6 0)) := r
  obtain ⟨a1, a2, a3, a4, a5, L, t1, t2, t3, t4⟩ := r'
  have q5 : vu (vu (g 1 0) 5 0 0) 6 0 0 5 0 = 0 := by rw [vu_k (by omega), vu_at]
  have q6 : vu (vu (g 1 0) 5 0 0) 6 0 0 6 0 = 0 := vu_at
  have pk : pok (vu (vu (g 1 0) 5 0 0) 6 0 0) := ⟨by omega, by omega, fun i hi => by omega, fun i hi => by omega⟩
  have hF := (pAll_in (g 5 0 0) L L 0 pk).2
  have hL := t3.1
  have hF' : -1 ≤ tF g L ∧ tF g L ≤ 300 := by unfold tF; omega
  obtain ⟨P, c⟩ := pu_fault (LS := LS) (n := n) (by omega) (h := g) t1 t3 hF'
  obtain ⟨W, m, s, -⟩ := sq_fault (LS := LS) (n := n) (by omega) (h := so g 1 0 P) (V := mv (g 6 0)) t3 t4 t2 q5 q6
  exact ag_of rfl c (so_ne (by omega)) m rfl (rl_ms (rl_so r (by omega)) (sr_ms s))
theorem sq_firstHouse {LS : Int} {n : Nat} (hn : 1 ≤ n) {h : nl_H} {V : nl_O} {i : Nat} {a b c d : Int} (h0 : V 0 0 = (i : Int)) (hi : i < 7) : nl_c LS n m_X6_firstHouse [vO 6 0, vI a, vI b, vI c, vI d] (sm h V) = some (0, sm h (vu (vu (vu (vu (vu V 4 i a) 5 i b) 6 i c) 3 i d) 0 0 ((i : Int) + 1))) := by
  obtain ⟨n, rfl, hn1⟩ := nl_suc hn
  refine cl_X6_firstHouse (.ret ?_)
  rw [sg_X6_firstHouse_0]
  simp (disch := omega) only [↓reduceIte, i_le, i_nle, i_lt, i_nlt, i_eq, i_ne, and_self, and_true, true_and, and_false, false_and, or_true, true_or, or_false, false_or, nx_of, Int.toNat_natCast, Option.bind_some, rm_0, rm_1, rm_2, rm_3, rm_4, rm_5, rm_6, rm_7, rm_8, rm_9, rm_10, rm_11, rm_12, rm_13, rm_14, rm_15, rm_16, rm_17, rm_18, rm_19, rm_20, rm_21, rm_22, rm_23, rm_24, rm_25, rm_26, rm_27, rm_28, rm_29, um_0, um_1, um_2, um_3, um_4, um_5, um_6, um_7, um_8, um_9, um_10, um_11, um_12, um_13, um_14, um_15, um_16, um_17, um_18, um_19, um_20, um_21, um_22, um_23, um_24, um_25, um_26, um_27, um_28, um_29, rm_k, um_k, vu_at, vu_ne, h0]
/-- a valley begun -/
def bg (Y V : nl_O) : Prop := Y 1 0 = 0 ∧ Y 2 0 = 0 ∧ (∀ i, i < 7 → Y 8 i = (i : Int) ∧ Y 7 i = 0 ∧ Y 9 i = 0) ∧ (∀ i, i < 49 → Y 10 i = 0) ∧ ∀ k i : Nat, (k = 0 ∨ (3 ≤ k ∧ k ≤ 6) ∨ 10 < k) → Y k i = V k i
theorem lp_begin2 {LS : Int} {den : nl_D} {h : nl_H} : ∀ (d j : Nat) (V : nl_O), j + d = 49 → (∀ i, i < j → V 10 i = 0) → ∃ Y, nl_Rn LS cd_X6_begin den ct_X6_begin 0 47 [some (vO 6 0), some (vI (j : Int))] (sm h V) (0, sm h Y) ∧ (∀ i, i < 49 → Y 10 i = 0) ∧ ∀ k i : Nat, k ≠ 10 → Y k i = V k i := by
  intro d
  induction d with
  | zero =>
    intro j V hj hz
    obtain rfl : j = 49 := by omega
    refine ⟨V, .ret ?_, hz, fun _ _ _ => rfl⟩
    rw [sg_X6_begin_47]
    simp (disch := omega) only [↓reduceIte, i_le, i_nle, i_lt, i_nlt, i_eq, i_ne, and_self, and_true, true_and, and_false, false_and, or_true, true_or, or_false, false_or, nx_of, Int.toNat_natCast, Option.bind_some, rm_0, rm_1, rm_2, rm_3, rm_4, rm_5, rm_6, rm_7, rm_8, rm_9, rm_10, rm_11, rm_12, rm_13, rm_14, rm_15, rm_16, rm_17, rm_18, rm_19, rm_20, rm_21, rm_22, rm_23, rm_24, rm_25, rm_26, rm_27, rm_28, rm_29, um_0, um_1, um_2, um_3, um_4, um_5, um_6, um_7, um_8, um_9, um_10, um_11, um_12, um_13, um_14, um_15, um_16, um_17, um_18, um_19, um_20, um_21, um_22, um_23, um_24, um_25, um_26, um_27, um_28, um_29, rm_k, um_k, vu_at, vu_ne]
  | succ d ih =>
    intro j V hj hz
    obtain ⟨Y, k1, k2, k3⟩ := ih (j + 1) (vu V 10 j 0) (by omega) fun i hi => by
      by_cases w : i = j
      · subst w; exact vu_at
      · rw [vu_ne (by omega)]; exact hz i (by omega)
    refine ⟨Y, .go ?_ k1, k2, fun k i hk => by rw [k3 k i hk, vu_k hk]⟩
    rw [sg_X6_begin_47]
    simp (disch := omega) only [↓reduceIte, i_le, i_nle, i_lt, i_nlt, i_eq, i_ne, and_self, and_true, true_and, and_false, false_and, or_true, true_or, or_false, false_or, nx_of, Int.toNat_natCast, Option.bind_some, rm_0, rm_1, rm_2, rm_3, rm_4, rm_5, rm_6, rm_7, rm_8, rm_9, rm_10, rm_11, rm_12, rm_13, rm_14, rm_15, rm_16, rm_17, rm_18, rm_19, rm_20, rm_21, rm_22, rm_23, rm_24, rm_25, rm_26, rm_27, rm_28, rm_29, um_0, um_1, um_2, um_3, um_4, um_5, um_6, um_7, um_8, um_9, um_10, um_11, um_12, um_13, um_14, um_15, um_16, um_17, um_18, um_19, um_20, um_21, um_22, um_23, um_24, um_25, um_26, um_27, um_28, um_29, rm_k, um_k, vu_at, vu_ne]
    rfl
theorem sq_begin {LS : Int} {n : Nat} (hn : 1 ≤ n) {h : nl_H} {V : nl_O} : ∃ Y, nl_c LS n m_X6_begin [vO 6 0] (sm h V) = some (0, sm h Y) ∧ bg Y V := by
  obtain ⟨n, rfl, hn1⟩ := nl_suc hn
  generalize hU : vu (vu V 1 0 0) 2 0 0 = U
  -- the first loop's end, written out
  have ey : ∃ Z : nl_O, (∀ i, i < 7 → Z 8 i = (i : Int) ∧ Z 7 i = 0 ∧ Z 9 i = 0) ∧ (∀ k i : Nat, k ≠ 7 → k ≠ 8 → k ≠ 9 → Z k i = U k i) ∧ ∀ r, nl_Rn LS cd_X6_begin (nl_c LS n) ct_X6_begin 0 47 [some (vO 6 0), some (vI 0)] (sm h Z) r → nl_Rn LS cd_X6_begin (nl_c LS n) ct_X6_begin 0 12 [some (vO 6 0), some (vI ((0 : Nat) : Int))] (sm h U) r := by
    have st : ∀ (d j : Nat) (U : nl_O), j + d = 7 → (∀ i, i < j → U 8 i = (i : Int) ∧ U 7 i = 0 ∧ U 9 i = 0) → ∃ Z : nl_O, (∀ i, i < 7 → Z 8 i = (i : Int) ∧ Z 7 i = 0 ∧ Z 9 i = 0) ∧ (∀ k i : Nat, k ≠ 7 → k ≠ 8 → k ≠ 9 → Z k i = U k i) ∧ ∀ r, nl_Rn LS cd_X6_begin (nl_c LS n) ct_X6_begin 0 47 [some (vO 6 0), some (vI 0)] (sm h Z) r → nl_Rn LS cd_X6_begin (nl_c LS n) ct_X6_begin 0 12 [some (vO 6 0), some (vI (j : Int))] (sm h U) r := by
      intro d
      induction d with
      | zero =>
        intro j U hj hz
        obtain rfl : j = 7 := by omega
        refine ⟨U, hz, fun _ _ _ _ _ => rfl, fun r kk => .go ?_ kk⟩
        rw [sg_X6_begin_12]
        simp (disch := omega) only [↓reduceIte, i_le, i_nle, i_lt, i_nlt, i_eq, i_ne, and_self, and_true, true_and, and_false, false_and, or_true, true_or, or_false, false_or, nx_of, Int.toNat_natCast, Option.bind_some, rm_0, rm_1, rm_2, rm_3, rm_4, rm_5, rm_6, rm_7, rm_8, rm_9, rm_10, rm_11, rm_12, rm_13, rm_14, rm_15, rm_16, rm_17, rm_18, rm_19, rm_20, rm_21, rm_22, rm_23, rm_24, rm_25, rm_26, rm_27, rm_28, rm_29, um_0, um_1, um_2, um_3, um_4, um_5, um_6, um_7, um_8, um_9, um_10, um_11, um_12, um_13, um_14, um_15, um_16, um_17, um_18, um_19, um_20, um_21, um_22, um_23, um_24, um_25, um_26, um_27, um_28, um_29, rm_k, um_k, vu_at, vu_ne]
      | succ d ih =>
        intro j U hj hz
        obtain ⟨Z, z1, z2, z3⟩ := ih (j + 1) (vu (vu (vu U 8 j (j : Int)) 7 j 0) 9 j 0) (by omega) fun i hi => by
          by_cases w : i = j
          · subst w
            rw [vu_k (show 8 ≠ 9 by omega), vu_k (show 8 ≠ 7 by omega), vu_at, vu_k (show 7 ≠ 9 by omega), vu_at, vu_at]
            exact ⟨rfl, rfl, rfl⟩
          · have := hz i (by omega)
            rw [vu_k (show 8 ≠ 9 by omega), vu_k (show 8 ≠ 7 by omega), vu_ne (by omega), vu_k (show 7 ≠ 9 by omega), vu_ne (by omega), vu_k (show 7 ≠ 8 by omega), vu_ne (by omega), vu_k (show 9 ≠ 7 by omega), vu_k (show 9 ≠ 8 by omega)]
            exact this
        refine ⟨Z, z1, fun k i k1 k2 k3 => by rw [z2 k i k1 k2 k3, vu_k k3, vu_k k1, vu_k k2], fun r kk => .go ?_ (z3 r kk)⟩
        rw [sg_X6_begin_12]
        simp (disch := omega) only [↓reduceIte, i_le, i_nle, i_lt, i_nlt, i_eq, i_ne, and_self, and_true, true_and, and_false, false_and, or_true, true_or, or_false, false_or, nx_of, Int.toNat_natCast, Option.bind_some, rm_0, rm_1, rm_2, rm_3, rm_4, rm_5, rm_6, rm_7, rm_8, rm_9, rm_10, rm_11, rm_12, rm_13, rm_14, rm_15, rm_16, rm_17, rm_18, rm_19, rm_20, rm_21, rm_22, rm_23, rm_24, rm_25, rm_26, rm_27, rm_28, rm_29, um_0, um_1, um_2, um_3, um_4, um_5, um_6, um_7, um_8, um_9, um_10, um_11, um_12, um_13, um_14, um_15, um_16, um_17, um_18, um_19, um_20, um_21, um_22, um_23, um_24, um_25, um_26, um_27, um_28, um_29, rm_k, um_k, vu_at, vu_ne]
        rfl
    exact st 7 0 U (by omega) fun i hi => by omega
  obtain ⟨Z, z1, z2, z3⟩ := ey
  obtain ⟨Y, k1, k2, k3⟩ := lp_begin2 (LS := LS) (den := nl_c LS n) (h := h) 49 0 Z (by omega) fun i hi => by omega
  refine ⟨Y, cl_X6_begin (.go ?_ (z3 _ k1)), ?_, ?_, fun i hi => ?_, k2, fun k i hk => ?_⟩
  · rw [sg_X6_begin_0]
    simp (disch := omega) only [↓reduceIte, i_le, i_nle, i_lt, i_nlt, i_eq, i_ne, and_self, and_true, true_and, and_false, false_and, or_true, true_or, or_false, false_or, nx_of, Int.toNat_natCast, Option.bind_some, rm_0, rm_1, rm_2, rm_3, rm_4, rm_5, rm_6, rm_7, rm_8, rm_9, rm_10, rm_11, rm_12, rm_13, rm_14, rm_15, rm_16, rm_17, rm_18, rm_19, rm_20, rm_21, rm_22, rm_23, rm_24, rm_25, rm_26, rm_27, rm_28, rm_29, um_0, um_1, um_2, um_3, um_4, um_5, um_6, um_7, um_8, um_9, um_10, um_11, um_12, um_13, um_14, um_15, um_16, um_17, um_18, um_19, um_20, um_21, um_22, um_23, um_24, um_25, um_26, um_27, um_28, um_29, rm_k, um_k, vu_at, vu_ne, hU]
    rfl
  · rw [k3 1 0 (by omega), z2 1 0 (by omega) (by omega) (by omega), ← hU, vu_k (by omega), vu_at]
  · rw [k3 2 0 (by omega), z2 2 0 (by omega) (by omega) (by omega), ← hU, vu_at]
  · rw [k3 8 i (by omega), k3 7 i (by omega), k3 9 i (by omega)]; exact z1 i hi
  · rw [k3 k i (by omega), z2 k i (by omega) (by omega) (by omega), ← hU, vu_k (by omega), vu_k (by omega)]
