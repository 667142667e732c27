/-! Items, texts. -/
theorem pEq_refl (P : nl_O) : pEq P P := fun _ _ => rfl
theorem pEq_trans {P Q R : nl_O} (a : pEq P Q) (b : pEq Q R) : pEq P R := fun k hk => (a k hk).trans (b k hk)
theorem pEq_vu {P : nl_O} {i : Nat} {x : Int} : pEq (vu P 4 i x) P := fun k hk => by
  funext j
  exact vu_k hk
theorem pEq_step {P Q : nl_O} (e : pEq P Q) (b : Bool) (x y z : Int) : pEq (pStep P b x y z) (pStep Q b x y z) := by
  intro k hk
  have e5 := e 5 (by omega)
  have e6 := e 6 (by omega)
  have ek := e k hk
  unfold pStep
  cases b with
  | true =>
    simp only [if_true]
    funext j
    unfold vu
    rw [e5, ek]
  | false =>
    simp only [Bool.false_eq_true, if_false]
    funext j
    unfold vu
    rw [e6, ek]
/-- the place behind an item's numbers -/
theorem lp_item {LS : Int} {n : Nat} (hn : 2 ≤ n) {h : nl_H} {L at9 : Nat} {y4 w : Int} (hT : tok (h 5 0 0) L) (hy : y4 = 0 ∨ y4 = 1) {P : nl_O} {i p : Nat} (w8 w9 : Option nl_V) (hi : i < 3) (hp : p ≤ 250) (hw : (i : Int) < w) (hw3 : w ≤ 3) :
    (¬ (p < (rn (h 5 0 0) L p).2 ∧ (rn (h 5 0 0) L p).2 < L ∧ h 5 0 0 (rn (h 5 0 0) L p).2 = (if (i : Int) = w - 1 then 59 else 44)) →
      nl_Rn LS cd_X1_readItem (nl_c LS n) ct_X1_readItem 1 50 [some (vO 1 0), some (vA 5 0 0), some (vI (L : Int)), some (vI (at9 : Int)), some (vI y4), some (vI w), some (vI (p : Int)), some (vI (i : Int)), w8, w9] (so h 1 0 P) (-1, so h 1 0 (vu P 4 i (rn (h 5 0 0) L p).1))) ∧
    (∀ r, (p < (rn (h 5 0 0) L p).2 ∧ (rn (h 5 0 0) L p).2 < L ∧ h 5 0 0 (rn (h 5 0 0) L p).2 = (if (i : Int) = w - 1 then 59 else 44)) → (∀ w8 w9,
      nl_Rn LS cd_X1_readItem (nl_c LS n) ct_X1_readItem 1 50 [some (vO 1 0), some (vA 5 0 0), some (vI (L : Int)), some (vI (at9 : Int)), some (vI y4), some (vI w), some (vI (((rn (h 5 0 0) L p).2 + 1 : Nat) : Int)), some (vI ((i + 1 : Nat) : Int)), w8, w9] (so h 1 0 (vu P 4 i (rn (h 5 0 0) L p).1)) r) →
      nl_Rn LS cd_X1_readItem (nl_c LS n) ct_X1_readItem 1 50 [some (vO 1 0), some (vA 5 0 0), some (vI (L : Int)), some (vI (at9 : Int)), some (vI y4), some (vI w), some (vI (p : Int)), some (vI (i : Int)), w8, w9] (so h 1 0 P) r) := by
  have hL := hT.1
  have hc := sp_readNumber (LS := LS) hn (h := so h 1 0 P) (L := L) (p := p) (i := i) (by rw [so_ne (by omega)]; exact hT) (by omega) hi
  rw [so_ne (by omega), so_at, so_so] at hc
  have hr := rn_in (h 5 0 0) L p
  generalize rn (h 5 0 0) L p = q at hc hr
  obtain ⟨v, e⟩ := q
  dsimp only at hc hr ⊢
  constructor
  · intro hz
    refine .ret ?_
    rw [sg_X1_readItem_50]
    by_cases q1 : (i : Int) = w - 1
    · rw [if_pos q1] at hz
      by_cases q2 : p < e
      · by_cases q3 : e < L
        · have := hT.2 e q3
          simp (disch := omega) only [nx_of, if_pos, if_neg, if_true, if_false, true_or, or_true, Int.toNat_natCast, Option.bind_some, hc, so_ne]
        · simp (disch := omega) only [nx_of, if_pos, if_neg, if_true, if_false, true_or, or_true, Int.toNat_natCast, Option.bind_some, hc]
      · simp (disch := omega) only [nx_of, if_pos, if_neg, if_true, if_false, true_or, or_true, Int.toNat_natCast, Option.bind_some, hc]
    · rw [if_neg q1] at hz
      by_cases q2 : p < e
      · by_cases q3 : e < L
        · have := hT.2 e q3
          simp (disch := omega) only [nx_of, if_pos, if_neg, if_true, if_false, true_or, or_true, Int.toNat_natCast, Option.bind_some, hc, so_ne]
        · simp (disch := omega) only [nx_of, if_pos, if_neg, if_true, if_false, true_or, or_true, Int.toNat_natCast, Option.bind_some, hc]
      · simp (disch := omega) only [nx_of, if_pos, if_neg, if_true, if_false, true_or, or_true, Int.toNat_natCast, Option.bind_some, hc]
  · intro r hz k
    by_cases q1 : (i : Int) = w - 1
    · rw [if_pos q1] at hz
      refine .go ?_ (k (some (vI (e : Int))) (some (vI 59)))
      rw [sg_X1_readItem_50]
      simp (disch := omega) only [nx_of, if_pos, if_neg, if_true, if_false, true_or, or_true, Int.toNat_natCast, Option.bind_some, hc, so_ne]
      rfl
    · rw [if_neg q1] at hz
      refine .go ?_ (k (some (vI (e : Int))) (some (vI 44)))
      rw [sg_X1_readItem_50]
      simp (disch := omega) only [nx_of, if_pos, if_neg, if_true, if_false, true_or, or_true, Int.toNat_natCast, Option.bind_some, hc, so_ne]
      rfl
theorem lp_itemH {LS : Int} {n : Nat} (hn : 1 ≤ n) {h : nl_H} {L at9 p : Nat} (hp : p ≤ 300) (w8 w9 : Option nl_V) {P : nl_O} (h5 : 0 ≤ P 5 0 ∧ P 5 0 ≤ 7) (h4 : 0 ≤ P 4 0 ∧ P 4 0 ≤ 99) :
    nl_Rn LS cd_X1_readItem (nl_c LS n) ct_X1_readItem 1 50 [some (vO 1 0), some (vA 5 0 0), some (vI (L : Int)), some (vI (at9 : Int)), some (vI 1), some (vI 1), some (vI (p : Int)), some (vI ((1 : Nat) : Int)), w8, w9] (so h 1 0 P) (if P 5 0 < 7 ∧ P 4 0 ≤ 20 then ((p : Int), so h 1 0 (pStep P true (P 4 0) 0 0)) else (-1, so h 1 0 P)) := by
  have hc1 := sp_addHour (LS := LS) hn (h := so h 1 0 P) (by rw [so_at]; exact h5) (by rw [so_at]; exact h4)
  rw [so_at, so_so] at hc1
  refine .ret ?_
  rw [sg_X1_readItem_50]
  by_cases q : P 5 0 < 7 ∧ P 4 0 ≤ 20
  · rw [if_pos q] at hc1 ⊢
    simp (disch := omega) only [nx_of, if_pos, if_neg, if_true, if_false, true_or, or_true, Int.toNat_natCast, Option.bind_some, hc1]
  · rw [if_neg q] at hc1 ⊢
    simp (disch := omega) only [nx_of, if_pos, if_neg, if_true, if_false, true_or, or_true, Int.toNat_natCast, Option.bind_some, hc1]
theorem lp_itemG {LS : Int} {n : Nat} (hn : 1 ≤ n) {h : nl_H} {L at9 p : Nat} (hp : p ≤ 300) (w8 w9 : Option nl_V) {P : nl_O} (h5 : 0 ≤ P 5 0 ∧ P 5 0 ≤ 7) (h6 : 0 ≤ P 6 0 ∧ P 6 0 ≤ P 5 0) (h4 : ∀ j, j < 3 → 0 ≤ P 4 j ∧ P 4 j ≤ 99) :
    nl_Rn LS cd_X1_readItem (nl_c LS n) ct_X1_readItem 1 50 [some (vO 1 0), some (vA 5 0 0), some (vI (L : Int)), some (vI (at9 : Int)), some (vI 0), some (vI 3), some (vI (p : Int)), some (vI ((3 : Nat) : Int)), w8, w9] (so h 1 0 P) (if P 6 0 < P 5 0 ∧ P 4 0 ≤ 3 ∧ P 4 1 ≤ 40 ∧ P 4 2 ≤ 99 then ((p : Int), so h 1 0 (pStep P false (P 4 0) (P 4 1) (P 4 2))) else (-1, so h 1 0 P)) := by
  have hc2 := sp_addHouse (LS := LS) hn (h := so h 1 0 P) (by rw [so_at]; exact h5) (by rw [so_at]; exact h6) (by rw [so_at]; exact h4)
  rw [so_at, so_so] at hc2
  refine .ret ?_
  rw [sg_X1_readItem_50]
  by_cases q : P 6 0 < P 5 0 ∧ P 4 0 ≤ 3 ∧ P 4 1 ≤ 40 ∧ P 4 2 ≤ 99
  · rw [if_pos q] at hc2 ⊢
    simp (disch := omega) only [nx_of, if_pos, if_neg, if_true, if_false, true_or, or_true, Int.toNat_natCast, Option.bind_some, hc2]
  · rw [if_neg q] at hc2 ⊢
    simp (disch := omega) only [nx_of, if_pos, if_neg, if_true, if_false, true_or, or_true, Int.toNat_natCast, Option.bind_some, hc2]
theorem sp_readItem {LS : Int} {n : Nat} (hn : 3 ≤ n) {h : nl_H} {L p : Nat} (hT : tok (h 5 0 0) L) (hp : p < L) (h5 : 0 ≤ h 1 0 5 0 ∧ h 1 0 5 0 ≤ 7) (h6 : 0 ≤ h 1 0 6 0 ∧ h 1 0 6 0 ≤ h 1 0 5 0) :
    ∃ P', nl_c LS n m_X1_readItem [vO 1 0, vA 5 0 0, vI (L : Int), vI (p : Int)] h = some (match pItem (h 5 0 0) L (h 1 0 5 0) (h 1 0 6 0) p with | none => -1 | some (e, _) => (e : Int), so h 1 0 P') ∧
      pEq P' (match pItem (h 5 0 0) L (h 1 0 5 0) (h 1 0 6 0) p with | none => h 1 0 | some (_, b, x, y, z) => pStep (h 1 0) b x y z) := by
  obtain ⟨n, rfl, hn1⟩ := nl_suc hn
  have hL := hT.1
  have ht := hT.2 p hp
  have e0 : nl_nz 0 = 0 := nx_of (by omega) (by omega)
  have e1 : nl_nz 1 = 1 := nx_of (by omega) (by omega)
  by_cases c1 : h 5 0 0 p = 110
  · have start : ∀ r, nl_Rn LS cd_X1_readItem (nl_c LS n) ct_X1_readItem 1 50 [some (vO 1 0), some (vA 5 0 0), some (vI (L : Int)), some (vI (p : Int)), some (vI 1), some (vI 1), some (vI ((p + 1 : Nat) : Int)), some (vI ((0 : Nat) : Int)), none, none] (so h 1 0 (h 1 0)) r → nl_c LS (n + 1) m_X1_readItem [vO 1 0, vA 5 0 0, vI (L : Int), vI (p : Int)] h = some r := by
      intro r k
      rw [so_self] at k
      refine cl_X1_readItem (.go ?_ k)
      rw [sg_X1_readItem_0]
      simp (disch := omega) only [nx_of, if_pos, if_neg, if_true, if_false, true_or, or_true, Int.toNat_natCast, Option.bind_some, e0, e1]
      rfl
    unfold pItem
    rw [if_pos c1]
    have st := lp_item (LS := LS) hn1 (h := h) (L := L) (at9 := p) (y4 := 1) (w := 1) hT (Or.inr rfl) (P := h 1 0) (i := 0) (p := p + 1) none none (by omega) (by omega) (by omega) (by omega)
    have hr := rn_in (h 5 0 0) L (p + 1)
    generalize rn (h 5 0 0) L (p + 1) = q at st hr
    obtain ⟨v, e⟩ := q
    dsimp only at st hr ⊢
    rw [if_pos (by omega)] at st
    by_cases a1 : p + 1 < e ∧ e < L ∧ h 5 0 0 e = 59
    · have en := fun w8 w9 => lp_itemH (LS := LS) (n := n) (by omega) (h := h) (L := L) (at9 := p) (p := e + 1) (by omega) w8 w9 (P := vu (h 1 0) 4 0 v) (by rw [vu_k (by omega)]; exact h5) (by rw [vu_at]; omega)
      rw [vu_at, vu_k (by omega)] at en
      have k9 := start _ (st.2 _ a1 en)
      by_cases a2 : h 1 0 5 0 < 7 ∧ v ≤ 20
      · rw [if_pos a2] at k9
        rw [if_pos ⟨a1, a2⟩]
        exact ⟨_, k9, pEq_step pEq_vu _ _ _ _⟩
      · rw [if_neg a2] at k9
        rw [if_neg (fun z => a2 z.2)]
        exact ⟨_, k9, pEq_vu⟩
    · rw [if_neg (fun z => a1 z.1)]
      exact ⟨_, start _ (st.1 a1), pEq_vu⟩
  · by_cases c2 : h 5 0 0 p = 104
    · have start : ∀ r, nl_Rn LS cd_X1_readItem (nl_c LS n) ct_X1_readItem 1 50 [some (vO 1 0), some (vA 5 0 0), some (vI (L : Int)), some (vI (p : Int)), some (vI 0), some (vI 3), some (vI ((p + 1 : Nat) : Int)), some (vI ((0 : Nat) : Int)), none, none] (so h 1 0 (h 1 0)) r → nl_c LS (n + 1) m_X1_readItem [vO 1 0, vA 5 0 0, vI (L : Int), vI (p : Int)] h = some r := by
        intro r k
        rw [so_self] at k
        refine cl_X1_readItem (.go ?_ k)
        rw [sg_X1_readItem_0]
        simp (disch := omega) only [nx_of, if_pos, if_neg, if_true, if_false, true_or, or_true, Int.toNat_natCast, Option.bind_some, e0, e1]
        rfl
      unfold pItem
      rw [if_neg c1, if_pos c2]
      have s1 := lp_item (LS := LS) hn1 (h := h) (L := L) (at9 := p) (y4 := 0) (w := 3) hT (Or.inl rfl) (P := h 1 0) (i := 0) (p := p + 1) none none (by omega) (by omega) (by omega) (by omega)
      have hr1 := rn_in (h 5 0 0) L (p + 1)
      generalize rn (h 5 0 0) L (p + 1) = q1 at s1 hr1
      obtain ⟨v1, f1⟩ := q1
      dsimp only at s1 hr1 ⊢
      rw [if_neg (by omega)] at s1
      by_cases a1 : p + 1 < f1 ∧ f1 < L ∧ h 5 0 0 f1 = 44
      · have s2 := fun w8 w9 => lp_item (LS := LS) hn1 (h := h) (L := L) (at9 := p) (y4 := 0) (w := 3) hT (Or.inl rfl) (P := vu (h 1 0) 4 0 v1) (i := 1) (p := f1 + 1) w8 w9 (by omega) (by omega) (by omega) (by omega)
        have hr2 := rn_in (h 5 0 0) L (f1 + 1)
        generalize rn (h 5 0 0) L (f1 + 1) = q2 at s2 hr2
        obtain ⟨v2, f2⟩ := q2
        dsimp only at s2 hr2 ⊢
        rw [if_neg (by omega)] at s2
        by_cases a2 : f1 + 1 < f2 ∧ f2 < L ∧ h 5 0 0 f2 = 44
        · have s3 := fun w8 w9 => lp_item (LS := LS) hn1 (h := h) (L := L) (at9 := p) (y4 := 0) (w := 3) hT (Or.inl rfl) (P := vu (vu (h 1 0) 4 0 v1) 4 1 v2) (i := 2) (p := f2 + 1) w8 w9 (by omega) (by omega) (by omega) (by omega)
          have hr3 := rn_in (h 5 0 0) L (f2 + 1)
          generalize rn (h 5 0 0) L (f2 + 1) = q3 at s3 hr3
          obtain ⟨v3, f3⟩ := q3
          dsimp only at s3 hr3 ⊢
          rw [if_pos (by omega)] at s3
          have pe : pEq (vu (vu (vu (h 1 0) 4 0 v1) 4 1 v2) 4 2 v3) (h 1 0) := pEq_trans pEq_vu (pEq_trans pEq_vu pEq_vu)
          by_cases a3 : f2 + 1 < f3 ∧ f3 < L ∧ h 5 0 0 f3 = 59
          · have n0 : vu (vu (vu (h 1 0) 4 0 v1) 4 1 v2) 4 2 v3 4 0 = v1 := by rw [vu_ne (by omega), vu_ne (by omega), vu_at]
            have n1 : vu (vu (vu (h 1 0) 4 0 v1) 4 1 v2) 4 2 v3 4 1 = v2 := by rw [vu_ne (by omega), vu_at]
            have n2 : vu (vu (vu (h 1 0) 4 0 v1) 4 1 v2) 4 2 v3 4 2 = v3 := vu_at
            have m5 : vu (vu (vu (h 1 0) 4 0 v1) 4 1 v2) 4 2 v3 5 0 = h 1 0 5 0 := by rw [pe 5 (by omega)]
            have m6 : vu (vu (vu (h 1 0) 4 0 v1) 4 1 v2) 4 2 v3 6 0 = h 1 0 6 0 := by rw [pe 6 (by omega)]
            have en := fun w8 w9 => lp_itemG (LS := LS) (n := n) (by omega) (h := h) (L := L) (at9 := p) (p := f3 + 1) (by omega) w8 w9 (P := vu (vu (vu (h 1 0) 4 0 v1) 4 1 v2) 4 2 v3) (by rw [m5]; exact h5) (by rw [m5, m6]; exact h6) (fun j hj => by
              rcases (show j = 0 ∨ j = 1 ∨ j = 2 by omega) with rfl | rfl | rfl
              · rw [n0]; omega
              · rw [n1]; omega
              · rw [n2]; omega)
            rw [n0, n1, n2, m5, m6] at en
            have k9 := start _ (s1.2 _ a1 (fun w8 w9 => (s2 w8 w9).2 _ a2 (fun w8 w9 => (s3 w8 w9).2 _ a3 en)))
            by_cases a4 : h 1 0 6 0 < h 1 0 5 0 ∧ v1 ≤ 3 ∧ v2 ≤ 40 ∧ v3 ≤ 99
            · rw [if_pos a4] at k9
              rw [if_pos ⟨a1, a2, a3, a4⟩]
              exact ⟨_, k9, pEq_step pe _ _ _ _⟩
            · rw [if_neg a4] at k9
              rw [if_neg (fun z => a4 z.2.2.2)]
              exact ⟨_, k9, pe⟩
          · rw [if_neg (fun z => a3 z.2.2.1)]
            exact ⟨_, start _ (s1.2 _ a1 (fun w8 w9 => (s2 w8 w9).2 _ a2 (fun w8 w9 => (s3 w8 w9).1 a3))), pe⟩
        · rw [if_neg (fun z => a2 z.2.1)]
          exact ⟨_, start _ (s1.2 _ a1 (fun w8 w9 => (s2 w8 w9).1 a2)), pEq_trans pEq_vu pEq_vu⟩
      · rw [if_neg (fun z => a1 z.1)]
        exact ⟨_, start _ (s1.1 a1), pEq_vu⟩
    · unfold pItem
      rw [if_neg c1, if_neg c2]
      refine ⟨h 1 0, cl_X1_readItem (.ret ?_), pEq_refl _⟩
      rw [sg_X1_readItem_0, so_self]
      simp (disch := omega) only [nx_of, if_pos, if_neg, if_true, if_false, true_or, or_true, Int.toNat_natCast, Option.bind_some, e0, e1]
theorem pItem_in {T : Nat → Int} {L : Nat} {hr ho : Int} {p e : Nat} {b : Bool} {x y z : Int} (hI : pItem T L hr ho p = some (e, b, x, y, z)) : p < e ∧ e ≤ L ∧ (b = true → hr < 7 ∧ 0 ≤ x ∧ x ≤ 20) ∧ (b = false → ho < hr ∧ (0 ≤ x ∧ x ≤ 3) ∧ (0 ≤ y ∧ y ≤ 40) ∧ 0 ≤ z ∧ z ≤ 99) := by
  unfold pItem at hI
  split at hI
  · have r1 := rn_in T L (p + 1)
    split at hI
    · rename_i q
      cases hI
      exact ⟨by omega, by omega, fun _ => by omega, fun h => by cases h⟩
    · cases hI
  · split at hI
    · have r1 := rn_in T L (p + 1)
      generalize rn T L (p + 1) = q1 at hI r1
      have r2 := rn_in T L (q1.2 + 1)
      generalize rn T L (q1.2 + 1) = q2 at hI r2
      have r3 := rn_in T L (q2.2 + 1)
      generalize rn T L (q2.2 + 1) = q3 at hI r3
      split at hI
      · rename_i q
        cases hI
        exact ⟨by omega, by omega, (fun h => by cases h), fun _ => by omega⟩
      · cases hI
    · cases hI
