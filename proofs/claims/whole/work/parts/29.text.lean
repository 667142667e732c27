/-! Texts as a whole. -/
/-- a plan so far -/
def pok (Q : nl_O) : Prop := (0 ≤ Q 5 0 ∧ Q 5 0 ≤ 7) ∧ (0 ≤ Q 6 0 ∧ Q 6 0 ≤ Q 5 0) ∧ (∀ i : Nat, (i : Int) < Q 5 0 → 0 ≤ Q 0 i ∧ Q 0 i ≤ 20) ∧ (∀ i : Nat, (i : Int) < Q 6 0 → (0 ≤ Q 1 i ∧ Q 1 i ≤ 3) ∧ (0 ≤ Q 2 i ∧ Q 2 i ≤ 40) ∧ 0 ≤ Q 3 i ∧ Q 3 i ≤ 99)
theorem pok_step {Q : nl_O} (hQ : pok Q) {b : Bool} {x y z : Int} (h1 : b = true → Q 5 0 < 7 ∧ 0 ≤ x ∧ x ≤ 20) (h2 : b = false → Q 6 0 < Q 5 0 ∧ (0 ≤ x ∧ x ≤ 3) ∧ (0 ≤ y ∧ y ≤ 40) ∧ 0 ≤ z ∧ z ≤ 99) : pok (pStep Q b x y z) := by
  obtain ⟨a1, a2, a3, a4⟩ := hQ
  cases b with
  | true =>
    have h1 := h1 rfl
    unfold pStep pok
    simp only [if_true, vu_at, vu_k (show 6 ≠ 5 by omega), vu_k (show 0 ≠ 5 by omega), vu_k (show 1 ≠ 5 by omega), vu_k (show 2 ≠ 5 by omega), vu_k (show 3 ≠ 5 by omega), vu_k (show 6 ≠ 0 by omega), vu_k (show 1 ≠ 0 by omega), vu_k (show 2 ≠ 0 by omega), vu_k (show 3 ≠ 0 by omega)]
    refine ⟨by omega, by omega, fun i hi => ?_, a4⟩
    by_cases q : i = (Q 5 0).toNat
    · subst q
      rw [vu_at]
      omega
    · rw [vu_ne (fun z => q z.2)]
      exact a3 i (by omega)
  | false =>
    have h2 := h2 rfl
    unfold pStep pok
    simp only [Bool.false_eq_true, if_false, vu_at, vu_k (show 5 ≠ 6 by omega), vu_k (show 0 ≠ 6 by omega), vu_k (show 1 ≠ 6 by omega), vu_k (show 2 ≠ 6 by omega), vu_k (show 3 ≠ 6 by omega), vu_k (show 5 ≠ 3 by omega), vu_k (show 0 ≠ 3 by omega), vu_k (show 1 ≠ 3 by omega), vu_k (show 2 ≠ 3 by omega), vu_k (show 5 ≠ 2 by omega), vu_k (show 0 ≠ 2 by omega), vu_k (show 1 ≠ 2 by omega), vu_k (show 5 ≠ 1 by omega), vu_k (show 0 ≠ 1 by omega)]
    refine ⟨a1, by omega, a3, fun i hi => ?_⟩
    by_cases q : i = (Q 6 0).toNat
    · subst q
      rw [vu_at, vu_at, vu_at]
      omega
    · have e1 : ∀ (V : nl_O) (k : Nat) (x : Int), vu V k (Q 6 0).toNat x k i = V k i := fun V k x => vu_ne fun z => q z.2
      simp only [e1, vu_k (show 3 ≠ 2 by omega), vu_k (show 3 ≠ 1 by omega), vu_k (show 2 ≠ 1 by omega)]
      exact a4 i (by omega)
theorem pAll_cong (T : Nat → Int) (L : Nat) : ∀ (d p : Nat) {P Q : nl_O}, pEq P Q → (pAll T L d p P).1 = (pAll T L d p Q).1 ∧ pEq (pAll T L d p P).2 (pAll T L d p Q).2 := by
  intro d
  induction d with
  | zero => intro p P Q e; exact ⟨rfl, e⟩
  | succ d ih =>
    intro p P Q e
    simp only [pAll]
    rw [e 5 (by omega), e 6 (by omega)]
    split
    · exact ⟨rfl, e⟩
    · split
      · exact ⟨rfl, e⟩
      · exact ih _ (pEq_step e _ _ _ _)
theorem pAll_in (T : Nat → Int) (L : Nat) : ∀ (d p : Nat) {Q : nl_O}, pok Q → pok (pAll T L d p Q).2 ∧ -1 ≤ (pAll T L d p Q).1 ∧ (pAll T L d p Q).1 ≤ L := by
  intro d
  induction d with
  | zero => intro p Q hQ; exact ⟨hQ, by simp only [pAll]; omega, by simp only [pAll]; omega⟩
  | succ d ih =>
    intro p Q hQ
    simp only [pAll]
    split
    · exact ⟨hQ, by dsimp only; omega, by dsimp only; omega⟩
    · split
      · exact ⟨hQ, by dsimp only; omega, by dsimp only; omega⟩
      · rename_i e b x y z hI
        have := pItem_in hI
        exact ih _ (pok_step hQ this.2.2.1 this.2.2.2)
theorem pok_cong {P Q : nl_O} (e : pEq P Q) (h : pok Q) : pok P := by
  unfold pok at h ⊢
  rw [e 5 (by omega), e 6 (by omega), e 0 (by omega), e 1 (by omega), e 2 (by omega), e 3 (by omega)]
  exact h
/-- the same but for the numbers read and the fault -/
def pEq7 (P Q : nl_O) : Prop := ∀ k, k ≠ 4 → k ≠ 7 → P k = Q k
theorem lp_read {LS : Int} {n : Nat} (hn : 3 ≤ n) {h : nl_H} {L : Nat} (hT : tok (h 5 0 0) L) : ∀ (d p : Nat) (w : Option nl_V) {P : nl_O}, L ≤ p + d → p ≤ L → pok P → P 7 0 = -1 →
    ∃ P', nl_Rn LS cd_X1_read (nl_c LS n) ct_X1_read 0 17 [some (vO 1 0), some (vA 5 0 0), some (vI (L : Int)), some (vI (p : Int)), w] (so h 1 0 P) (0, so h 1 0 P') ∧ P' 7 0 = (pAll (h 5 0 0) L d p P).1 ∧ pEq7 P' (pAll (h 5 0 0) L d p P).2 := by
  have hL := hT.1
  intro d
  induction d with
  | zero =>
    intro p w P h1 h2 hP h7
    refine ⟨P, .ret ?_, h7, fun _ _ _ => rfl⟩
    rw [sg_X1_read_17]
    simp (disch := omega) only [nx_of, if_pos, if_neg, if_true, if_false, true_or, or_true, Int.toNat_natCast, Option.bind_some]
  | succ d ih =>
    intro p w P h1 h2 hP h7
    simp only [pAll]
    by_cases q : L ≤ p
    · rw [if_pos q]
      refine ⟨P, .ret ?_, h7, fun _ _ _ => rfl⟩
      rw [sg_X1_read_17]
      simp (disch := omega) only [nx_of, if_pos, if_neg, if_true, if_false, true_or, or_true, Int.toNat_natCast, Option.bind_some]
    · rw [if_neg q]
      obtain ⟨P1, c1, c2⟩ := sp_readItem (LS := LS) hn (h := so h 1 0 P) (L := L) (p := p) (by rw [so_ne (by omega)]; exact hT) (by omega) (by rw [so_at]; exact hP.1) (by rw [so_at]; exact hP.2.1)
      rw [so_ne (by omega), so_at, so_so] at c1
      rw [so_ne (by omega), so_at] at c2
      cases hI : pItem (h 5 0 0) L (P 5 0) (P 6 0) p with
      | none =>
        rw [hI] at c1 c2
        dsimp only at c1 c2
        refine ⟨vu P1 7 0 p, .ret ?_, vu_at, fun k k4 k7 => ?_⟩
        · rw [sg_X1_read_17]
          simp (disch := omega) only [nx_of, if_pos, if_neg, if_true, if_false, true_or, or_true, Int.toNat_natCast, Option.bind_some, c1, up_so, so_at, so_so]
        · funext j
          rw [vu_k k7, c2 k k4]
      | some r =>
        obtain ⟨e, b, x, y, z⟩ := r
        rw [hI] at c1 c2
        dsimp only at c1 c2 ⊢
        have hin := pItem_in hI
        have hok := pok_step hP hin.2.2.1 hin.2.2.2
        have h71 : P1 7 0 = -1 := by
          rw [c2 7 (by omega)]
          unfold pStep
          cases b with
          | true => rw [if_pos rfl, vu_k (by omega), vu_k (by omega)]; exact h7
          | false => rw [if_neg (by decide), vu_k (by omega), vu_k (by omega), vu_k (by omega), vu_k (by omega)]; exact h7
        obtain ⟨P', k1, k2, k3⟩ := ih e (some (vI (e : Int))) (P := P1) (by omega) (by omega) (pok_cong c2 hok) h71
        have hcg := pAll_cong (h 5 0 0) L d e c2
        refine ⟨P', .go ?_ k1, k2.trans hcg.1, fun k k4 k7 => (k3 k k4 k7).trans (hcg.2 k k4)⟩
        rw [sg_X1_read_17]
        simp (disch := omega) only [nx_of, if_pos, if_neg, if_true, if_false, true_or, or_true, Int.toNat_natCast, Option.bind_some, c1]
/-- an empty plan -/
def pNil : nl_O := fun _ _ => 0
theorem sp_read {LS : Int} {n : Nat} (hn : 4 ≤ n) {h : nl_H} {L : Nat} (hT : tok (h 5 0 0) L) :
    ∃ P', nl_c LS n m_X1_read [vO 1 0, vA 5 0 0, vI (L : Int)] h = some (0, so h 1 0 P') ∧ P' 7 0 = (pAll (h 5 0 0) L L 0 (vu (vu (h 1 0) 5 0 0) 6 0 0)).1 ∧ pEq7 P' (pAll (h 5 0 0) L L 0 (vu (vu (h 1 0) 5 0 0) 6 0 0)).2 := by
  obtain ⟨n, rfl, hn1⟩ := nl_suc hn
  have hp : pok (vu (vu (vu (h 1 0) 5 0 0) 6 0 0) 7 0 (-1)) := by
    unfold pok
    have a5 : vu (vu (vu (h 1 0) 5 0 0) 6 0 0) 7 0 (-1) 5 0 = 0 := by rw [vu_k (by omega), vu_k (by omega), vu_at]
    have a6 : vu (vu (vu (h 1 0) 5 0 0) 6 0 0) 7 0 (-1) 6 0 = 0 := by rw [vu_k (by omega), vu_at]
    rw [a5, a6]
    exact ⟨by omega, by omega, fun i hi => by omega, fun i hi => by omega⟩
  obtain ⟨P', k1, k2, k3⟩ := lp_read (LS := LS) hn1 (h := h) hT L 0 none (P := vu (vu (vu (h 1 0) 5 0 0) 6 0 0) 7 0 (-1)) (by omega) (by omega) hp vu_at
  have key : ∀ (d p : Nat) (Q : nl_O), (pAll (h 5 0 0) L d p (vu Q 7 0 (-1))).1 = (pAll (h 5 0 0) L d p Q).1 ∧ ∀ k, k ≠ 7 → (pAll (h 5 0 0) L d p (vu Q 7 0 (-1))).2 k = (pAll (h 5 0 0) L d p Q).2 k := by
    intro d
    induction d with
    | zero => intro p Q; exact ⟨rfl, fun k hk => by funext j; exact vu_k hk⟩
    | succ d ih =>
      intro p Q
      simp only [pAll]
      rw [vu_k (show 5 ≠ 7 by omega), vu_k (show 6 ≠ 7 by omega)]
      split
      · exact ⟨rfl, fun k hk => by funext j; exact vu_k hk⟩
      · split
        · exact ⟨rfl, fun k hk => by funext j; exact vu_k hk⟩
        · rename_i e b x y z hI
          have ec : pStep (vu Q 7 0 (-1)) b x y z = vu (pStep Q b x y z) 7 0 (-1) := by
            unfold pStep
            rw [vu_k (show 5 ≠ 7 by omega), vu_k (show 6 ≠ 7 by omega)]
            cases b with
            | true =>
              simp only [if_true]
              funext k j
              unfold vu
              by_cases q : k = 7
              · subst q; simp
              · simp [q]
            | false =>
              simp only [Bool.false_eq_true, if_false]
              funext k j
              unfold vu
              by_cases q : k = 7
              · subst q; simp
              · simp [q]
          rw [ec]
          exact ih _ _
  have k4 := key L 0 (vu (vu (h 1 0) 5 0 0) 6 0 0)
  refine ⟨P', cl_X1_read (.go ?_ k1), k2.trans k4.1, fun k q4 q7 => (k3 k q4 q7).trans (k4.2 k q7)⟩
  rw [sg_X1_read_0]
  simp (disch := omega) only [nx_of, if_pos, if_neg, if_true, if_false, true_or, or_true, Int.toNat_natCast, Option.bind_some, up_so, so_at, so_so]
  rfl
