/-! The model's reads; every hour has its house. -/
theorem pig : ∀ (m : Nat) (f : Nat → Nat), (∀ i, i < m → f i < m) → (∀ i j, i < m → j < m → f i = f j → i = j) → ∀ k, k < m → ∃ i, i < m ∧ f i = k := by
  intro m
  induction m with
  | zero => intro f _ _ k hk; omega
  | succ m ih =>
    intro f h1 h2 k hk
    by_cases q : k = f m
    · exact ⟨m, by omega, q.symm⟩
    · have g1 : ∀ i, i < m → f i ≠ f m := fun i hi z => by have := h2 i m (by omega) (by omega) z; omega
      have a1 := h1 m (by omega)
      have b := ih (fun i => if f i = m then f m else f i) (fun i hi => by
        have := h1 i (by omega)
        have := g1 i hi
        split <;> omega) (fun i j hi hj e => by
        have := g1 i hi
        have := g1 j hj
        by_cases p1 : f i = m <;> by_cases p2 : f j = m
        · exact h2 i j (by omega) (by omega) (by omega)
        · rw [if_pos p1, if_neg p2] at e; omega
        · rw [if_neg p1, if_pos p2] at e; omega
        · rw [if_neg p1, if_neg p2] at e; exact h2 i j (by omega) (by omega) e)
      by_cases p : k = m
      · obtain ⟨i, hi, e⟩ := b (f m) (by omega)
        have := g1 i hi
        by_cases p1 : f i = m
        · exact ⟨i, by omega, by omega⟩
        · rw [if_neg p1] at e; omega
      · obtain ⟨i, hi, e⟩ := b k (by omega)
        by_cases p1 : f i = m
        · rw [if_pos p1] at e; omega
        · rw [if_neg p1] at e; exact ⟨i, by omega, e⟩
theorem vsur {N : Int} {V : nl_O} (hV : vok N V) (hI : vinj V) {k : Nat} (hk : (k : Int) < V 0 0) : ∃ i : Nat, (i : Int) < V 0 0 ∧ V 8 i = k := by
  have h0 := hV.1
  have h8 : ∀ i : Nat, (i : Int) < V 0 0 → 0 ≤ V 8 i ∧ V 8 i < V 0 0 := fun i hi => (hV.2.2.2.1 i hi).2.2.2.2.2.1
  obtain ⟨i, hi, e⟩ := pig (V 0 0).toNat (fun i => (V 8 i).toNat) (fun i hi => by
    have := h8 i (by omega)
    omega) (fun i j hi hj e => by
    have := h8 i (by omega)
    have := h8 j (by omega)
    exact hI i j (by omega) (by omega) (by omega)) k (by omega)
  have := h8 i (by omega)
  exact ⟨i, by omega, by omega⟩
theorem vWho_is {V : nl_O} (hI : vinj V) {x : Int} {i : Nat} (e : V 8 i = x) : ∀ (d j : Nat), (j : Int) + d ≤ V 0 0 → j ≤ i → i < j + d → vWho V x d j = i := by
  intro d
  induction d with
  | zero => intro j _ _ _; omega
  | succ d ih =>
    intro j h1 h2 h3
    simp only [vWho]
    by_cases q : V 8 j = x
    · rw [if_pos q]
      have := hI i j (by omega) (by omega) (by rw [e, q])
      omega
    · rw [if_neg q]
      by_cases p : j = i
      · subst p; exact absurd e q
      · exact ih (j + 1) (by omega) (by omega) (by omega)
theorem vWho_of {N : Int} {V : nl_O} (hV : vok N V) (hI : vinj V) {i : Nat} (hi : (i : Int) < V 0 0) : vWho V (V 8 i) (vN V) 0 = i := by
  have e := vN_eq hV
  exact vWho_is hI rfl (vN V) 0 (by omega) (by omega) (by omega)
theorem lp_whoHas {LS : Int} {den : nl_D} {h : nl_H} {V : nl_O} {N : Int} {x : Int} (hV : vok N V) (hx : 0 ≤ x ∧ x < V 0 0) {i : Nat} (hi : (i : Int) < V 0 0) (e : V 8 i = x) : ∀ (d j : Nat), (j : Int) + d = V 0 0 → j ≤ i → nl_Rn LS cd_X6_whoHas den ct_X6_whoHas 1 2 [some (vO 6 0), some (vI x), some (vI (j : Int))] (sm h V) (vWho V x d j, sm h V) := by
  have h0 := hV.1
  intro d
  induction d with
  | zero => intro j h1 h2; omega
  | succ d ih =>
    intro j h1 h2
    have b := (hV.2.2.2.1 j (by omega)).2.2.2.2.2.1
    simp only [vWho]
    by_cases q : V 8 j = x
    · rw [if_pos q]
      refine .ret ?_
      rw [sg_X6_whoHas_2]
      simp (disch := omega) only [nx_of, if_pos, if_neg, if_true, if_false, true_or, or_true, Int.toNat_natCast, Option.bind_some, rm_0, rm_1, rm_2, rm_3, rm_4, rm_5, rm_6, rm_7, rm_8, rm_9, rm_10, rm_11, rm_12, rm_13, rm_14, rm_15, rm_16, rm_17, rm_18, rm_19, rm_20, rm_21, rm_22, rm_23, rm_24, rm_25, rm_26, rm_27, rm_28, rm_29, um_0, um_1, um_2, um_3, um_4, um_5, um_6, um_7, um_8, um_9, um_10, um_11, um_12, um_13, um_14, um_15, um_16, um_17, um_18, um_19, um_20, um_21, um_22, um_23, um_24, um_25, um_26, um_27, um_28, um_29, rm_k, um_k, vu_at, vu_ne]
    · rw [if_neg q]
      have p : j ≠ i := fun z => q (by rw [z]; exact e)
      refine .go ?_ (ih (j + 1) (by omega) (by omega))
      rw [sg_X6_whoHas_2]
      simp (disch := omega) only [nx_of, if_pos, if_neg, if_true, if_false, true_or, or_true, Int.toNat_natCast, Option.bind_some, rm_0, rm_1, rm_2, rm_3, rm_4, rm_5, rm_6, rm_7, rm_8, rm_9, rm_10, rm_11, rm_12, rm_13, rm_14, rm_15, rm_16, rm_17, rm_18, rm_19, rm_20, rm_21, rm_22, rm_23, rm_24, rm_25, rm_26, rm_27, rm_28, rm_29, um_0, um_1, um_2, um_3, um_4, um_5, um_6, um_7, um_8, um_9, um_10, um_11, um_12, um_13, um_14, um_15, um_16, um_17, um_18, um_19, um_20, um_21, um_22, um_23, um_24, um_25, um_26, um_27, um_28, um_29, rm_k, um_k, vu_at, vu_ne]
      rfl
theorem sq_whoHas {LS : Int} {n : Nat} (hn : 1 ≤ n) {h : nl_H} {V : nl_O} {N : Int} {x : Int} (hV : vok N V) (hI : vinj V) (hx : 0 ≤ x ∧ x < V 0 0) : nl_c LS n m_X6_whoHas [vO 6 0, vI x] (sm h V) = some (vWho V x (vN V) 0, sm h V) := by
  obtain ⟨n, rfl, hn1⟩ := nl_suc hn
  have e := vN_eq hV
  obtain ⟨i, hi, ei⟩ := vsur hV hI (k := x.toNat) (by omega)
  have k9 := lp_whoHas (LS := LS) (den := nl_c LS n) (h := h) hV hx hi (by omega) (vN V) 0 (by omega) (by omega)
  refine cl_X6_whoHas (.go ?_ k9)
  rw [sg_X6_whoHas_0]
  rfl
theorem sq_in {LS : Int} {n : Nat} (hn : 1 ≤ n) {h : nl_H} {x a b : Int} (hx : nl_inR x) (ha : 0 ≤ a ∧ a ≤ 10000) (hb : 0 ≤ b ∧ b ≤ 10000) : nl_c LS n m_X6_in [vI x, vI a, vI b] h = some (if a ≤ x ∧ x ≤ b then 1 else 0, h) := sp_in hn hx ⟨by omega, by omega⟩ ⟨by omega, by omega⟩
theorem i_le {a b : Int} (h : a ≤ b) : (a ≤ b) = True := eq_true h
theorem i_nle {a b : Int} (h : b < a) : (a ≤ b) = False := eq_false (by omega)
theorem i_lt {a b : Int} (h : a < b) : (a < b) = True := eq_true h
theorem i_nlt {a b : Int} (h : b ≤ a) : (a < b) = False := eq_false (by omega)
theorem i_eq {a b : Int} (h : a = b) : (a = b) = True := eq_true h
theorem i_ne {a b : Int} (h : a ≠ b) : (a = b) = False := eq_false h
theorem bd {α β : Type} {o : Option α} {a : α} (e : o = some a) (f : α → Option β) : o.bind f = f a := by rw [e]; rfl
