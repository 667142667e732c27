/-! Both answer alike: lamps, whole. -/
set_option maxRecDepth 20000 in
theorem b_sub : ∀ S, S < 128 → ∀ Q, Q < 128 → Q &&& S = Q → Q ≠ S → bN Q < bN S ∧ Q < S := by decide +kernel
theorem mLa_none {V : nl_O} {x m : Nat} (no : ∀ S, S < 2 ^ m → lG V x S ≠ 0) : ∀ (e S : Nat) (g : Int × Int), S + e ≤ 2 ^ m → mLa V x e S g = g := by
  intro e
  induction e with
  | zero => intro S g _; rfl
  | succ e ih =>
    intro S g hS
    simp only [mLa]
    rw [if_neg (fun z => no S (by omega) z.2), ih (S + 1) g (by omega)]
theorem mLa_some {V : nl_O} {x m Q : Nat} (hQ : lG V x Q = 0) (no : ∀ S, S < 2 ^ m → lG V x S = 0 → S ≠ Q → bN Q < bN S ∧ Q < S) : ∀ (e S : Nat) (g : Int × Int), S + e ≤ 2 ^ m → ((S ≤ Q ∧ Q < S + e ∧ g.2 = 1048576) ∨ (Q < S ∧ g = ((Q : Int), ((bN Q : Nat) : Int)))) → mLa V x e S g = ((Q : Int), ((bN Q : Nat) : Int)) := by
  intro e
  induction e with
  | zero =>
    intro S g hS h
    rcases h with h | h
    · omega
    · exact h.2
  | succ e ih =>
    intro S g hS h
    have bS := bN_le S
    simp only [mLa]
    rcases h with ⟨h1, h2, h3⟩ | ⟨h1, h2⟩
    · by_cases q : S = Q
      · subst q
        rw [if_pos ⟨by omega, hQ⟩]
        exact ih (S + 1) _ (by omega) (.inr ⟨by omega, rfl⟩)
      · have nz : lG V x S ≠ 0 := fun z => by have := no S (by omega) z q; omega
        rw [if_neg (fun z => nz z.2)]
        exact ih (S + 1) g (by omega) (.inl ⟨by omega, by omega, h3⟩)
    · have nz : ¬ (((bN S : Nat) : Int) < g.2 ∧ lG V x S = 0) := fun z => by
        have := no S (by omega) z.2 (by omega)
        have z1 := z.1
        rw [h2] at z1
        dsimp only at z1
        omega
      rw [if_neg nz]
      exact ih (S + 1) g (by omega) (.inr ⟨by omega, h2⟩)
theorem vLa_none {V : nl_O} {x : Nat} : ∀ (e i R : Nat), vLa V x e i R = none → ∃ j, i ≤ j ∧ j < i + e ∧ vMiss x 1 V j ≠ -1 ∧ vMiss x 1 (vRest V j) j ≠ -1 := by
  intro e
  induction e with
  | zero => intro i R h; cases h
  | succ e ih =>
    intro i R h
    simp only [vLa] at h
    by_cases q : vMiss x 1 V i = -1
    · rw [if_pos q] at h
      obtain ⟨j, a, b, c, d⟩ := ih _ _ h
      exact ⟨j, by omega, by omega, c, d⟩
    · rw [if_neg q] at h
      by_cases p : vMiss x 1 (vRest V i) i = -1
      · rw [if_pos p] at h
        obtain ⟨j, a, b, c, d⟩ := ih _ _ h
        exact ⟨j, by omega, by omega, c, d⟩
      · exact ⟨i, by omega, by omega, q, p⟩
theorem vLa_some {V : nl_O} {x Q : Nat} : ∀ (e i R : Nat), vLa V x e i R = some Q → (∀ j, i ≤ j → j < i + e → vMiss x 1 V j ≠ -1 → vMiss x 1 (vRest V j) j = -1) ∧ ∀ b, Q.testBit b = true ↔ (R.testBit b = true ∨ (i ≤ b ∧ b < i + e ∧ vMiss x 1 V b ≠ -1)) := by
  intro e
  induction e with
  | zero =>
    intro i R h
    obtain rfl : R = Q := Option.some.inj h
    exact ⟨fun j a b _ => by omega, fun b => ⟨.inl, fun z => by
      rcases z with z | z
      · exact z
      · omega⟩⟩
  | succ e ih =>
    intro i R h
    simp only [vLa] at h
    by_cases q : vMiss x 1 V i = -1
    · rw [if_pos q] at h
      obtain ⟨a, b⟩ := ih _ _ h
      refine ⟨fun j j1 j2 j3 => ?_, fun c => ?_⟩
      · by_cases z : j = i
        · subst z; exact absurd q j3
        · exact a j (by omega) (by omega) j3
      · rw [b c]
        constructor
        · rintro (z | z)
          · exact .inl z
          · exact .inr ⟨by omega, by omega, z.2.2⟩
        · rintro (z | z)
          · exact .inl z
          · refine .inr ⟨?_, by omega, z.2.2⟩
            by_cases y : c = i
            · subst y; exact absurd q z.2.2
            · omega
    · rw [if_neg q] at h
      by_cases p : vMiss x 1 (vRest V i) i = -1
      · rw [if_pos p] at h
        obtain ⟨a, b⟩ := ih _ _ h
        refine ⟨fun j j1 j2 j3 => ?_, fun c => ?_⟩
        · by_cases z : j = i
          · subst z; exact p
          · exact a j (by omega) (by omega) j3
        · rw [b c, Nat.testBit_or, Nat.testBit_two_pow]
          simp only [Bool.or_eq_true, decide_eq_true_eq]
          constructor
          · rintro ((z | z) | z)
            · exact .inl z
            · subst z; exact .inr ⟨by omega, by omega, q⟩
            · exact .inr ⟨by omega, by omega, z.2.2⟩
          · rintro (z | z)
            · exact .inl (.inl z)
            · by_cases y : i = c
              · exact .inl (.inr y)
              · exact .inr ⟨by omega, by omega, z.2.2⟩
      · rw [if_neg p] at h
        cases h
theorem lamps_eq {V : nl_O} {N : Int} (hV : vok N V) {x : Nat} {y : Int} (hy : y = 0 ∨ y = 1) : laB y (mLa V x (2 ^ vN V) 0 (-4, 1048576)) = laA y (vLa V x (vN V) 0 0) := by
  have e := vN_eq hV
  have h0 := hV.1
  have hm7 : vN V ≤ 7 := by omega
  have h2 := bm_le hm7
  have ok : ∀ S, lG V x S = 0 ↔ lOk V x S := fun S => lOk_of (S := S) (x := x) hV hV (veq_refl V)
  cases hA : vLa V x (vN V) 0 0 with
  | none =>
    obtain ⟨j, j1, j2, j3, j4⟩ := vLa_none _ _ _ hA
    rw [mLa_none (m := vN V) (fun S hS z => by
      have := (ok S).mp z j (by omega)
      by_cases p : S.testBit j = true
      · rw [if_pos p] at this; exact j4 this
      · rw [if_neg p] at this; exact j3 this) (2 ^ vN V) 0 _ (by omega)]
    exact laB_a rfl
  | some Q =>
    obtain ⟨a, b⟩ := vLa_some _ _ _ hA
    have b' : ∀ c, Q.testBit c = true ↔ (c < vN V ∧ vMiss x 1 V c ≠ -1) := fun c => by
      rw [b c]
      simp only [Nat.zero_testBit, Bool.false_eq_true, false_or]
      constructor
      · intro z; exact ⟨by omega, z.2.2⟩
      · intro z; exact ⟨by omega, by omega, z.2⟩
    have hQ : Q < 2 ^ vN V := Nat.lt_pow_two_of_testBit Q fun c hc => by
      cases z : Q.testBit c with
      | false => rfl
      | true => have := ((b' c).mp z).1; omega
    have oQ : lG V x Q = 0 := (ok Q).mpr fun i hi => by
      by_cases p : Q.testBit i = true
      · rw [if_pos p]; exact a i (by omega) (by omega) ((b' i).mp p).2
      · rw [if_neg p]
        by_cases z : vMiss x 1 V i = -1
        · exact z
        · exact absurd ((b' i).mpr ⟨by omega, z⟩) p
    have no : ∀ S, S < 2 ^ vN V → lG V x S = 0 → S ≠ Q → bN Q < bN S ∧ Q < S := by
      intro S hS z ne
      refine b_sub S (by omega) Q (by omega) ?_ (fun w => ne w.symm)
      refine Nat.eq_of_testBit_eq fun c => ?_
      rw [Nat.testBit_and]
      cases p : Q.testBit c with
      | false => rfl
      | true =>
        have p1 := (b' c).mp p
        have := (ok S).mp z c (by omega)
        cases w : S.testBit c with
        | true => rfl
        | false =>
          rw [if_neg (by rw [w]; exact Bool.false_ne_true)] at this
          exact absurd this p1.2
    rw [mLa_some oQ no (2 ^ vN V) 0 _ (by omega) (.inl ⟨by omega, by omega, rfl⟩)]
    rcases hy with rfl | rfl
    · rw [laB_b (by omega) (by omega)]; rfl
    · rw [laB_c (by omega) rfl]; rfl
theorem sq_lamps {LS : Int} {n : Nat} (hn : 7 ≤ n) {h : nl_H} {V : nl_O} {x y N : Int} (hx : nl_inR x) (hy : nl_inR y) (hN : N ≤ 70000) (hV : vok N V) : ∃ U, nl_c LS n m_X6_lamps [vO 6 0, vI x, vI y] (sm h V) = some (rLamps V x y, sm h U) ∧ ms U V := by
  obtain ⟨n, rfl, hn1⟩ := nl_suc hn
  have h0 := hV.1
  have e := vN_eq hV
  have c1 := sq_in (LS := LS) (n := n) (by omega) (h := sm h V) (x := x) (a := 1) (b := 40) hx (by omega) (by omega)
  have c2 := sq_in (LS := LS) (n := n) (by omega) (h := sm h V) (x := y) (a := 0) (b := 1) hy (by omega) (by omega)
  obtain ⟨hx1, hx2⟩ := hx
  obtain ⟨hy1, hy2⟩ := hy
  unfold rLamps
  by_cases q1 : 1 ≤ x ∧ x ≤ 40
  · rw [if_pos q1] at c1
    by_cases q2 : 0 ≤ y ∧ y ≤ 1
    · rw [if_pos q2] at c2
      rw [if_pos ⟨q1, q2⟩]
      obtain ⟨d, rfl⟩ : ∃ d : Nat, x = d := ⟨x.toNat, by omega⟩
      rw [Int.toNat_natCast]
      obtain ⟨U, k9, k8⟩ := lp_lampsO (LS := LS) hn1 (h := h) (V := V) (x := d) (m := vN V) (y := y) hN hV e.symm (by omega) (by omega) (2 ^ vN V) 0 (W := V) (b := -4) (f := 1048576) none (by omega) (ms_refl V) (by omega) (by omega)
      rw [lamps_eq hV (by omega)] at k9
      refine ⟨U, cl_X6_lamps (.go ?_ k9), k8⟩
      rw [sg_X6_lamps_0]
      simp (disch := omega) only [↓reduceIte, i_le, i_nle, i_lt, i_nlt, i_eq, i_ne, and_self, and_true, true_and, and_false, false_and, or_true, true_or, or_false, false_or, nx_of, Int.toNat_natCast, Option.bind_some, rm_0, rm_1, rm_2, rm_3, rm_4, rm_5, rm_6, rm_7, rm_8, rm_9, rm_10, rm_11, rm_12, rm_13, rm_14, rm_15, rm_16, rm_17, rm_18, rm_19, rm_20, rm_21, rm_22, rm_23, rm_24, rm_25, rm_26, rm_27, rm_28, rm_29, um_0, um_1, um_2, um_3, um_4, um_5, um_6, um_7, um_8, um_9, um_10, um_11, um_12, um_13, um_14, um_15, um_16, um_17, um_18, um_19, um_20, um_21, um_22, um_23, um_24, um_25, um_26, um_27, um_28, um_29, rm_k, um_k, vu_at, vu_ne, ↓bd c1, ↓bd c2, c1, c2]
      rfl
    · rw [if_neg q2] at c2
      rw [if_neg (by omega)]
      refine ⟨V, cl_X6_lamps (.ret ?_), ms_refl V⟩
      rw [sg_X6_lamps_0]
      simp (disch := omega) only [↓reduceIte, i_le, i_nle, i_lt, i_nlt, i_eq, i_ne, and_self, and_true, true_and, and_false, false_and, or_true, true_or, or_false, false_or, nx_of, Int.toNat_natCast, Option.bind_some, rm_0, rm_1, rm_2, rm_3, rm_4, rm_5, rm_6, rm_7, rm_8, rm_9, rm_10, rm_11, rm_12, rm_13, rm_14, rm_15, rm_16, rm_17, rm_18, rm_19, rm_20, rm_21, rm_22, rm_23, rm_24, rm_25, rm_26, rm_27, rm_28, rm_29, um_0, um_1, um_2, um_3, um_4, um_5, um_6, um_7, um_8, um_9, um_10, um_11, um_12, um_13, um_14, um_15, um_16, um_17, um_18, um_19, um_20, um_21, um_22, um_23, um_24, um_25, um_26, um_27, um_28, um_29, rm_k, um_k, vu_at, vu_ne, ↓bd c1, ↓bd c2, c1, c2]
  · rw [if_neg q1] at c1
    rw [if_neg (by omega)]
    refine ⟨V, cl_X6_lamps (.ret ?_), ms_refl V⟩
    rw [sg_X6_lamps_0]
    simp (disch := omega) only [↓reduceIte, i_le, i_nle, i_lt, i_nlt, i_eq, i_ne, and_self, and_true, true_and, and_false, false_and, or_true, true_or, or_false, false_or, nx_of, Int.toNat_natCast, Option.bind_some, rm_0, rm_1, rm_2, rm_3, rm_4, rm_5, rm_6, rm_7, rm_8, rm_9, rm_10, rm_11, rm_12, rm_13, rm_14, rm_15, rm_16, rm_17, rm_18, rm_19, rm_20, rm_21, rm_22, rm_23, rm_24, rm_25, rm_26, rm_27, rm_28, rm_29, um_0, um_1, um_2, um_3, um_4, um_5, um_6, um_7, um_8, um_9, um_10, um_11, um_12, um_13, um_14, um_15, um_16, um_17, um_18, um_19, um_20, um_21, um_22, um_23, um_24, um_25, um_26, um_27, um_28, um_29, rm_k, um_k, vu_at, vu_ne, ↓bd c1, c1]
theorem vLa_veq {N : Int} {V W : nl_O} (hV : vok N V) (h : veq V W) {x : Nat} : ∀ (e i R : Nat), (i : Int) + e ≤ V 0 0 → vLa V x e i R = vLa W x e i R := by
  intro e
  induction e with
  | zero => intro i R _; rfl
  | succ e ih =>
    intro i R hi
    simp only [vLa]
    rw [vMiss_veq x 1 hV h (i := i) (by omega), vMiss_veq x 1 (vRest_ok hV (i := i) (by omega)) (vRest_veq h (i := i) (by omega)) (i := i) (by rw [vRest_0 (by omega)]; omega), ih (i + 1) R (by omega), ih (i + 1) (R ||| 2 ^ i) (by omega)]
theorem ag_lamps {LS : Int} {n : Nat} (hn : 20 ≤ n) {g : nl_H} (r : rg g) {x y : Int} (hx : nl_inR x) (hy : nl_inR y) : ag LS n m_X5_lamps m_X6_lamps [vI x, vI y] g := by
  have hV := vgd_N r.1
  have a2 := r.2.1
  have hW := vok_veq hV a2
  have e := vN_eq hW
  obtain ⟨W, c⟩ := pu_lamps (LS := LS) (n := n) (by omega) (h := g) hx hy (by omega) hW
  obtain ⟨U, m, s⟩ := sq_lamps (LS := LS) (n := n) (by omega) (h := so g 4 1 W) hx hy (by omega) hV
  refine ag_of rfl c (so_ne (by omega)) m ?_ (rl_ms (rl_so r (by omega)) s)
  unfold rLamps
  rw [vLa_veq hW a2 _ _ _ (by omega), vN_veq a2]
