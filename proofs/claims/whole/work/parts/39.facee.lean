/-! What is called from without: kinds, strengths, likely, winter. -/
theorem vFs_in (S : nl_O) : ∀ e t V, vFs S e t V = 0 ∨ vFs S e t V = 1 := by
  intro e
  induction e with
  | zero => intro t V; exact .inr rfl
  | succ e ih =>
    intro t V
    simp only [vFs]
    split
    · exact .inl rfl
    · exact ih (t + 1) _
/-- the bits of the kinds that fit, of e from a on -/
def vKi (S V : nl_O) (i : Nat) : Nat → Nat → Nat → Nat
  | 0, _, B => B
  | e + 1, a, B => vKi S V i e (a + 1) (if vFa S V i (a : Int) (V 5 i) = 0 then B else B ||| 2 ^ a)
theorem lp_kinds {LS : Int} {n : Nat} (hn : 6 ≤ n) {N : Int} {S V : nl_O} {i : Nat} (hN : N ≤ 70000) (hV : vok N V) (hS : sok (V 0 0) S) (hi : (i : Int) < V 0 0) : ∀ (e a B : Nat) (h : nl_H), h 4 0 = V → h 3 0 = S → a + e = 4 → B < 128 → ∃ W, nl_Rn LS cd_X5_kinds (nl_c LS n) ct_X5_kinds 1 17 [some (vO 5 0), some (vI (i : Int)), some (vI (B : Int)), some (vI (a : Int))] h (((vKi S V i e a B : Nat) : Int), so h 4 1 W) := by
  have hn9 := hV.1
  have b0 := hV.2.2.2.1 i hi
  intro e
  induction e with
  | zero =>
    intro a B h hv hs ha hB
    refine ⟨h 4 1, .ret ?_⟩
    rw [sg_X5_kinds_17]
    simp (disch := omega) only [nx_of, if_pos, if_neg, if_true, if_false, true_or, or_true, Int.toNat_natCast, Option.bind_some, vKi, so_self]
  | succ e ih =>
    intro a B h hv hs ha hB
    obtain ⟨W1, c1⟩ := sp_fits (LS := LS) hn (h := h) (i := i) (a := (a : Int)) (b := V 5 i) (N := N) hN (by rw [hv]; exact hV) (by rw [hv, hs]; exact hS) (by rw [hv]; exact hi) (by omega) (by omega)
    rw [hv, hs] at c1
    by_cases q : vFa S V i (a : Int) (V 5 i) = 0
    · have e9 : vKi S V i (e + 1) a B = vKi S V i e (a + 1) B := by simp only [vKi]; rw [if_pos q]
      rw [e9]
      obtain ⟨W, k9⟩ := ih (a + 1) B (so h 4 1 W1) (by rw [so_ne (by omega)]; exact hv) (by rw [so_ne (by omega)]; exact hs) (by omega) hB
      rw [so_so] at k9
      refine ⟨W, .go ?_ k9⟩
      rw [sg_X5_kinds_17, hv]
      simp (disch := omega) only [nx_of, if_pos, if_neg, if_true, if_false, true_or, or_true, Int.toNat_natCast, Option.bind_some, c1, q]
      rfl
    · have e9 : vKi S V i (e + 1) a B = vKi S V i e (a + 1) (B ||| 2 ^ a) := by simp only [vKi]; rw [if_neg q]
      rw [e9]
      have b3 := bo_lt hB (k := a) (by omega)
      have p9 : (0 : Int) ≤ (B : Int) ∧ (0 : Int) ≤ ((2 ^ a : Nat) : Int) := ⟨Int.natCast_nonneg _, Int.natCast_nonneg _⟩
      have q1 : vFa S V i (a : Int) (V 5 i) = 1 := by
        rcases vFs_in S (vLast S (S 3 0).toNat + 1).toNat 0 (vAs V i (a : Int) (V 5 i)) with z | z
        · exact absurd z q
        · exact z
      obtain ⟨W, k9⟩ := ih (a + 1) (B ||| 2 ^ a) (so h 4 1 W1) (by rw [so_ne (by omega)]; exact hv) (by rw [so_ne (by omega)]; exact hs) (by omega) b3
      rw [so_so] at k9
      refine ⟨W, .go ?_ k9⟩
      rw [sg_X5_kinds_17, hv]
      simp (disch := omega) only [nx_of, if_pos, if_neg, if_true, if_false, true_or, or_true, Int.toNat_natCast, Option.bind_some, c1, q1, bp_z]
      rfl
theorem pu_kinds {LS : Int} {n : Nat} (hn : 7 ≤ n) {h : nl_H} {x N : Int} (hx : nl_inR x) (hN : N ≤ 70000) (hV : vok N (h 4 0)) (hS : sok (h 4 0 0 0) (h 3 0)) : ∃ W, nl_c LS n m_X5_kinds [vO 5 0, vI x] h = some (if 0 ≤ x ∧ x < h 4 0 0 0 then ((vKi (h 3 0) (h 4 0) x.toNat 4 0 0 : Nat) : Int) else -1, so h 4 1 W) := by
  obtain ⟨n, rfl, hn1⟩ := nl_suc hn
  have hn9 := hV.1
  have c1 := sp_isHouse (LS := LS) (n := n) (by omega) (h := h) (o := 0) hx (by omega)
  by_cases q : 0 ≤ x ∧ x < h 4 0 0 0
  · obtain ⟨i, rfl⟩ : ∃ i : Nat, x = i := ⟨x.toNat, by omega⟩
    obtain ⟨W, k9⟩ := lp_kinds (LS := LS) hn1 (i := i) hN hV hS q.2 4 0 0 h rfl rfl (by omega) (by omega)
    rw [if_pos q] at c1 ⊢
    rw [Int.toNat_natCast]
    refine ⟨W, cl_X5_kinds (.go ?_ k9)⟩
    rw [sg_X5_kinds_0]
    simp (disch := omega) only [nx_of, if_pos, if_neg, if_true, if_false, true_or, or_true, Int.toNat_natCast, Option.bind_some, c1]
    rfl
  · refine ⟨h 4 1, cl_X5_kinds (.ret ?_)⟩
    rw [sg_X5_kinds_0]
    rw [if_neg q] at c1 ⊢
    simp (disch := omega) only [nx_of, if_pos, if_neg, if_true, if_false, true_or, or_true, Int.toNat_natCast, Option.bind_some, c1, so_self]
/-- the strengths that fit, of e from e - 1 down: how many, the least -/
def vSt (S V : nl_O) (i : Nat) : Nat → Int × Int → Int × Int
  | 0, g => g
  | e + 1, g => vSt S V i e (if vFa S V i (V 4 i) (e : Int) = 0 then g else (g.1 + 1, (e : Int)))
theorem lp_strengths {LS : Int} {n : Nat} (hn : 6 ≤ n) {N : Int} {S V : nl_O} {i : Nat} {y : Int} (hy : y = 0 ∨ y = 1) (hN : N ≤ 70000) (hV : vok N V) (hS : sok (V 0 0) S) (hi : (i : Int) < V 0 0) : ∀ (e : Nat) (x : Int) (g : Int × Int) (h : nl_H), h 4 0 = V → h 3 0 = S → x + 1 = e → e ≤ 41 → ∃ W, nl_Rn LS cd_X5_strengths (nl_c LS n) ct_X5_strengths 1 32 [some (vO 5 0), some (vI (i : Int)), some (vI y), some (vI g.1), some (vI g.2), some (vI x)] h (if y = 0 then (vSt S V i e g).1 else (vSt S V i e g).2, so h 4 1 W) := by
  have hn9 := hV.1
  have b0 := hV.2.2.2.1 i hi
  intro e
  induction e with
  | zero =>
    intro x g h hv hs hx he
    refine ⟨h 4 1, .ret ?_⟩
    rw [sg_X5_strengths_32]
    rcases hy with rfl | rfl
    · simp (disch := omega) only [nx_of, if_pos, if_neg, if_true, if_false, true_or, or_true, Int.toNat_natCast, Option.bind_some, vSt, so_self]
    · simp (disch := omega) only [nx_of, if_pos, if_neg, if_true, if_false, true_or, or_true, Int.toNat_natCast, Option.bind_some, vSt, so_self]
  | succ e ih =>
    intro x g h hv hs hx he
    obtain rfl : x = (e : Int) := by omega
    obtain ⟨W1, c1⟩ := sp_fits (LS := LS) hn (h := h) (i := i) (a := V 4 i) (b := (e : Int)) (N := N) hN (by rw [hv]; exact hV) (by rw [hv, hs]; exact hS) (by rw [hv]; exact hi) (by omega) (by omega)
    rw [hv, hs] at c1
    by_cases q : vFa S V i (V 4 i) (e : Int) = 0
    · have e9 : vSt S V i (e + 1) g = vSt S V i e g := by simp only [vSt]; rw [if_pos q]
      rw [e9]
      obtain ⟨W, k9⟩ := ih ((e : Int) + -1) g (so h 4 1 W1) (by rw [so_ne (by omega)]; exact hv) (by rw [so_ne (by omega)]; exact hs) (by omega) (by omega)
      rw [so_so] at k9
      refine ⟨W, .go ?_ k9⟩
      rw [sg_X5_strengths_32, hv]
      simp (disch := omega) only [nx_of, if_pos, if_neg, if_true, if_false, true_or, or_true, Int.toNat_natCast, Option.bind_some, c1, q]
    · have e9 : vSt S V i (e + 1) g = vSt S V i e (g.1 + 1, (e : Int)) := by simp only [vSt]; rw [if_neg q]
      rw [e9]
      have q1 : vFa S V i (V 4 i) (e : Int) = 1 := by
        rcases vFs_in S (vLast S (S 3 0).toNat + 1).toNat 0 (vAs V i (V 4 i) (e : Int)) with z | z
        · exact absurd z q
        · exact z
      obtain ⟨W, k9⟩ := ih ((e : Int) + -1) (g.1 + 1, (e : Int)) (so h 4 1 W1) (by rw [so_ne (by omega)]; exact hv) (by rw [so_ne (by omega)]; exact hs) (by omega) (by omega)
      rw [so_so] at k9
      refine ⟨W, .go ?_ k9⟩
      rw [sg_X5_strengths_32, hv]
      simp (disch := omega) only [nx_of, if_pos, if_neg, if_true, if_false, true_or, or_true, Int.toNat_natCast, Option.bind_some, c1, q1]
def rStrengths (S V : nl_O) (x y : Int) : Int :=
  if (0 ≤ x ∧ x < V 0 0) ∧ 0 ≤ y ∧ y ≤ 1 then (if y = 0 then (vSt S V x.toNat 41 (0, -4)).1 else (vSt S V x.toNat 41 (0, -4)).2) else -1
theorem pu_strengths {LS : Int} {n : Nat} (hn : 7 ≤ n) {h : nl_H} {x y N : Int} (hx : nl_inR x) (hy : nl_inR y) (hN : N ≤ 70000) (hV : vok N (h 4 0)) (hS : sok (h 4 0 0 0) (h 3 0)) : ∃ W, nl_c LS n m_X5_strengths [vO 5 0, vI x, vI y] h = some (rStrengths (h 3 0) (h 4 0) x y, so h 4 1 W) := by
  obtain ⟨n, rfl, hn1⟩ := nl_suc hn
  have hn9 := hV.1
  have c1 := sp_isHouse (LS := LS) (n := n) (by omega) (h := h) (o := 0) hx (by omega)
  have c3 := sp_isWithin (LS := LS) (n := n) (by omega) (h := h) (a := 0) (b := 1) hy ⟨by omega, by omega⟩ ⟨by omega, by omega⟩
  unfold rStrengths
  by_cases q : 0 ≤ x ∧ x < h 4 0 0 0
  · by_cases q2 : 0 ≤ y ∧ y ≤ 1
    · obtain ⟨i, rfl⟩ : ∃ i : Nat, x = i := ⟨x.toNat, by omega⟩
      obtain ⟨W, k9⟩ := lp_strengths (LS := LS) hn1 (i := i) (y := y) (by omega) hN hV hS q.2 41 40 (0, -4) h rfl rfl (by omega) (by omega)
      rw [if_pos ⟨q, q2⟩, Int.toNat_natCast]
      rw [if_pos q] at c1
      rw [if_pos q2] at c3
      refine ⟨W, cl_X5_strengths (.go ?_ k9)⟩
      rw [sg_X5_strengths_0]
      simp (disch := omega) only [nx_of, if_pos, if_neg, if_true, if_false, true_or, or_true, Int.toNat_natCast, Option.bind_some, c1, c3]
    · refine ⟨h 4 1, cl_X5_strengths (.ret ?_)⟩
      rw [sg_X5_strengths_0, if_neg (fun w => q2 w.2), so_self]
      rw [if_pos q] at c1
      rw [if_neg q2] at c3
      simp (disch := omega) only [nx_of, if_pos, if_neg, if_true, if_false, true_or, or_true, Int.toNat_natCast, Option.bind_some, c1, c3]
  · refine ⟨h 4 1, cl_X5_strengths (.ret ?_)⟩
    rw [sg_X5_strengths_0, if_neg (fun w => q w.1), so_self]
    rw [if_neg q] at c1
    simp (disch := omega) only [nx_of, if_pos, if_neg, if_true, if_false, true_or, or_true, Int.toNat_natCast, Option.bind_some, c1]
