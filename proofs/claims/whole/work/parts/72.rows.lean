/-! The model's rows: first, next, gaps, weight. -/
/-- the row of V is p -/
def ro (V : nl_O) (p : List Nat) : Prop := ∀ i, i < p.length → V 26 i = ((gt p i : Nat) : Int)
/-- all but field k -/
def sx (k : Nat) (W V : nl_O) : Prop := ∀ j i : Nat, j ≠ k → W j i = V j i
theorem sx_refl (k : Nat) (V : nl_O) : sx k V V := fun _ _ _ => rfl
theorem sx_trans {k : Nat} {U V W : nl_O} (a : sx k U V) (b : sx k V W) : sx k U W := fun j i h => (a j i h).trans (b j i h)
theorem ro_sw {V : nl_O} {p : List Nat} {a b : Nat} (h : ro V p) (ha : a < p.length) (hb : b < p.length) : ro (vu (vu V 26 a (V 26 b)) 26 b (V 26 a)) (gsw p a b) := by
  intro i hi
  rw [gsw_len] at hi
  rw [gt_sw ha hb]
  by_cases q : i = b
  · subst q
    rw [vu_at, if_pos rfl, h a ha]
  · rw [vu_ne (by omega), if_neg q]
    by_cases p1 : i = a
    · subst p1
      rw [vu_at, if_pos rfl, h b hb]
    · rw [vu_ne (by omega), if_neg p1, h i hi]
theorem kS_lt {p : List Nat} : ∀ c k, kS p c = some k → k < c := by
  intro c
  induction c with
  | zero => intro k h; cases h
  | succ c ih =>
    intro k h
    simp only [kS] at h
    split at h
    · have := ih k h; omega
    · have := Option.some.inj h; omega
theorem jS_in {p : List Nat} {k : Nat} : ∀ j, k ≤ j → k ≤ jS p (gt p k) j ∧ jS p (gt p k) j ≤ j := by
  intro j
  induction j with
  | zero => intro h; simp only [jS]; omega
  | succ j ih =>
    intro h
    simp only [jS]
    split
    · rename_i q
      have : k ≠ j + 1 := fun z => by subst z; omega
      have := ih (by omega)
      omega
    · omega
theorem lp_nx1 {LS : Int} {den : nl_D} {h : nl_H} {V : nl_O} {p : List Nat} {m : Nat} (hm : 2 ≤ m ∧ m ≤ 7) (h0 : V 0 0 = (m : Int)) (hl : p.length = m) (hr : ro V p) (h7 : ∀ i, i < m → gt p i ≤ 7) : ∀ (c : Nat) (x : Int), x + 1 = (c : Int) → c ≤ m - 1 →
    (kS p c = none → nl_Rn LS cd_X6_nextRow den ct_X6_nextRow 3 7 [some (vO 6 0), some (vI x), none, none, none, none, none] (sm h V) (0, sm h V)) ∧
    (∀ k r, kS p c = some k → nl_Rn LS cd_X6_nextRow den ct_X6_nextRow 3 47 [some (vO 6 0), some (vI (k : Int)), some (vI ((m : Int) - 1)), none, none, none, none] (sm h V) r → nl_Rn LS cd_X6_nextRow den ct_X6_nextRow 3 7 [some (vO 6 0), some (vI x), none, none, none, none, none] (sm h V) r) := by
  intro c
  induction c with
  | zero =>
    intro x hx hc
    constructor
    · intro _
      refine .ret ?_
      rw [sg_X6_nextRow_7]
      simp (disch := omega) only [↓reduceIte, i_le, i_nle, i_lt, i_nlt, i_eq, i_ne, and_self, and_true, true_and, and_false, false_and, or_true, true_or, or_false, false_or, nx_of, Int.toNat_natCast, Option.bind_some, rm_0, rm_1, rm_2, rm_3, rm_4, rm_5, rm_6, rm_7, rm_8, rm_9, rm_10, rm_11, rm_12, rm_13, rm_14, rm_15, rm_16, rm_17, rm_18, rm_19, rm_20, rm_21, rm_22, rm_23, rm_24, rm_25, rm_26, rm_27, rm_28, rm_29, um_0, um_1, um_2, um_3, um_4, um_5, um_6, um_7, um_8, um_9, um_10, um_11, um_12, um_13, um_14, um_15, um_16, um_17, um_18, um_19, um_20, um_21, um_22, um_23, um_24, um_25, um_26, um_27, um_28, um_29, rm_k, um_k, vu_at, vu_ne]
    · intro k r hk
      cases hk
  | succ c ih =>
    intro x hx hc
    obtain rfl : x = (c : Int) := by omega
    have r1 := hr c (by omega)
    have r2 := hr (c + 1) (by omega)
    have g1 := h7 c (by omega)
    have g2 := h7 (c + 1) (by omega)
    have e1 : (c : Int) + 1 = ((c + 1 : Nat) : Int) := by omega
    have e2 : (c : Int) + (-1) = (c : Int) - 1 := by omega
    have k9 := ih ((c : Int) - 1) (by omega) (by omega)
    simp only [kS]
    by_cases q : gt p (c + 1) < gt p c
    · rw [if_pos q]
      have hs : nl_ex LS cd_X6_nextRow den ct_X6_nextRow 3 400 7 [some (vO 6 0), some (vI (c : Int)), none, none, none, none, none] [] (sm h V) = some (.inl (7, [some (vO 6 0), some (vI ((c : Int) - 1)), none, none, none, none, none], sm h V)) := by
        rw [sg_X6_nextRow_7]
        simp (disch := omega) only [↓reduceIte, i_le, i_nle, i_lt, i_nlt, i_eq, i_ne, and_self, and_true, true_and, and_false, false_and, or_true, true_or, or_false, false_or, nx_of, Int.toNat_natCast, Option.bind_some, rm_0, rm_1, rm_2, rm_3, rm_4, rm_5, rm_6, rm_7, rm_8, rm_9, rm_10, rm_11, rm_12, rm_13, rm_14, rm_15, rm_16, rm_17, rm_18, rm_19, rm_20, rm_21, rm_22, rm_23, rm_24, rm_25, rm_26, rm_27, rm_28, rm_29, um_0, um_1, um_2, um_3, um_4, um_5, um_6, um_7, um_8, um_9, um_10, um_11, um_12, um_13, um_14, um_15, um_16, um_17, um_18, um_19, um_20, um_21, um_22, um_23, um_24, um_25, um_26, um_27, um_28, um_29, rm_k, um_k, vu_at, vu_ne, e1, e2, r1, r2]
      exact ⟨fun z => .go hs (k9.1 z), fun k r z kk => .go hs (k9.2 k r z kk)⟩
    · rw [if_neg q]
      refine ⟨fun z => (by cases z), fun k r z kk => ?_⟩
      obtain rfl := Option.some.inj z
      refine .go ?_ kk
      rw [sg_X6_nextRow_7]
      simp (disch := omega) only [↓reduceIte, i_le, i_nle, i_lt, i_nlt, i_eq, i_ne, and_self, and_true, true_and, and_false, false_and, or_true, true_or, or_false, false_or, nx_of, Int.toNat_natCast, Option.bind_some, rm_0, rm_1, rm_2, rm_3, rm_4, rm_5, rm_6, rm_7, rm_8, rm_9, rm_10, rm_11, rm_12, rm_13, rm_14, rm_15, rm_16, rm_17, rm_18, rm_19, rm_20, rm_21, rm_22, rm_23, rm_24, rm_25, rm_26, rm_27, rm_28, rm_29, um_0, um_1, um_2, um_3, um_4, um_5, um_6, um_7, um_8, um_9, um_10, um_11, um_12, um_13, um_14, um_15, um_16, um_17, um_18, um_19, um_20, um_21, um_22, um_23, um_24, um_25, um_26, um_27, um_28, um_29, rm_k, um_k, vu_at, vu_ne, e1, r1, r2, h0]
theorem lp_nx2 {LS : Int} {den : nl_D} {h : nl_H} {V : nl_O} {p : List Nat} {m k : Nat} {r : Int × nl_H} (hm : 2 ≤ m ∧ m ≤ 7) (h0 : V 0 0 = (m : Int)) (hl : p.length = m) (hr : ro V p) (h7 : ∀ i, i < m → gt p i ≤ 7) : ∀ (j : Nat), j < m → k ≤ j →
    nl_Rn LS cd_X6_nextRow den ct_X6_nextRow 3 107 [some (vO 6 0), some (vI (k : Int)), some (vI ((jS p (gt p k) j : Nat) : Int)), some (vI (V 26 k)), some (vI ((m : Int) - 1)), some (vI ((k : Int) + 1)), none] (sm h (vu (vu V 26 k (V 26 (jS p (gt p k) j))) 26 (jS p (gt p k) j) (V 26 k))) r →
    nl_Rn LS cd_X6_nextRow den ct_X6_nextRow 3 47 [some (vO 6 0), some (vI (k : Int)), some (vI (j : Int)), none, none, none, none] (sm h V) r := by
  intro j
  induction j with
  | zero =>
    intro hj hk kk
    obtain rfl : k = 0 := by omega
    have r1 := hr 0 (by omega)
    have g1 := h7 0 (by omega)
    simp only [jS] at kk
    refine .go ?_ kk
    rw [sg_X6_nextRow_47]
    simp (disch := omega) only [↓reduceIte, i_le, i_nle, i_lt, i_nlt, i_eq, i_ne, and_self, and_true, true_and, and_false, false_and, or_true, true_or, or_false, false_or, nx_of, Int.toNat_natCast, Option.bind_some, rm_0, rm_1, rm_2, rm_3, rm_4, rm_5, rm_6, rm_7, rm_8, rm_9, rm_10, rm_11, rm_12, rm_13, rm_14, rm_15, rm_16, rm_17, rm_18, rm_19, rm_20, rm_21, rm_22, rm_23, rm_24, rm_25, rm_26, rm_27, rm_28, rm_29, um_0, um_1, um_2, um_3, um_4, um_5, um_6, um_7, um_8, um_9, um_10, um_11, um_12, um_13, um_14, um_15, um_16, um_17, um_18, um_19, um_20, um_21, um_22, um_23, um_24, um_25, um_26, um_27, um_28, um_29, rm_k, um_k, vu_at, vu_ne, r1, h0]
  | succ j ih =>
    intro hj hk kk
    have r1 := hr k (by omega)
    have r2 := hr (j + 1) (by omega)
    have g1 := h7 k (by omega)
    have g2 := h7 (j + 1) (by omega)
    have e2 : ((j + 1 : Nat) : Int) + (-1) = (j : Int) := by omega
    by_cases q : gt p (j + 1) < gt p k
    · have ne : k ≠ j + 1 := fun z => by subst z; omega
      have ej : jS p (gt p k) (j + 1) = jS p (gt p k) j := by simp only [jS]; rw [if_pos q]
      rw [ej] at kk
      refine .go ?_ (ih (by omega) (by omega) kk)
      rw [sg_X6_nextRow_47]
      simp (disch := omega) only [↓reduceIte, i_le, i_nle, i_lt, i_nlt, i_eq, i_ne, and_self, and_true, true_and, and_false, false_and, or_true, true_or, or_false, false_or, nx_of, Int.toNat_natCast, Option.bind_some, rm_0, rm_1, rm_2, rm_3, rm_4, rm_5, rm_6, rm_7, rm_8, rm_9, rm_10, rm_11, rm_12, rm_13, rm_14, rm_15, rm_16, rm_17, rm_18, rm_19, rm_20, rm_21, rm_22, rm_23, rm_24, rm_25, rm_26, rm_27, rm_28, rm_29, um_0, um_1, um_2, um_3, um_4, um_5, um_6, um_7, um_8, um_9, um_10, um_11, um_12, um_13, um_14, um_15, um_16, um_17, um_18, um_19, um_20, um_21, um_22, um_23, um_24, um_25, um_26, um_27, um_28, um_29, rm_k, um_k, vu_at, vu_ne, r1, r2, e2]
    · have ej : jS p (gt p k) (j + 1) = j + 1 := by simp only [jS]; rw [if_neg q]
      rw [ej] at kk
      refine .go ?_ kk
      rw [sg_X6_nextRow_47]
      simp (disch := omega) only [↓reduceIte, i_le, i_nle, i_lt, i_nlt, i_eq, i_ne, and_self, and_true, true_and, and_false, false_and, or_true, true_or, or_false, false_or, nx_of, Int.toNat_natCast, Option.bind_some, rm_0, rm_1, rm_2, rm_3, rm_4, rm_5, rm_6, rm_7, rm_8, rm_9, rm_10, rm_11, rm_12, rm_13, rm_14, rm_15, rm_16, rm_17, rm_18, rm_19, rm_20, rm_21, rm_22, rm_23, rm_24, rm_25, rm_26, rm_27, rm_28, rm_29, um_0, um_1, um_2, um_3, um_4, um_5, um_6, um_7, um_8, um_9, um_10, um_11, um_12, um_13, um_14, um_15, um_16, um_17, um_18, um_19, um_20, um_21, um_22, um_23, um_24, um_25, um_26, um_27, um_28, um_29, rm_k, um_k, vu_at, vu_ne, r1, r2, h0]
theorem lp_nx3 {LS : Int} {den : nl_D} {h : nl_H} {y1 y2 y3 : Int} : ∀ (n a b : Nat) (V : nl_O) (p : List Nat) (w6 : Option nl_V), b < n + a → a ≤ 20 → p.length ≤ 7 → b < p.length → ro V p → ∃ W, nl_Rn LS cd_X6_nextRow den ct_X6_nextRow 3 107 [some (vO 6 0), some (vI y1), some (vI y2), some (vI y3), some (vI (b : Int)), some (vI (a : Int)), w6] (sm h V) (1, sm h W) ∧ ro W (rv n p a b) ∧ sx 26 W V := by
  intro n
  induction n with
  | zero =>
    intro a b V p w6 hn ha hl hb hr
    refine ⟨V, .ret ?_, hr, sx_refl 26 V⟩
    rw [sg_X6_nextRow_107]
    simp (disch := omega) only [↓reduceIte, i_le, i_nle, i_lt, i_nlt, i_eq, i_ne, and_self, and_true, true_and, and_false, false_and, or_true, true_or, or_false, false_or, nx_of, Int.toNat_natCast, Option.bind_some, rm_0, rm_1, rm_2, rm_3, rm_4, rm_5, rm_6, rm_7, rm_8, rm_9, rm_10, rm_11, rm_12, rm_13, rm_14, rm_15, rm_16, rm_17, rm_18, rm_19, rm_20, rm_21, rm_22, rm_23, rm_24, rm_25, rm_26, rm_27, rm_28, rm_29, um_0, um_1, um_2, um_3, um_4, um_5, um_6, um_7, um_8, um_9, um_10, um_11, um_12, um_13, um_14, um_15, um_16, um_17, um_18, um_19, um_20, um_21, um_22, um_23, um_24, um_25, um_26, um_27, um_28, um_29, rm_k, um_k, vu_at, vu_ne]
  | succ n ih =>
    intro a b V p w6 hn ha hl hb hr
    by_cases q : b ≤ a
    · have e : rv (n + 1) p a b = p := by simp only [rv]; rw [if_pos q]
      rw [e]
      refine ⟨V, .ret ?_, hr, sx_refl 26 V⟩
      rw [sg_X6_nextRow_107]
      simp (disch := omega) only [↓reduceIte, i_le, i_nle, i_lt, i_nlt, i_eq, i_ne, and_self, and_true, true_and, and_false, false_and, or_true, true_or, or_false, false_or, nx_of, Int.toNat_natCast, Option.bind_some, rm_0, rm_1, rm_2, rm_3, rm_4, rm_5, rm_6, rm_7, rm_8, rm_9, rm_10, rm_11, rm_12, rm_13, rm_14, rm_15, rm_16, rm_17, rm_18, rm_19, rm_20, rm_21, rm_22, rm_23, rm_24, rm_25, rm_26, rm_27, rm_28, rm_29, um_0, um_1, um_2, um_3, um_4, um_5, um_6, um_7, um_8, um_9, um_10, um_11, um_12, um_13, um_14, um_15, um_16, um_17, um_18, um_19, um_20, um_21, um_22, um_23, um_24, um_25, um_26, um_27, um_28, um_29, rm_k, um_k, vu_at, vu_ne]
    · have e : rv (n + 1) p a b = rv n (gsw p a b) (a + 1) (b - 1) := by simp only [rv]; rw [if_neg q]
      rw [e]
      have hs := ro_sw (a := a) (b := b) hr (by omega) hb
      obtain ⟨W, k1, k2, k3⟩ := ih (a + 1) (b - 1) (vu (vu V 26 a (V 26 b)) 26 b (V 26 a)) (gsw p a b) (some (vI (V 26 a))) (by omega) (by omega) (by rw [gsw_len]; exact hl) (by rw [gsw_len]; omega) hs
      refine ⟨W, .go ?_ k1, k2, sx_trans k3 fun j i hj => by rw [vu_k hj, vu_k hj]⟩
      have e2 : (b : Int) + (-1) = ((b - 1 : Nat) : Int) := by omega
      rw [sg_X6_nextRow_107]
      simp (disch := omega) only [↓reduceIte, i_le, i_nle, i_lt, i_nlt, i_eq, i_ne, and_self, and_true, true_and, and_false, false_and, or_true, true_or, or_false, false_or, nx_of, Int.toNat_natCast, Option.bind_some, rm_0, rm_1, rm_2, rm_3, rm_4, rm_5, rm_6, rm_7, rm_8, rm_9, rm_10, rm_11, rm_12, rm_13, rm_14, rm_15, rm_16, rm_17, rm_18, rm_19, rm_20, rm_21, rm_22, rm_23, rm_24, rm_25, rm_26, rm_27, rm_28, rm_29, um_0, um_1, um_2, um_3, um_4, um_5, um_6, um_7, um_8, um_9, um_10, um_11, um_12, um_13, um_14, um_15, um_16, um_17, um_18, um_19, um_20, um_21, um_22, um_23, um_24, um_25, um_26, um_27, um_28, um_29, rm_k, um_k, vu_at, vu_ne, e2]
      rfl
theorem sq_nextRow {LS : Int} {n : Nat} (hn : 1 ≤ n) {h : nl_H} {V : nl_O} {p : List Nat} {m : Nat} (hm : 2 ≤ m ∧ m ≤ 7) (h0 : V 0 0 = (m : Int)) (hl : p.length = m) (hr : ro V p) (h7 : ∀ i, i < m → gt p i ≤ 7) :
    (nx m p = none → nl_c LS n m_X6_nextRow [vO 6 0] (sm h V) = some (0, sm h V)) ∧ (∀ q, nx m p = some q → ∃ W, nl_c LS n m_X6_nextRow [vO 6 0] (sm h V) = some (1, sm h W) ∧ ro W q ∧ sx 26 W V) := by
  obtain ⟨n, rfl, hn1⟩ := nl_suc hn
  have hs : nl_ex LS cd_X6_nextRow (nl_c LS n) ct_X6_nextRow 3 400 0 [some (vO 6 0), none, none, none, none, none, none] [] (sm h V) = some (.inl (7, [some (vO 6 0), some (vI ((m : Int) - 2)), none, none, none, none, none], sm h V)) := by
    rw [sg_X6_nextRow_0]
    simp (disch := omega) only [↓reduceIte, i_le, i_nle, i_lt, i_nlt, i_eq, i_ne, and_self, and_true, true_and, and_false, false_and, or_true, true_or, or_false, false_or, nx_of, Int.toNat_natCast, Option.bind_some, rm_0, rm_1, rm_2, rm_3, rm_4, rm_5, rm_6, rm_7, rm_8, rm_9, rm_10, rm_11, rm_12, rm_13, rm_14, rm_15, rm_16, rm_17, rm_18, rm_19, rm_20, rm_21, rm_22, rm_23, rm_24, rm_25, rm_26, rm_27, rm_28, rm_29, um_0, um_1, um_2, um_3, um_4, um_5, um_6, um_7, um_8, um_9, um_10, um_11, um_12, um_13, um_14, um_15, um_16, um_17, um_18, um_19, um_20, um_21, um_22, um_23, um_24, um_25, um_26, um_27, um_28, um_29, rm_k, um_k, vu_at, vu_ne, h0]
  have k1 := lp_nx1 (LS := LS) (den := nl_c LS n) (h := h) hm h0 hl hr h7 (m - 1) ((m : Int) - 2) (by omega) (by omega)
  unfold nx
  cases hk : kS p (m - 1) with
  | none =>
    refine ⟨fun _ => cl_X6_nextRow (.go hs (k1.1 hk)), fun q z => by cases z⟩
  | some k =>
    refine ⟨fun z => (by cases z), fun q z => ?_⟩
    obtain rfl := Option.some.inj z
    have kl := kS_lt _ _ hk
    have ji := jS_in (p := p) (k := k) (m - 1) (by omega)
    obtain ⟨W, w1, w2, w3⟩ := lp_nx3 (LS := LS) (den := nl_c LS n) (h := h) (y1 := (k : Int)) (y2 := ((jS p (gt p k) (m - 1) : Nat) : Int)) (y3 := V 26 k) m (k + 1) (m - 1) (vu (vu V 26 k (V 26 (jS p (gt p k) (m - 1)))) 26 (jS p (gt p k) (m - 1)) (V 26 k)) (gsw p k (jS p (gt p k) (m - 1))) none (by omega) (by omega) (by rw [gsw_len]; omega) (by rw [gsw_len]; omega) (ro_sw hr (by omega) (by omega))
    have e1 : ((m - 1 : Nat) : Int) = (m : Int) - 1 := by omega
    have e2 : ((k + 1 : Nat) : Int) = (k : Int) + 1 := by omega
    rw [e1, e2] at w1
    have k2 := lp_nx2 (LS := LS) (den := nl_c LS n) (h := h) (k := k) hm h0 hl hr h7 (m - 1) (by omega) (by omega) w1
    rw [e1] at k2
    exact ⟨W, cl_X6_nextRow (.go hs (k1.2 k _ hk k2)), w2, sx_trans w3 fun j i hj => by rw [vu_k hj, vu_k hj]⟩
theorem gt_range (m i : Nat) (h : i < m) : gt (List.range m) i = i := by
  have key : ∀ (p : List Nat) (i : Nat), gt p i = p.getD i 0 := by
    intro p
    induction p with
    | nil => intro i; rfl
    | cons x r ih => intro i; cases i with
      | zero => rfl
      | succ i => show gt r i = _; rw [ih]; rfl
  rw [key, List.getD_eq_getElem?_getD, List.getElem?_range h]
  rfl
def mFr (V : nl_O) (j : Nat) : nl_O := fun k i => if k = 26 ∧ i < j then (i : Int) else V k i
theorem lp_firstRow {LS : Int} {den : nl_D} {h : nl_H} {V : nl_O} {m : Nat} (hm : m ≤ 7) (h0 : V 0 0 = (m : Int)) : ∀ (d j : Nat), j + d = m → nl_Rn LS cd_X6_firstRow den ct_X6_firstRow 0 2 [some (vO 6 0), some (vI (j : Int))] (sm h (mFr V j)) (0, sm h (mFr V m)) := by
  have e0 : ∀ j, mFr V j 0 0 = (m : Int) := fun j => by unfold mFr; rw [if_neg (by omega)]; exact h0
  intro d
  induction d with
  | zero =>
    intro j hj
    obtain rfl : j = m := by omega
    have := e0 j
    refine .ret ?_
    rw [sg_X6_firstRow_2]
    simp (disch := omega) only [↓reduceIte, i_le, i_nle, i_lt, i_nlt, i_eq, i_ne, and_self, and_true, true_and, and_false, false_and, or_true, true_or, or_false, false_or, nx_of, Int.toNat_natCast, Option.bind_some, rm_0, rm_1, rm_2, rm_3, rm_4, rm_5, rm_6, rm_7, rm_8, rm_9, rm_10, rm_11, rm_12, rm_13, rm_14, rm_15, rm_16, rm_17, rm_18, rm_19, rm_20, rm_21, rm_22, rm_23, rm_24, rm_25, rm_26, rm_27, rm_28, rm_29, um_0, um_1, um_2, um_3, um_4, um_5, um_6, um_7, um_8, um_9, um_10, um_11, um_12, um_13, um_14, um_15, um_16, um_17, um_18, um_19, um_20, um_21, um_22, um_23, um_24, um_25, um_26, um_27, um_28, um_29, rm_k, um_k, vu_at, vu_ne, this]
  | succ d ih =>
    intro j hj
    have e := e0 j
    have es : vu (mFr V j) 26 j (j : Int) = mFr V (j + 1) := by
      funext k i
      unfold vu mFr
      by_cases q : k = 26 ∧ i = j
      · rw [if_pos q, if_pos (by omega), q.2]
      · rw [if_neg q]
        by_cases q2 : k = 26 ∧ i < j
        · rw [if_pos q2, if_pos (by omega)]
        · rw [if_neg q2, if_neg (by omega)]
    have k9 := ih (j + 1) (by omega)
    rw [← es] at k9
    refine .go ?_ k9
    rw [sg_X6_firstRow_2]
    simp (disch := omega) only [↓reduceIte, i_le, i_nle, i_lt, i_nlt, i_eq, i_ne, and_self, and_true, true_and, and_false, false_and, or_true, true_or, or_false, false_or, nx_of, Int.toNat_natCast, Option.bind_some, rm_0, rm_1, rm_2, rm_3, rm_4, rm_5, rm_6, rm_7, rm_8, rm_9, rm_10, rm_11, rm_12, rm_13, rm_14, rm_15, rm_16, rm_17, rm_18, rm_19, rm_20, rm_21, rm_22, rm_23, rm_24, rm_25, rm_26, rm_27, rm_28, rm_29, um_0, um_1, um_2, um_3, um_4, um_5, um_6, um_7, um_8, um_9, um_10, um_11, um_12, um_13, um_14, um_15, um_16, um_17, um_18, um_19, um_20, um_21, um_22, um_23, um_24, um_25, um_26, um_27, um_28, um_29, rm_k, um_k, vu_at, vu_ne, e]
    rfl
theorem sq_firstRow {LS : Int} {n : Nat} (hn : 1 ≤ n) {h : nl_H} {V : nl_O} {m : Nat} (hm : m ≤ 7) (h0 : V 0 0 = (m : Int)) : ∃ W, nl_c LS n m_X6_firstRow [vO 6 0] (sm h V) = some (0, sm h W) ∧ ro W (List.range m) ∧ sx 26 W V := by
  obtain ⟨n, rfl, hn1⟩ := nl_suc hn
  have k9 := lp_firstRow (LS := LS) (den := nl_c LS n) (h := h) hm h0 m 0 (by omega)
  have z : mFr V 0 = V := by funext k i; unfold mFr; rw [if_neg (by omega)]
  rw [z] at k9
  refine ⟨mFr V m, cl_X6_firstRow (.go ?_ k9), fun i hi => ?_, fun j i hj => ?_⟩
  · rw [sg_X6_firstRow_0]
    rfl
  · rw [List.length_range] at hi
    rw [gt_range m i hi]
    unfold mFr
    rw [if_pos ⟨rfl, hi⟩]
  · unfold mFr
    rw [if_neg (fun z => hj z.1)]
def gB (V : nl_O) : Nat → List Nat → Nat
  | _, [] => 0
  | i, k :: r => (if vHv V i k ≤ V 5 i - V 7 i then 0 else 1) + gB V (i + 1) r
def sW (V : nl_O) : Nat → List Nat → Int
  | _, [] => 0
  | i, k :: r => (if vHv V i k ≤ V 5 i - V 7 i then vHv V i k else 0) + sW V (i + 1) r
theorem gB_le (V : nl_O) : ∀ (p : List Nat) (i : Nat), gB V i p ≤ p.length := by
  intro p
  induction p with
  | nil => intro i; exact Nat.le_refl _
  | cons k r ih => intro i; simp only [gB, List.length_cons]; have := ih (i + 1); split <;> omega
theorem sW_in {N : Int} {V : nl_O} (hV : vok N V) : ∀ (p : List Nat) (i : Nat), (∀ k, k ∈ p → (k : Int) < V 0 0) → 0 ≤ sW V i p ∧ sW V i p ≤ 40 * p.length := by
  intro p
  induction p with
  | nil => intro i _; exact ⟨Int.le_refl _, by simp only [sW, List.length_nil]; omega⟩
  | cons k r ih =>
    intro i h
    have b := vHv_in hV (i := i) (k := k) (h k List.mem_cons_self)
    have c := ih (i + 1) fun k hk => h k (List.mem_cons_of_mem _ hk)
    simp only [sW, List.length_cons]
    split <;> omega
theorem gt_drop : ∀ (p : List Nat) (i : Nat), i < p.length → p.drop i = gt p i :: p.drop (i + 1) := by
  intro p
  induction p with
  | nil => intro i h; simp only [List.length_nil] at h; omega
  | cons x r ih =>
    intro i h
    simp only [List.length_cons] at h
    cases i with
    | zero => rfl
    | succ i => simp only [List.drop_succ_cons]; exact ih i (by omega)
theorem lp_gapsBy {LS : Int} {n : Nat} (hn : 4 ≤ n) {h : nl_H} {V : nl_O} {p : List Nat} {N : Int} (hN : N ≤ 100000) (hV : vok N V) (hl : (p.length : Int) = V 0 0) (hr : ro V p) (hp : ∀ i, i < p.length → gt p i < p.length) : ∀ (d i g : Nat), i + d = p.length → g ≤ i → nl_Rn LS cd_X6_gapsBy (nl_c LS n) ct_X6_gapsBy 1 4 [some (vO 6 0), some (vI (g : Int)), some (vI (i : Int))] (sm h V) (((g + gB V i (p.drop i) : Nat) : Int), sm h V) := by
  have h0 := hV.1
  intro d
  induction d with
  | zero =>
    intro i g hi hg
    refine .ret ?_
    rw [sg_X6_gapsBy_4, List.drop_eq_nil_of_le (by omega)]
    simp only [gB]
    simp (disch := omega) only [↓reduceIte, i_le, i_nle, i_lt, i_nlt, i_eq, i_ne, and_self, and_true, true_and, and_false, false_and, or_true, true_or, or_false, false_or, nx_of, Int.toNat_natCast, Option.bind_some, rm_0, rm_1, rm_2, rm_3, rm_4, rm_5, rm_6, rm_7, rm_8, rm_9, rm_10, rm_11, rm_12, rm_13, rm_14, rm_15, rm_16, rm_17, rm_18, rm_19, rm_20, rm_21, rm_22, rm_23, rm_24, rm_25, rm_26, rm_27, rm_28, rm_29, um_0, um_1, um_2, um_3, um_4, um_5, um_6, um_7, um_8, um_9, um_10, um_11, um_12, um_13, um_14, um_15, um_16, um_17, um_18, um_19, um_20, um_21, um_22, um_23, um_24, um_25, um_26, um_27, um_28, um_29, rm_k, um_k, vu_at, vu_ne]
    rfl
  | succ d ih =>
    intro i g hi hg
    have r1 := hr i (by omega)
    have q1 := hp i (by omega)
    have c1 := sq_keeps (LS := LS) hn (h := h) (V := V) (i := i) (k := gt p i) hN hV (by omega) (by omega)
    rw [gt_drop p i (by omega)]
    simp only [gB]
    by_cases q : vHv V i (gt p i) ≤ V 5 i - V 7 i
    · rw [if_pos q] at c1 ⊢
      have k9 := ih (i + 1) g (by omega) (by omega)
      rw [Nat.zero_add]
      refine .go ?_ k9
      rw [sg_X6_gapsBy_4]
      simp (disch := omega) only [↓reduceIte, i_le, i_nle, i_lt, i_nlt, i_eq, i_ne, and_self, and_true, true_and, and_false, false_and, or_true, true_or, or_false, false_or, nx_of, Int.toNat_natCast, Option.bind_some, rm_0, rm_1, rm_2, rm_3, rm_4, rm_5, rm_6, rm_7, rm_8, rm_9, rm_10, rm_11, rm_12, rm_13, rm_14, rm_15, rm_16, rm_17, rm_18, rm_19, rm_20, rm_21, rm_22, rm_23, rm_24, rm_25, rm_26, rm_27, rm_28, rm_29, um_0, um_1, um_2, um_3, um_4, um_5, um_6, um_7, um_8, um_9, um_10, um_11, um_12, um_13, um_14, um_15, um_16, um_17, um_18, um_19, um_20, um_21, um_22, um_23, um_24, um_25, um_26, um_27, um_28, um_29, rm_k, um_k, vu_at, vu_ne, ↓bd c1, c1, r1, Int.add_zero]
      rfl
    · rw [if_neg q] at c1 ⊢
      have k9 := ih (i + 1) (g + 1) (by omega) (by omega)
      rw [Nat.add_assoc] at k9
      refine .go ?_ k9
      rw [sg_X6_gapsBy_4]
      simp (disch := omega) only [↓reduceIte, i_le, i_nle, i_lt, i_nlt, i_eq, i_ne, and_self, and_true, true_and, and_false, false_and, or_true, true_or, or_false, false_or, nx_of, Int.toNat_natCast, Option.bind_some, rm_0, rm_1, rm_2, rm_3, rm_4, rm_5, rm_6, rm_7, rm_8, rm_9, rm_10, rm_11, rm_12, rm_13, rm_14, rm_15, rm_16, rm_17, rm_18, rm_19, rm_20, rm_21, rm_22, rm_23, rm_24, rm_25, rm_26, rm_27, rm_28, rm_29, um_0, um_1, um_2, um_3, um_4, um_5, um_6, um_7, um_8, um_9, um_10, um_11, um_12, um_13, um_14, um_15, um_16, um_17, um_18, um_19, um_20, um_21, um_22, um_23, um_24, um_25, um_26, um_27, um_28, um_29, rm_k, um_k, vu_at, vu_ne, ↓bd c1, c1, r1]
      rfl
theorem sq_gapsBy {LS : Int} {n : Nat} (hn : 5 ≤ n) {h : nl_H} {V : nl_O} {p : List Nat} {N : Int} (hN : N ≤ 100000) (hV : vok N V) (hl : (p.length : Int) = V 0 0) (hr : ro V p) (hp : ∀ i, i < p.length → gt p i < p.length) : nl_c LS n m_X6_gapsBy [vO 6 0] (sm h V) = some (((gB V 0 p : Nat) : Int), sm h V) := by
  obtain ⟨n, rfl, hn1⟩ := nl_suc hn
  have k9 := lp_gapsBy (LS := LS) hn1 (h := h) hN hV hl hr hp p.length 0 0 (by omega) (by omega)
  rw [List.drop_zero, Nat.zero_add] at k9
  refine cl_X6_gapsBy (.go ?_ k9)
  rw [sg_X6_gapsBy_0]
  rfl
theorem lp_keptWeight {LS : Int} {n : Nat} (hn : 4 ≤ n) {h : nl_H} {V : nl_O} {p : List Nat} {N : Int} (hN : N ≤ 100000) (hV : vok N V) (hl : (p.length : Int) = V 0 0) (hr : ro V p) (hp : ∀ i, i < p.length → gt p i < p.length) : ∀ (d i : Nat) (g : Int), i + d = p.length → 0 ≤ g ∧ g ≤ 40 * i → nl_Rn LS cd_X6_keptWeight (nl_c LS n) ct_X6_keptWeight 1 4 [some (vO 6 0), some (vI g), some (vI (i : Int))] (sm h V) (g + sW V i (p.drop i), sm h V) := by
  have h0 := hV.1
  intro d
  induction d with
  | zero =>
    intro i g hi hg
    refine .ret ?_
    rw [sg_X6_keptWeight_4, List.drop_eq_nil_of_le (by omega)]
    simp only [sW]
    rw [Int.add_zero]
    simp (disch := omega) only [↓reduceIte, i_le, i_nle, i_lt, i_nlt, i_eq, i_ne, and_self, and_true, true_and, and_false, false_and, or_true, true_or, or_false, false_or, nx_of, Int.toNat_natCast, Option.bind_some, rm_0, rm_1, rm_2, rm_3, rm_4, rm_5, rm_6, rm_7, rm_8, rm_9, rm_10, rm_11, rm_12, rm_13, rm_14, rm_15, rm_16, rm_17, rm_18, rm_19, rm_20, rm_21, rm_22, rm_23, rm_24, rm_25, rm_26, rm_27, rm_28, rm_29, um_0, um_1, um_2, um_3, um_4, um_5, um_6, um_7, um_8, um_9, um_10, um_11, um_12, um_13, um_14, um_15, um_16, um_17, um_18, um_19, um_20, um_21, um_22, um_23, um_24, um_25, um_26, um_27, um_28, um_29, rm_k, um_k, vu_at, vu_ne]
  | succ d ih =>
    intro i g hi hg
    have r1 := hr i (by omega)
    have q1 := hp i (by omega)
    have b := vHv_in hV (i := i) (k := gt p i) (by omega)
    have c1 := sq_keeps (LS := LS) hn (h := h) (V := V) (i := i) (k := gt p i) hN hV (by omega) (by omega)
    have c2 := sq_weight (LS := LS) (n := n) (by omega) (h := h) (V := V) (i := i) (k := gt p i) hN hV (by omega) (by omega)
    rw [gt_drop p i (by omega)]
    simp only [sW]
    by_cases q : vHv V i (gt p i) ≤ V 5 i - V 7 i
    · rw [if_pos q] at c1 ⊢
      have k9 := ih (i + 1) (g + vHv V i (gt p i)) (by omega) (by omega)
      rw [Int.add_assoc] at k9
      refine .go ?_ k9
      rw [sg_X6_keptWeight_4]
      simp (disch := omega) only [↓reduceIte, i_le, i_nle, i_lt, i_nlt, i_eq, i_ne, and_self, and_true, true_and, and_false, false_and, or_true, true_or, or_false, false_or, nx_of, Int.toNat_natCast, Option.bind_some, rm_0, rm_1, rm_2, rm_3, rm_4, rm_5, rm_6, rm_7, rm_8, rm_9, rm_10, rm_11, rm_12, rm_13, rm_14, rm_15, rm_16, rm_17, rm_18, rm_19, rm_20, rm_21, rm_22, rm_23, rm_24, rm_25, rm_26, rm_27, rm_28, rm_29, um_0, um_1, um_2, um_3, um_4, um_5, um_6, um_7, um_8, um_9, um_10, um_11, um_12, um_13, um_14, um_15, um_16, um_17, um_18, um_19, um_20, um_21, um_22, um_23, um_24, um_25, um_26, um_27, um_28, um_29, rm_k, um_k, vu_at, vu_ne, ↓bd c1, ↓bd c2, c1, c2, r1]
      rfl
    · rw [if_neg q] at c1 ⊢
      have k9 := ih (i + 1) g (by omega) (by omega)
      rw [Int.zero_add]
      refine .go ?_ k9
      rw [sg_X6_keptWeight_4]
      simp (disch := omega) only [↓reduceIte, i_le, i_nle, i_lt, i_nlt, i_eq, i_ne, and_self, and_true, true_and, and_false, false_and, or_true, true_or, or_false, false_or, nx_of, Int.toNat_natCast, Option.bind_some, rm_0, rm_1, rm_2, rm_3, rm_4, rm_5, rm_6, rm_7, rm_8, rm_9, rm_10, rm_11, rm_12, rm_13, rm_14, rm_15, rm_16, rm_17, rm_18, rm_19, rm_20, rm_21, rm_22, rm_23, rm_24, rm_25, rm_26, rm_27, rm_28, rm_29, um_0, um_1, um_2, um_3, um_4, um_5, um_6, um_7, um_8, um_9, um_10, um_11, um_12, um_13, um_14, um_15, um_16, um_17, um_18, um_19, um_20, um_21, um_22, um_23, um_24, um_25, um_26, um_27, um_28, um_29, rm_k, um_k, vu_at, vu_ne, ↓bd c1, c1, r1, Int.add_zero]
      rfl
theorem sq_keptWeight {LS : Int} {n : Nat} (hn : 5 ≤ n) {h : nl_H} {V : nl_O} {p : List Nat} {N : Int} (hN : N ≤ 100000) (hV : vok N V) (hl : (p.length : Int) = V 0 0) (hr : ro V p) (hp : ∀ i, i < p.length → gt p i < p.length) : nl_c LS n m_X6_keptWeight [vO 6 0] (sm h V) = some (sW V 0 p, sm h V) := by
  obtain ⟨n, rfl, hn1⟩ := nl_suc hn
  have k9 := lp_keptWeight (LS := LS) hn1 (h := h) hN hV hl hr hp p.length 0 0 (by omega) (by omega)
  rw [List.drop_zero, Int.zero_add] at k9
  refine cl_X6_keptWeight (.go ?_ k9)
  rw [sg_X6_keptWeight_0]
  rfl
