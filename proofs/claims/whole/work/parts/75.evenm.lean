/-! Both answer alike: even. -/
/-- all but the rows -/
def sy (W V : nl_O) : Prop := ∀ j i : Nat, j ≠ 26 → j ≠ 27 → W j i = V j i
theorem sy_veq {W V : nl_O} (h : sy W V) : veq W V := ⟨⟨h _ _ (by omega) (by omega), h _ _ (by omega) (by omega), h _ _ (by omega) (by omega)⟩, fun _ _ _ _ _ => h _ _ (by omega) (by omega), fun _ _ _ _ => h _ _ (by omega) (by omega)⟩
theorem sy_ms {W V : nl_O} (h : sy W V) : ms W V := ⟨sy_veq h, fun _ _ _ => h _ _ (by omega) (by omega)⟩
theorem sy_sx {U W V : nl_O} {k : Nat} (hk : k = 26 ∨ k = 27) (a : sx k U W) (b : sy W V) : sy U V := fun j i h1 h2 => (a j i (by omega)).trans (b j i h1 h2)
theorem gB_veq {N : Int} {V W : nl_O} (hV : vok N V) (h : veq V W) : ∀ (p : List Nat) (i : Nat), (i : Int) + p.length ≤ V 0 0 → (∀ k, k ∈ p → (k : Int) < V 0 0) → gB V i p = gB W i p ∧ sW V i p = sW W i p := by
  intro p
  induction p with
  | nil => intro i _ _; exact ⟨rfl, rfl⟩
  | cons k r ih =>
    intro i hi hk
    simp only [List.length_cons] at hi
    have a := ih (i + 1) (by omega) fun k hk' => hk k (List.mem_cons_of_mem _ hk')
    have b := vHv_veq hV h (i := i) (k := k) (by omega) (hk k List.mem_cons_self)
    simp only [gB, sW]
    rw [a.1, a.2, b, h.2.1 5 i (by omega) (by omega) (by omega), h.2.1 7 i (by omega) (by omega) (by omega)]
    exact ⟨rfl, rfl⟩
theorem gt_mem : ∀ (p : List Nat) (i : Nat), i < p.length → gt p i ∈ p := by
  intro p
  induction p with
  | nil => intro i h; simp only [List.length_nil] at h; omega
  | cons x r ih =>
    intro i h
    simp only [List.length_cons] at h
    cases i with
    | zero => exact List.mem_cons_self
    | succ i => exact List.mem_cons_of_mem _ (ih i (by omega))
/-- a row of m hours below m -/
def rw9 (m : Nat) (p : List Nat) : Prop := p.length = m ∧ ∀ k, k ∈ p → k < m
theorem ex_even {LS : Int} {den : nl_D} {h : nl_H} {W : nl_O} {x f s : Int} {m : Nat} {w5 w6 w7 : Option nl_V} (hm : m ≤ 7) (hx : -1 ≤ x ∧ x < m) : nl_Rn LS cd_X6_even den ct_X6_even 1 29 [some (vO 6 0), some (vI x), some (vI f), some (vI s), some (vI 0), w5, w6, w7] (sm h W) (if x < 0 then f else W 27 x.toNat, sm h W) := by
  refine .ret ?_
  rw [sg_X6_even_29]
  by_cases q : x < 0
  · rw [if_pos q]
    simp (disch := omega) only [↓reduceIte, i_le, i_nle, i_lt, i_nlt, i_eq, i_ne, and_self, and_true, true_and, and_false, false_and, or_true, true_or, or_false, false_or, nx_of, Int.toNat_natCast, Option.bind_some, rm_0, rm_1, rm_2, rm_3, rm_4, rm_5, rm_6, rm_7, rm_8, rm_9, rm_10, rm_11, rm_12, rm_13, rm_14, rm_15, rm_16, rm_17, rm_18, rm_19, rm_20, rm_21, rm_22, rm_23, rm_24, rm_25, rm_26, rm_27, rm_28, rm_29, um_0, um_1, um_2, um_3, um_4, um_5, um_6, um_7, um_8, um_9, um_10, um_11, um_12, um_13, um_14, um_15, um_16, um_17, um_18, um_19, um_20, um_21, um_22, um_23, um_24, um_25, um_26, um_27, um_28, um_29, rm_k, um_k, vu_at, vu_ne]
  · rw [if_neg q]
    simp (disch := omega) only [↓reduceIte, i_le, i_nle, i_lt, i_nlt, i_eq, i_ne, and_self, and_true, true_and, and_false, false_and, or_true, true_or, or_false, false_or, nx_of, Int.toNat_natCast, Option.bind_some, rm_0, rm_1, rm_2, rm_3, rm_4, rm_5, rm_6, rm_7, rm_8, rm_9, rm_10, rm_11, rm_12, rm_13, rm_14, rm_15, rm_16, rm_17, rm_18, rm_19, rm_20, rm_21, rm_22, rm_23, rm_24, rm_25, rm_26, rm_27, rm_28, rm_29, um_0, um_1, um_2, um_3, um_4, um_5, um_6, um_7, um_8, um_9, um_10, um_11, um_12, um_13, um_14, um_15, um_16, um_17, um_18, um_19, um_20, um_21, um_22, um_23, um_24, um_25, um_26, um_27, um_28, um_29, rm_k, um_k, vu_at, vu_ne]
theorem lp_even73 {LS : Int} {den : nl_D} {h : nl_H} {V : nl_O} {x f s y4 by9 sum : Int} {m : Nat} {p : List Nat} (hm : m ≤ 7) (h0 : V 0 0 = (m : Int)) (hp : p.length = m) : ∀ (d k : Nat) (W : nl_O), k + d = m → sy W V → ro W p → (∀ i, i < k → W 27 i = ((gt p i : Nat) : Int)) → ∃ W', sy W' V ∧ ro W' p ∧ (∀ i, i < m → W' 27 i = ((gt p i : Nat) : Int)) ∧ ∀ r, nl_Rn LS cd_X6_even den ct_X6_even 1 73 [some (vO 6 0), some (vI x), some (vI f), some (vI s), some (vI y4), some (vI by9), some (vI sum), some (vI (m : Int))] (sm h W') r → nl_Rn LS cd_X6_even den ct_X6_even 1 73 [some (vO 6 0), some (vI x), some (vI f), some (vI s), some (vI y4), some (vI by9), some (vI sum), some (vI (k : Int))] (sm h W) r := by
  intro d
  induction d with
  | zero =>
    intro k W hk hW hr h27
    obtain rfl : k = m := by omega
    exact ⟨W, hW, hr, h27, fun _ z => z⟩
  | succ d ih =>
    intro k W hk hW hr h27
    have e0 : W 0 0 = (m : Int) := by rw [hW 0 0 (by omega) (by omega)]; exact h0
    have r1 := hr k (by omega)
    obtain ⟨W', a1, a2, a3, a4⟩ := ih (k + 1) (vu W 27 k (W 26 k)) (by omega) (fun j i h1 h2 => by rw [vu_k h2]; exact hW j i h1 h2) (fun i hi => by rw [vu_k (by omega)]; exact hr i hi) fun i hi => by
      by_cases q : i = k
      · subst q; rw [vu_at]; exact r1
      · rw [vu_ne (by omega)]; exact h27 i (by omega)
    refine ⟨W', a1, a2, a3, fun r z => .go ?_ (a4 r z)⟩
    rw [sg_X6_even_73]
    simp (disch := omega) only [↓reduceIte, i_le, i_nle, i_lt, i_nlt, i_eq, i_ne, and_self, and_true, true_and, and_false, false_and, or_true, true_or, or_false, false_or, nx_of, Int.toNat_natCast, Option.bind_some, rm_0, rm_1, rm_2, rm_3, rm_4, rm_5, rm_6, rm_7, rm_8, rm_9, rm_10, rm_11, rm_12, rm_13, rm_14, rm_15, rm_16, rm_17, rm_18, rm_19, rm_20, rm_21, rm_22, rm_23, rm_24, rm_25, rm_26, rm_27, rm_28, rm_29, um_0, um_1, um_2, um_3, um_4, um_5, um_6, um_7, um_8, um_9, um_10, um_11, um_12, um_13, um_14, um_15, um_16, um_17, um_18, um_19, um_20, um_21, um_22, um_23, um_24, um_25, um_26, um_27, um_28, um_29, rm_k, um_k, vu_at, vu_ne, e0]
    rfl
def anE (x : Int) (g : Int × Int × (Nat → Int)) : Int := if x < 0 then g.1 else g.2.2 x.toNat
theorem st_even {LS : Int} {n : Nat} (hn : 5 ≤ n) {h : nl_H} {V : nl_O} {N x : Int} {m : Nat} {L : List (List Nat)} {p : List Nat} (hN : N ≤ 100000) (hV : vok N V) (h0 : V 0 0 = (m : Int)) (hp : rw9 m p)
    (A : ∀ W', ro W' p → sy W' V → ∃ mo W2, nl_c LS n m_X6_nextRow [vO 6 0] (sm h W') = some (mo, sm h W2) ∧ sx 26 W2 W' ∧ ∀ (g : Int × Int × (Nat → Int)) (w5 w6 w7 : Option nl_V), (∀ i, i < m → W2 27 i = g.2.2 i) → (0 ≤ g.1 ∧ g.1 ≤ 2000000) → (-4 ≤ g.2.1 ∧ g.2.1 ≤ 280) → ∃ U, nl_Rn LS cd_X6_even (nl_c LS n) ct_X6_even 1 29 [some (vO 6 0), some (vI x), some (vI g.1), some (vI g.2.1), some (vI mo), w5, w6, w7] (sm h W2) (anE x (mE V L g), sm h U) ∧ sy U V)
    (W : nl_O) (g : Int × Int × (Nat → Int)) (w5 w6 w7 : Option nl_V) (hr : ro W p) (hW : sy W V) (h27 : ∀ i, i < m → W 27 i = g.2.2 i) (hg1 : 0 ≤ g.1 ∧ g.1 ≤ 2000000) (hg2 : -4 ≤ g.2.1 ∧ g.2.1 ≤ 280) :
    ∃ U, nl_Rn LS cd_X6_even (nl_c LS n) ct_X6_even 1 29 [some (vO 6 0), some (vI x), some (vI g.1), some (vI g.2.1), some (vI 1), w5, w6, w7] (sm h W) (anE x (mE V (p :: L) g), sm h U) ∧ sy U V := by
  have h9 := hV.1
  have hm : 2 ≤ m ∧ m ≤ 7 := by omega
  have hp1 : p.length = m := hp.1
  have hW0 : ∀ W, sy W V → W 0 0 = (m : Int) := fun W h => by rw [h 0 0 (by omega) (by omega)]; exact h0
  have e0 := hW0 W hW
  have hVW := vok_veq hV (sy_veq hW)
  have gv := gB_veq hVW (sy_veq hW) p 0 (by rw [e0, hp1]; omega) (fun k hk => by have := hp.2 k hk; omega)
  have gl : ∀ i, i < p.length → gt p i < p.length := fun i hi => by rw [hp1]; exact hp.2 _ (gt_mem p i hi)
  have c1 := sq_gapsBy (LS := LS) (n := n) hn (h := h) (V := W) hN hVW (by rw [e0, hp1]) hr gl
  have c2 := sq_keptWeight (LS := LS) (n := n) hn (h := h) (V := W) hN hVW (by rw [e0, hp1]) hr gl
  rw [gv.1] at c1
  rw [gv.2] at c2
  have b1 := gB_le V p 0
  have b2 := sW_in hV p 0 fun k hk => by have := hp.2 k hk; omega
  by_cases q : ((gB V 0 p : Nat) : Int) < g.1 ∨ (((gB V 0 p : Nat) : Int) = g.1 ∧ g.2.1 < sW V 0 p)
  · have em : mE V (p :: L) g = mE V L (((gB V 0 p : Nat) : Int), sW V 0 p, fun i => ((gt p i : Nat) : Int)) := by
      simp only [mE]; rw [if_pos q]
    rw [em]
    obtain ⟨W', a1, a2, a3, a4⟩ := lp_even73 (LS := LS) (den := nl_c LS n) (h := h) (V := V) (x := x) (f := ((gB V 0 p : Nat) : Int)) (s := sW V 0 p) (y4 := 1) (by9 := ((gB V 0 p : Nat) : Int)) (sum := sW V 0 p) (m := m) (p := p) hm.2 h0 hp1 m 0 W (by omega) hW hr (fun i hi => by omega)
    obtain ⟨mo, W2, c3, s3, k3⟩ := A W' a2 a1
    have e1 := hW0 W' a1
    obtain ⟨U, k4, k5⟩ := k3 (((gB V 0 p : Nat) : Int), sW V 0 p, fun i => ((gt p i : Nat) : Int)) (some (vI ((gB V 0 p : Nat) : Int))) (some (vI (sW V 0 p))) (some (vI (m : Int))) (fun i hi => by rw [s3 27 i (by omega)]; exact a3 i hi) (by dsimp only; omega) (by dsimp only; omega)
    have k6 : nl_Rn LS cd_X6_even (nl_c LS n) ct_X6_even 1 73 [some (vO 6 0), some (vI x), some (vI ((gB V 0 p : Nat) : Int)), some (vI (sW V 0 p)), some (vI 1), some (vI ((gB V 0 p : Nat) : Int)), some (vI (sW V 0 p)), some (vI (m : Int))] (sm h W') (anE x (mE V L (((gB V 0 p : Nat) : Int), sW V 0 p, fun i => ((gt p i : Nat) : Int))), sm h U) := by
      refine .go ?_ k4
      rw [sg_X6_even_73]
      simp (disch := omega) only [↓reduceIte, i_le, i_nle, i_lt, i_nlt, i_eq, i_ne, and_self, and_true, true_and, and_false, false_and, or_true, true_or, or_false, false_or, nx_of, Int.toNat_natCast, Option.bind_some, rm_0, rm_1, rm_2, rm_3, rm_4, rm_5, rm_6, rm_7, rm_8, rm_9, rm_10, rm_11, rm_12, rm_13, rm_14, rm_15, rm_16, rm_17, rm_18, rm_19, rm_20, rm_21, rm_22, rm_23, rm_24, rm_25, rm_26, rm_27, rm_28, rm_29, um_0, um_1, um_2, um_3, um_4, um_5, um_6, um_7, um_8, um_9, um_10, um_11, um_12, um_13, um_14, um_15, um_16, um_17, um_18, um_19, um_20, um_21, um_22, um_23, um_24, um_25, um_26, um_27, um_28, um_29, rm_k, um_k, vu_at, vu_ne, ↓bd c3, c3, e1]
    refine ⟨U, .go ?_ (a4 _ k6), k5⟩
    rw [sg_X6_even_29]
    by_cases q2 : ((gB V 0 p : Nat) : Int) < g.1
    · simp (disch := omega) only [↓reduceIte, i_le, i_nle, i_lt, i_nlt, i_eq, i_ne, and_self, and_true, true_and, and_false, false_and, or_true, true_or, or_false, false_or, nx_of, Int.toNat_natCast, Option.bind_some, rm_0, rm_1, rm_2, rm_3, rm_4, rm_5, rm_6, rm_7, rm_8, rm_9, rm_10, rm_11, rm_12, rm_13, rm_14, rm_15, rm_16, rm_17, rm_18, rm_19, rm_20, rm_21, rm_22, rm_23, rm_24, rm_25, rm_26, rm_27, rm_28, rm_29, um_0, um_1, um_2, um_3, um_4, um_5, um_6, um_7, um_8, um_9, um_10, um_11, um_12, um_13, um_14, um_15, um_16, um_17, um_18, um_19, um_20, um_21, um_22, um_23, um_24, um_25, um_26, um_27, um_28, um_29, rm_k, um_k, vu_at, vu_ne, ↓bd c1, ↓bd c2, c1, c2]
      rfl
    · simp (disch := omega) only [↓reduceIte, i_le, i_nle, i_lt, i_nlt, i_eq, i_ne, and_self, and_true, true_and, and_false, false_and, or_true, true_or, or_false, false_or, nx_of, Int.toNat_natCast, Option.bind_some, rm_0, rm_1, rm_2, rm_3, rm_4, rm_5, rm_6, rm_7, rm_8, rm_9, rm_10, rm_11, rm_12, rm_13, rm_14, rm_15, rm_16, rm_17, rm_18, rm_19, rm_20, rm_21, rm_22, rm_23, rm_24, rm_25, rm_26, rm_27, rm_28, rm_29, um_0, um_1, um_2, um_3, um_4, um_5, um_6, um_7, um_8, um_9, um_10, um_11, um_12, um_13, um_14, um_15, um_16, um_17, um_18, um_19, um_20, um_21, um_22, um_23, um_24, um_25, um_26, um_27, um_28, um_29, rm_k, um_k, vu_at, vu_ne, ↓bd c1, ↓bd c2, c1, c2]
      rfl
  · have em : mE V (p :: L) g = mE V L g := by
      simp only [mE]; rw [if_neg q]
    rw [em]
    obtain ⟨mo, W2, c3, s3, k3⟩ := A W hr hW
    obtain ⟨U, k4, k5⟩ := k3 g (some (vI ((gB V 0 p : Nat) : Int))) (some (vI (sW V 0 p))) w7 (fun i hi => by rw [s3 27 i (by omega)]; exact h27 i hi) hg1 hg2
    refine ⟨U, .go ?_ k4, k5⟩
    rw [sg_X6_even_29]
    by_cases q2 : g.1 < ((gB V 0 p : Nat) : Int)
    · simp (disch := omega) only [↓reduceIte, i_le, i_nle, i_lt, i_nlt, i_eq, i_ne, and_self, and_true, true_and, and_false, false_and, or_true, true_or, or_false, false_or, nx_of, Int.toNat_natCast, Option.bind_some, rm_0, rm_1, rm_2, rm_3, rm_4, rm_5, rm_6, rm_7, rm_8, rm_9, rm_10, rm_11, rm_12, rm_13, rm_14, rm_15, rm_16, rm_17, rm_18, rm_19, rm_20, rm_21, rm_22, rm_23, rm_24, rm_25, rm_26, rm_27, rm_28, rm_29, um_0, um_1, um_2, um_3, um_4, um_5, um_6, um_7, um_8, um_9, um_10, um_11, um_12, um_13, um_14, um_15, um_16, um_17, um_18, um_19, um_20, um_21, um_22, um_23, um_24, um_25, um_26, um_27, um_28, um_29, rm_k, um_k, vu_at, vu_ne, ↓bd c1, ↓bd c2, ↓bd c3, c1, c2, c3]
    · simp (disch := omega) only [↓reduceIte, i_le, i_nle, i_lt, i_nlt, i_eq, i_ne, and_self, and_true, true_and, and_false, false_and, or_true, true_or, or_false, false_or, nx_of, Int.toNat_natCast, Option.bind_some, rm_0, rm_1, rm_2, rm_3, rm_4, rm_5, rm_6, rm_7, rm_8, rm_9, rm_10, rm_11, rm_12, rm_13, rm_14, rm_15, rm_16, rm_17, rm_18, rm_19, rm_20, rm_21, rm_22, rm_23, rm_24, rm_25, rm_26, rm_27, rm_28, rm_29, um_0, um_1, um_2, um_3, um_4, um_5, um_6, um_7, um_8, um_9, um_10, um_11, um_12, um_13, um_14, um_15, um_16, um_17, um_18, um_19, um_20, um_21, um_22, um_23, um_24, um_25, um_26, um_27, um_28, um_29, rm_k, um_k, vu_at, vu_ne, ↓bd c1, ↓bd c2, ↓bd c3, c1, c2, c3]
theorem lp_even29 {LS : Int} {n : Nat} (hn : 5 ≤ n) {h : nl_H} {V : nl_O} {N x : Int} {m : Nat} (hN : N ≤ 100000) (hV : vok N V) (h0 : V 0 0 = (m : Int)) (hx : -1 ≤ x ∧ x < m) : ∀ (L : List (List Nat)) (p : List Nat) (W : nl_O) (g : Int × Int × (Nat → Int)) (w5 w6 w7 : Option nl_V), chL m (p :: L) = true → (∀ q, q ∈ p :: L → rw9 m q) → ro W p → sy W V → (∀ i, i < m → W 27 i = g.2.2 i) → (0 ≤ g.1 ∧ g.1 ≤ 2000000) → (-4 ≤ g.2.1 ∧ g.2.1 ≤ 280) →
    ∃ U, nl_Rn LS cd_X6_even (nl_c LS n) ct_X6_even 1 29 [some (vO 6 0), some (vI x), some (vI g.1), some (vI g.2.1), some (vI 1), w5, w6, w7] (sm h W) (anE x (mE V (p :: L) g), sm h U) ∧ sy U V := by
  have h9 := hV.1
  have hm : 2 ≤ m ∧ m ≤ 7 := by omega
  have hW0 : ∀ W, sy W V → W 0 0 = (m : Int) := fun W h => by rw [h 0 0 (by omega) (by omega)]; exact h0
  intro L
  induction L with
  | nil =>
    intro p W g w5 w6 w7 hc hq hr hW h27 hg1 hg2
    have hp := hq p List.mem_cons_self
    have hp1 : p.length = m := hp.1
    have hnx : nx m p = none := by
      simp only [chL] at hc
      exact Option.isNone_iff_eq_none.mp hc
    refine st_even hn hN hV h0 hp (fun W' hr' hW' => ⟨0, W', ?_, sx_refl 26 W', fun g w5 w6 w7 a _ _ => ⟨W', ?_, hW'⟩⟩) W g w5 w6 w7 hr hW h27 hg1 hg2
    · exact (sq_nextRow (LS := LS) (n := n) (by omega) (h := h) hm (hW0 W' hW') hp1 hr' (fun i hi => by have := hp.2 _ (gt_mem p i (by omega)); omega)).1 hnx
    · have k9 := ex_even (LS := LS) (den := nl_c LS n) (h := h) (W := W') (x := x) (f := g.1) (s := g.2.1) (m := m) (w5 := w5) (w6 := w6) (w7 := w7) hm.2 hx
      have ea : anE x (mE V [] g) = (if x < 0 then g.1 else W' 27 x.toNat) := by
        unfold anE
        by_cases z : x < 0
        · rw [if_pos z, if_pos z]; rfl
        · rw [if_neg z, if_neg z, a _ (by omega)]; rfl
      rw [ea]
      exact k9
  | cons p2 L ih =>
    intro p W g w5 w6 w7 hc hq hr hW h27 hg1 hg2
    have hp := hq p List.mem_cons_self
    have hp1 : p.length = m := hp.1
    simp only [chL, Bool.and_eq_true] at hc
    obtain ⟨hc1, hc2⟩ := hc
    have hnx : nx m p = some p2 := by
      cases hz : nx m p with
      | none => rw [hz] at hc1; cases hc1
      | some c =>
        rw [hz] at hc1
        rw [eqL_eq c p2 hc1]
    refine st_even hn hN hV h0 hp (fun W' hr' hW' => ?_) W g w5 w6 w7 hr hW h27 hg1 hg2
    obtain ⟨W2, c, r2, s2⟩ := (sq_nextRow (LS := LS) (n := n) (by omega) (h := h) hm (hW0 W' hW') hp1 hr' (fun i hi => by have := hp.2 _ (gt_mem p i (by omega)); omega)).2 p2 hnx
    exact ⟨1, W2, c, s2, fun g w5 w6 w7 a b1 b2 => ih p2 W2 g w5 w6 w7 hc2 (fun q hq' => hq q (List.mem_cons_of_mem _ hq')) r2 (sy_sx (.inl rfl) s2 hW') a b1 b2⟩
theorem rw9_PL {m : Nat} {q : List Nat} (h : q ∈ PL m m 0) : rw9 m q := by
  have := (mem_PL m 0 q).mp h
  exact ⟨this.1, isR_mem q 0 this.2⟩
theorem PL_hd {m : Nat} (hm : 2 ≤ m ∧ m ≤ 7) : ∃ L, PL m m 0 = List.range m :: L := by
  have h := (ch_all hm).2
  cases hL : PL m m 0 with
  | nil => rw [hL] at h; cases h
  | cons x L =>
    rw [hL] at h
    exact ⟨L, by rw [eqL_eq x _ h]⟩
def rEven (V : nl_O) (x : Int) : Int := if x = -1 then ((gB V 0 (pA V (vN V) (vN V) 0).2 : Nat) : Int) else if 0 ≤ x ∧ x < V 0 0 then ((gt (pA V (vN V) (vN V) 0).2 x.toNat : Nat) : Int) else -1
theorem sq_even {LS : Int} {n : Nat} (hn : 6 ≤ n) {h : nl_H} {V : nl_O} {x N : Int} (hx : nl_inR x) (hN : N ≤ 100000) (hV : vok N V) : ∃ U, nl_c LS n m_X6_even [vO 6 0, vI x] (sm h V) = some (rEven V x, sm h U) ∧ ms U V := by
  obtain ⟨n, rfl, hn1⟩ := nl_suc hn
  have h9 := hV.1
  have e := vN_eq hV
  have c1 := sp_in (LS := LS) (n := n) (by omega) (h := sm h V) (x := x) (a := -1) (b := V 0 0 - 1) hx ⟨by omega, by omega⟩ ⟨by omega, by omega⟩
  obtain ⟨hx1, hx2⟩ := hx
  by_cases q : -1 ≤ x ∧ x ≤ V 0 0 - 1
  · rw [if_pos q] at c1
    have hm : 2 ≤ vN V ∧ vN V ≤ 7 := by omega
    obtain ⟨W, c2, r2, s2⟩ := sq_firstRow (LS := LS) (n := n) (by omega) (h := h) (V := V) hm.2 e.symm
    have hW : sy W V := sy_sx (.inl rfl) s2 (fun _ _ _ _ => rfl)
    obtain ⟨L, hL⟩ := PL_hd hm
    have ch := (ch_all hm).1
    rw [hL] at ch
    obtain ⟨U, k9, k8⟩ := lp_even29 (LS := LS) hn1 (h := h) (V := V) (x := x) hN hV e.symm (by omega) L (List.range (vN V)) W (1048576, -4, V 27) none none none ch (fun q hq => rw9_PL (by rw [hL]; exact hq)) r2 hW (fun i _ => s2 27 i (by omega)) (by dsimp only; omega) (by dsimp only; omega)
    rw [← hL] at k9
    have mi := mE_is hV e.symm 1048576 (-4) (by omega) (V 27)
    have ea : anE x (mE V (PL (vN V) (vN V) 0) (1048576, -4, V 27)) = rEven V x := by
      unfold anE rEven
      by_cases z : x = -1
      · rw [if_pos z, if_pos (by omega)]; exact mi.1
      · rw [if_neg z, if_neg (by omega), if_pos (by omega)]; exact mi.2 _
    rw [ea] at k9
    refine ⟨U, cl_X6_even (.go ?_ k9), sy_ms k8⟩
    rw [sg_X6_even_0]
    simp (disch := omega) only [↓reduceIte, i_le, i_nle, i_lt, i_nlt, i_eq, i_ne, and_self, and_true, true_and, and_false, false_and, or_true, true_or, or_false, false_or, nx_of, Int.toNat_natCast, Option.bind_some, rm_0, rm_1, rm_2, rm_3, rm_4, rm_5, rm_6, rm_7, rm_8, rm_9, rm_10, rm_11, rm_12, rm_13, rm_14, rm_15, rm_16, rm_17, rm_18, rm_19, rm_20, rm_21, rm_22, rm_23, rm_24, rm_25, rm_26, rm_27, rm_28, rm_29, um_0, um_1, um_2, um_3, um_4, um_5, um_6, um_7, um_8, um_9, um_10, um_11, um_12, um_13, um_14, um_15, um_16, um_17, um_18, um_19, um_20, um_21, um_22, um_23, um_24, um_25, um_26, um_27, um_28, um_29, rm_k, um_k, vu_at, vu_ne, ↓bd c1, ↓bd c2, c1, c2]
  · rw [if_neg q] at c1
    unfold rEven
    rw [if_neg (by omega), if_neg (by omega)]
    refine ⟨V, cl_X6_even (.ret ?_), ms_refl V⟩
    rw [sg_X6_even_0]
    simp (disch := omega) only [↓reduceIte, i_le, i_nle, i_lt, i_nlt, i_eq, i_ne, and_self, and_true, true_and, and_false, false_and, or_true, true_or, or_false, false_or, nx_of, Int.toNat_natCast, Option.bind_some, rm_0, rm_1, rm_2, rm_3, rm_4, rm_5, rm_6, rm_7, rm_8, rm_9, rm_10, rm_11, rm_12, rm_13, rm_14, rm_15, rm_16, rm_17, rm_18, rm_19, rm_20, rm_21, rm_22, rm_23, rm_24, rm_25, rm_26, rm_27, rm_28, rm_29, um_0, um_1, um_2, um_3, um_4, um_5, um_6, um_7, um_8, um_9, um_10, um_11, um_12, um_13, um_14, um_15, um_16, um_17, um_18, um_19, um_20, um_21, um_22, um_23, um_24, um_25, um_26, um_27, um_28, um_29, rm_k, um_k, vu_at, vu_ne, ↓bd c1, c1]
theorem PLb {m d : Nat} : ∀ {L : List Nat}, L ∈ PL m d 0 → ∀ k, k ∈ L → k < m := fun h => isR_mem _ 0 ((mem_PL d 0 _).mp h).2
theorem dP_veq {N : Int} {V W : nl_O} (hV : vok N V) (h : veq V W) {i k : Nat} (hi : (i : Int) < V 0 0) (hk : (k : Int) < V 0 0) : dP V i k = dP W i k := by
  unfold dP
  rw [vHv_veq hV h hi hk, h.2.1 5 i (by omega) (by omega) hi, h.2.1 7 i (by omega) (by omega) hi]
theorem pA_veq {N : Int} {V W : nl_O} {m : Nat} (hV : vok N V) (h : veq V W) (hm : V 0 0 = (m : Int)) : ∀ (d S : Nat), d ≤ m → pA V m d S = pA W m d S := by
  intro d
  induction d with
  | zero => intro S _; rfl
  | succ d ih =>
    intro S hd
    have key : ∀ j, j ≤ m → pAo V (m - (d + 1)) (fun k => pA V m d (S ||| 2 ^ k)) S j = pAo W (m - (d + 1)) (fun k => pA W m d (S ||| 2 ^ k)) S j := by
      intro j
      induction j with
      | zero => intro _; rfl
      | succ j ihj =>
        intro hj
        simp only [pAo]
        rw [ihj (by omega), ih (S ||| 2 ^ j) (by omega)]
        unfold pg
        rw [dP_veq hV h (by omega) (by omega)]
    exact key m (Nat.le_refl m)
theorem ag_even {LS : Int} {n : Nat} (hn : 20 ≤ n) {g : nl_H} (r : rg g) {x : Int} (hx : nl_inR x) : ag LS n m_X5_even m_X6_even [vI x] g := by
  have hV := vgd_N r.1
  have a2 := r.2.1
  have hW := vok_veq hV a2
  have e := vN_eq hW
  have e0 := a2.1.1
  have h9 := hV.1
  obtain ⟨D, c⟩ := pu_even (LS := LS) (n := n) (by omega) (h := g) hx (by omega) hW
  obtain ⟨U, m, s⟩ := sq_even (LS := LS) (n := n) (by omega) (h := so g 0 0 D) hx (by omega) hV
  refine ag_of rfl c (so_ne (by omega)) m ?_ (rl_ms (rl_so r (by omega)) s)
  have dc := dC_is (D := g 0 0) hW e.symm
  have ep := pA_veq hW a2 e.symm (vN (g 4 0)) 0 (Nat.le_refl _)
  have eN := vN_veq a2
  unfold rEven
  rw [← eN, ← ep, ← e0]
  by_cases q : x = -1
  · rw [if_pos q, if_pos q, dc.2]
    obtain ⟨p, hp, hpe⟩ := (pA_le hW e.symm (vN (g 4 0)) 0 (Nat.two_pow_pos _) (by unfold bN; omega)).2
    rw [hpe]
    have hr := rw9_PL hp
    have hr1 : p.length = vN (g 4 0) := hr.1
    exact congrArg _ (gB_veq hW a2 p 0 (by omega) (fun k hk => by have := hr.2 k hk; omega)).1.symm
  · rw [if_neg q, if_neg q]
    by_cases q2 : 0 ≤ x ∧ x < g 4 0 0 0
    · rw [if_pos q2, if_pos q2, dc.1 _ (by omega)]
    · rw [if_neg q2, if_neg q2]
