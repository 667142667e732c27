/-! Both answer alike: lamps, the model's loops. -/
def laB (y : Int) (g : Int × Int) : Int := if g.1 = -4 then -4 else if y = 1 then g.1 else g.2
theorem laB_a {y b f : Int} (q : b = -4) : laB y (b, f) = -4 := if_pos q
theorem laB_b {y b f : Int} (q : b ≠ -4) (p : y ≠ 1) : laB y (b, f) = f := (if_neg q).trans (if_neg p)
theorem laB_c {y b f : Int} (q : b ≠ -4) (p : y = 1) : laB y (b, f) = b := (if_neg q).trans (if_pos p)
def lG (V : nl_O) (x S : Nat) : Int := (vNights x (mRs S (vN V) 0 V)).2
def mLa (V : nl_O) (x : Nat) : Nat → Nat → Int × Int → Int × Int
  | 0, _, g => g
  | e + 1, S, g => mLa V x e (S + 1) (if ((bN S : Nat) : Int) < g.2 ∧ lG V x S = 0 then ((S : Int), ((bN S : Nat) : Int)) else g)
theorem mRs_0 {S i : Nat} {V : nl_O} : mRs S 0 i V = V := rfl
theorem mRs_s {S e i : Nat} {V : nl_O} : mRs S (e + 1) i V = mRs S e (i + 1) (if S.testBit i = true then vRest V i else V) := rfl
theorem lp_lampsI {LS : Int} {n : Nat} (hn : 6 ≤ n) {h : nl_H} {S x : Nat} {y b f : Int} {r : Int × nl_H} (hS : S < 128) (hx : x ≤ 40) : ∀ (e i : Nat) {N : Int} {W : nl_O}, N ≤ 70000 → vok N W → (i : Int) + e = W 0 0 →
    nl_Rn LS cd_X6_lamps (nl_c LS n) ct_X6_lamps 1 31 [some (vO 6 0), some (vI (x : Int)), some (vI y), some (vI (if (vNights x (mRs S e i W)).2 = 0 then ((S : Int), ((bN S : Nat) : Int)) else (b, f)).1), some (vI (if (vNights x (mRs S e i W)).2 = 0 then ((S : Int), ((bN S : Nat) : Int)) else (b, f)).2), some (vI ((S + 1 : Nat) : Int)), some (vI ((i + e : Nat) : Int))] (sm h (mTk (vPass x (mRs S e i W)) 25 0)) r →
    nl_Rn LS cd_X6_lamps (nl_c LS n) ct_X6_lamps 1 59 [some (vO 6 0), some (vI (x : Int)), some (vI y), some (vI b), some (vI f), some (vI (S : Int)), some (vI (i : Int))] (sm h W) r := by
  intro e
  induction e with
  | zero =>
    intro i N W hN hV hi kk
    have h0 := hV.1
    have b1 := vNights_ok x hV
    have c1 := sq_goesOn (LS := LS) (n := n) hn (h := h) (V := W) (d := x) (by omega) (by omega) hV
    have c2 := sq_bits (LS := LS) (n := n) (by omega) (h := sm h (vPass x W)) hS
    have c3 := sq_putBack (LS := LS) (n := n) (by omega) (h := h) (V := vPass x W)
    rw [mRs_0] at kk
    refine .go ?_ kk
    rw [sg_X6_lamps_59]
    by_cases q : (vNights x W).2 = 0
    · rw [if_pos q]
      simp (disch := omega) only [↓reduceIte, i_le, i_nle, i_lt, i_nlt, i_eq, i_ne, and_self, and_true, true_and, and_false, false_and, or_true, true_or, or_false, false_or, nx_of, Int.toNat_natCast, Option.bind_some, rm_0, rm_1, rm_2, rm_3, rm_4, rm_5, rm_6, rm_7, rm_8, rm_9, rm_10, rm_11, rm_12, rm_13, rm_14, rm_15, rm_16, rm_17, rm_18, rm_19, rm_20, rm_21, rm_22, rm_23, rm_24, rm_25, rm_26, rm_27, rm_28, rm_29, um_0, um_1, um_2, um_3, um_4, um_5, um_6, um_7, um_8, um_9, um_10, um_11, um_12, um_13, um_14, um_15, um_16, um_17, um_18, um_19, um_20, um_21, um_22, um_23, um_24, um_25, um_26, um_27, um_28, um_29, rm_k, um_k, vu_at, vu_ne, ↓bd c1, ↓bd c2, ↓bd c3, c1, c2, c3]
      rfl
    · rw [if_neg q]
      simp (disch := omega) only [↓reduceIte, i_le, i_nle, i_lt, i_nlt, i_eq, i_ne, and_self, and_true, true_and, and_false, false_and, or_true, true_or, or_false, false_or, nx_of, Int.toNat_natCast, Option.bind_some, rm_0, rm_1, rm_2, rm_3, rm_4, rm_5, rm_6, rm_7, rm_8, rm_9, rm_10, rm_11, rm_12, rm_13, rm_14, rm_15, rm_16, rm_17, rm_18, rm_19, rm_20, rm_21, rm_22, rm_23, rm_24, rm_25, rm_26, rm_27, rm_28, rm_29, um_0, um_1, um_2, um_3, um_4, um_5, um_6, um_7, um_8, um_9, um_10, um_11, um_12, um_13, um_14, um_15, um_16, um_17, um_18, um_19, um_20, um_21, um_22, um_23, um_24, um_25, um_26, um_27, um_28, um_29, rm_k, um_k, vu_at, vu_ne, ↓bd c1, ↓bd c3, c1, c3]
      rfl
  | succ e ih =>
    intro i N W hN hV hi kk
    have h0 := hV.1
    have b7 := (hV.2.2.2.1 i (by omega)).2.2.2.2.1
    have c1 := sq_has (LS := LS) (n := n) (by omega) (h := sm h W) hS (k := i) (by omega)
    have c2 := sq_rests (LS := LS) (n := n) (by omega) (h := h) (V := W) (i := i) (by omega) b7
    rw [mRs_s] at kk
    rw [show i + (e + 1) = i + 1 + e by omega] at kk
    by_cases q : S.testBit i = true
    · rw [if_pos q] at c1 kk
      refine .go ?_ (ih (i + 1) (W := vRest W i) hN (vRest_ok hV (by omega)) (by rw [vRest_0 (by omega)]; omega) kk)
      rw [sg_X6_lamps_59]
      simp (disch := omega) only [↓reduceIte, i_le, i_nle, i_lt, i_nlt, i_eq, i_ne, and_self, and_true, true_and, and_false, false_and, or_true, true_or, or_false, false_or, nx_of, Int.toNat_natCast, Option.bind_some, rm_0, rm_1, rm_2, rm_3, rm_4, rm_5, rm_6, rm_7, rm_8, rm_9, rm_10, rm_11, rm_12, rm_13, rm_14, rm_15, rm_16, rm_17, rm_18, rm_19, rm_20, rm_21, rm_22, rm_23, rm_24, rm_25, rm_26, rm_27, rm_28, rm_29, um_0, um_1, um_2, um_3, um_4, um_5, um_6, um_7, um_8, um_9, um_10, um_11, um_12, um_13, um_14, um_15, um_16, um_17, um_18, um_19, um_20, um_21, um_22, um_23, um_24, um_25, um_26, um_27, um_28, um_29, rm_k, um_k, vu_at, vu_ne, ↓bd c1, ↓bd c2, c1, c2]
      rfl
    · rw [if_neg q] at c1 kk
      refine .go ?_ (ih (i + 1) hN hV (by omega) kk)
      rw [sg_X6_lamps_59]
      simp (disch := omega) only [↓reduceIte, i_le, i_nle, i_lt, i_nlt, i_eq, i_ne, and_self, and_true, true_and, and_false, false_and, or_true, true_or, or_false, false_or, nx_of, Int.toNat_natCast, Option.bind_some, rm_0, rm_1, rm_2, rm_3, rm_4, rm_5, rm_6, rm_7, rm_8, rm_9, rm_10, rm_11, rm_12, rm_13, rm_14, rm_15, rm_16, rm_17, rm_18, rm_19, rm_20, rm_21, rm_22, rm_23, rm_24, rm_25, rm_26, rm_27, rm_28, rm_29, um_0, um_1, um_2, um_3, um_4, um_5, um_6, um_7, um_8, um_9, um_10, um_11, um_12, um_13, um_14, um_15, um_16, um_17, um_18, um_19, um_20, um_21, um_22, um_23, um_24, um_25, um_26, um_27, um_28, um_29, rm_k, um_k, vu_at, vu_ne, ↓bd c1, c1]
      rfl
theorem lp_lampsO {LS : Int} {n : Nat} (hn : 6 ≤ n) {h : nl_H} {V : nl_O} {x m : Nat} {y : Int} {N : Int} (hN : N ≤ 70000) (hV : vok N V) (hm : V 0 0 = (m : Int)) (hx : x ≤ 40) (hy : y = 0 ∨ y = 1) : ∀ (e S : Nat) {W : nl_O} {b f : Int} (w : Option nl_V), S + e = 2 ^ m → ms W V → (-4 ≤ b ∧ b ≤ 128) → (0 ≤ f ∧ f ≤ 1048576) → ∃ U, nl_Rn LS cd_X6_lamps (nl_c LS n) ct_X6_lamps 1 31 [some (vO 6 0), some (vI (x : Int)), some (vI y), some (vI b), some (vI f), some (vI (S : Int)), w] (sm h W) (laB y (mLa V x e S (b, f)), sm h U) ∧ ms U V := by
  have h0 := hV.1
  have hm7 : m ≤ 7 := by omega
  have h2 := bm_le hm7
  have p2 := bp7_z hm7
  intro e
  induction e with
  | zero =>
    intro S W b f w hS hW hb hf
    have hW0 : W 0 0 = (m : Int) := by rw [hW.1.1.1]; exact hm
    refine ⟨W, .ret ?_, hW⟩
    rw [sg_X6_lamps_31]
    rw [show mLa V x 0 S (b, f) = (b, f) from rfl]
    by_cases q : b = -4
    · rw [laB_a q]
      simp (disch := omega) only [↓reduceIte, i_le, i_nle, i_lt, i_nlt, i_eq, i_ne, and_self, and_true, true_and, and_false, false_and, or_true, true_or, or_false, false_or, nx_of, Int.toNat_natCast, Option.bind_some, rm_0, rm_1, rm_2, rm_3, rm_4, rm_5, rm_6, rm_7, rm_8, rm_9, rm_10, rm_11, rm_12, rm_13, rm_14, rm_15, rm_16, rm_17, rm_18, rm_19, rm_20, rm_21, rm_22, rm_23, rm_24, rm_25, rm_26, rm_27, rm_28, rm_29, um_0, um_1, um_2, um_3, um_4, um_5, um_6, um_7, um_8, um_9, um_10, um_11, um_12, um_13, um_14, um_15, um_16, um_17, um_18, um_19, um_20, um_21, um_22, um_23, um_24, um_25, um_26, um_27, um_28, um_29, rm_k, um_k, vu_at, vu_ne, hW0, p2]
      rw [q]
    · rcases hy with rfl | rfl
      · rw [laB_b q (by omega)]
        simp (disch := omega) only [↓reduceIte, i_le, i_nle, i_lt, i_nlt, i_eq, i_ne, and_self, and_true, true_and, and_false, false_and, or_true, true_or, or_false, false_or, nx_of, Int.toNat_natCast, Option.bind_some, rm_0, rm_1, rm_2, rm_3, rm_4, rm_5, rm_6, rm_7, rm_8, rm_9, rm_10, rm_11, rm_12, rm_13, rm_14, rm_15, rm_16, rm_17, rm_18, rm_19, rm_20, rm_21, rm_22, rm_23, rm_24, rm_25, rm_26, rm_27, rm_28, rm_29, um_0, um_1, um_2, um_3, um_4, um_5, um_6, um_7, um_8, um_9, um_10, um_11, um_12, um_13, um_14, um_15, um_16, um_17, um_18, um_19, um_20, um_21, um_22, um_23, um_24, um_25, um_26, um_27, um_28, um_29, rm_k, um_k, vu_at, vu_ne, hW0, p2]
      · rw [laB_c q rfl]
        simp (disch := omega) only [↓reduceIte, i_le, i_nle, i_lt, i_nlt, i_eq, i_ne, and_self, and_true, true_and, and_false, false_and, or_true, true_or, or_false, false_or, nx_of, Int.toNat_natCast, Option.bind_some, rm_0, rm_1, rm_2, rm_3, rm_4, rm_5, rm_6, rm_7, rm_8, rm_9, rm_10, rm_11, rm_12, rm_13, rm_14, rm_15, rm_16, rm_17, rm_18, rm_19, rm_20, rm_21, rm_22, rm_23, rm_24, rm_25, rm_26, rm_27, rm_28, rm_29, um_0, um_1, um_2, um_3, um_4, um_5, um_6, um_7, um_8, um_9, um_10, um_11, um_12, um_13, um_14, um_15, um_16, um_17, um_18, um_19, um_20, um_21, um_22, um_23, um_24, um_25, um_26, um_27, um_28, um_29, rm_k, um_k, vu_at, vu_ne, hW0, p2]
  | succ e ih =>
    intro S W b f w hS hW hb hf
    have hW0 : W 0 0 = (m : Int) := by rw [hW.1.1.1]; exact hm
    have hWk := vok_veq hV hW.1
    have bS := bN_le S
    have c1 := sq_bits (LS := LS) (n := n) (by omega) (h := sm h W) (S := S) (by omega)
    have c2 := sq_start (LS := LS) (n := n) (by omega) (h := h) (V := W)
    by_cases q : ((bN S : Nat) : Int) < f
    · have e0 := mLy_veq (V := W) (k := 25) (a := 0) (by omega)
      have hL := vok_veq hWk e0
      have eL : mLy W 25 0 0 0 = (m : Int) := by rw [e0.1.1]; exact hW0
      have hMs : ms (mTk (vPass x (mRs S m 0 (mLy W 25 0))) 25 0) V := ms_trans (mk_back (by omega) (mk_pass (mk_rs m 0 (mk_0 W)) x)) hW
      have eN : vN (mLy W 25 0) = m := by unfold vN; rw [eL]; rfl
      have o1 := lOk_of (S := S) (x := x) hV hL (veq_trans e0 hW.1)
      have o2 := lOk_of (S := S) (x := x) hV hV (veq_refl V)
      rw [eN] at o1
      have oo : (vNights x (mRs S m 0 (mLy W 25 0))).2 = 0 ↔ lG V x S = 0 := o1.trans o2.symm
      have key : ∀ g : Int × Int, (if (vNights x (mRs S m 0 (mLy W 25 0))).2 = 0 then ((S : Int), ((bN S : Nat) : Int)) else g) = (if ((bN S : Nat) : Int) < f ∧ lG V x S = 0 then ((S : Int), ((bN S : Nat) : Int)) else g) := by
        intro g
        by_cases p : lG V x S = 0
        · rw [if_pos (oo.mpr p), if_pos ⟨q, p⟩]
        · rw [if_neg (fun z => p (oo.mp z)), if_neg (fun z => p z.2)]
      have bb : ∀ g : Int × Int, g = (if ((bN S : Nat) : Int) < f ∧ lG V x S = 0 then ((S : Int), ((bN S : Nat) : Int)) else (b, f)) → (-4 ≤ g.1 ∧ g.1 ≤ 128) ∧ (0 ≤ g.2 ∧ g.2 ≤ 1048576) := by
        intro g hg
        by_cases p : ((bN S : Nat) : Int) < f ∧ lG V x S = 0
        · rw [if_pos p] at hg; subst hg; dsimp only; omega
        · rw [if_neg p] at hg; subst hg; dsimp only; omega
      have b9 := bb _ rfl
      obtain ⟨U, k9, k8⟩ := ih (S + 1) (W := mTk (vPass x (mRs S m 0 (mLy W 25 0))) 25 0) (b := (if ((bN S : Nat) : Int) < f ∧ lG V x S = 0 then ((S : Int), ((bN S : Nat) : Int)) else (b, f)).1) (f := (if ((bN S : Nat) : Int) < f ∧ lG V x S = 0 then ((S : Int), ((bN S : Nat) : Int)) else (b, f)).2) (some (vI ((0 + m : Nat) : Int))) (by omega) hMs b9.1 b9.2
      refine ⟨U, ?_, k8⟩
      have k7 := lp_lampsI (LS := LS) hn (h := h) (S := S) (x := x) (y := y) (b := b) (f := f) (r := (laB y (mLa V x (e + 1) S (b, f)), sm h U)) (by omega) hx m 0 (N := N) (W := mLy W 25 0) hN hL (by rw [eL]; omega) (by rw [key]; exact k9)
      refine .go ?_ k7
      rw [sg_X6_lamps_31]
      simp (disch := omega) only [↓reduceIte, i_le, i_nle, i_lt, i_nlt, i_eq, i_ne, and_self, and_true, true_and, and_false, false_and, or_true, true_or, or_false, false_or, nx_of, Int.toNat_natCast, Option.bind_some, rm_0, rm_1, rm_2, rm_3, rm_4, rm_5, rm_6, rm_7, rm_8, rm_9, rm_10, rm_11, rm_12, rm_13, rm_14, rm_15, rm_16, rm_17, rm_18, rm_19, rm_20, rm_21, rm_22, rm_23, rm_24, rm_25, rm_26, rm_27, rm_28, rm_29, um_0, um_1, um_2, um_3, um_4, um_5, um_6, um_7, um_8, um_9, um_10, um_11, um_12, um_13, um_14, um_15, um_16, um_17, um_18, um_19, um_20, um_21, um_22, um_23, um_24, um_25, um_26, um_27, um_28, um_29, rm_k, um_k, vu_at, vu_ne, ↓bd c1, ↓bd c2, c1, c2, hW0, p2]
      rfl
    · obtain ⟨U, k9, k8⟩ := ih (S + 1) (W := W) (b := b) (f := f) w (by omega) hW hb hf
      refine ⟨U, ?_, k8⟩
      have em : mLa V x (e + 1) S (b, f) = mLa V x e (S + 1) (b, f) := by
        simp only [mLa]
        rw [if_neg (fun z => q z.1)]
      rw [em]
      refine .go ?_ k9
      rw [sg_X6_lamps_31]
      simp (disch := omega) only [↓reduceIte, i_le, i_nle, i_lt, i_nlt, i_eq, i_ne, and_self, and_true, true_and, and_false, false_and, or_true, true_or, or_false, false_or, nx_of, Int.toNat_natCast, Option.bind_some, rm_0, rm_1, rm_2, rm_3, rm_4, rm_5, rm_6, rm_7, rm_8, rm_9, rm_10, rm_11, rm_12, rm_13, rm_14, rm_15, rm_16, rm_17, rm_18, rm_19, rm_20, rm_21, rm_22, rm_23, rm_24, rm_25, rm_26, rm_27, rm_28, rm_29, um_0, um_1, um_2, um_3, um_4, um_5, um_6, um_7, um_8, um_9, um_10, um_11, um_12, um_13, um_14, um_15, um_16, um_17, um_18, um_19, um_20, um_21, um_22, um_23, um_24, um_25, um_26, um_27, um_28, um_29, rm_k, um_k, vu_at, vu_ne, ↓bd c1, c1, hW0, p2]
      rfl
