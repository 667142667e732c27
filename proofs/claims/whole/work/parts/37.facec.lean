/-! What is called from without: lamps. -/
/-- the houses that must rest, of e from i on; none if resting does not do -/
def vLa (V : nl_O) (x : Nat) : Nat → Nat → Nat → Option Nat
  | 0, _, R => some R
  | e + 1, i, R => if vMiss x 1 V i = -1 then vLa V x e (i + 1) R else if vMiss x 1 (vRest V i) i = -1 then vLa V x e (i + 1) (R ||| 2 ^ i) else none
def laA (y : Int) : Option Nat → Int
  | none => -4
  | some R => if y = 0 then ((bN R : Nat) : Int) else ((R : Nat) : Int)
theorem vRest_ok {N : Int} {V : nl_O} (hV : vok N V) {i : Nat} (hi : (i : Int) < V 0 0) : vok N (vRest V i) := by
  obtain ⟨w1, w2, w3, w4, w5⟩ := hV
  have b := (w4 i hi).2.2.2.2.1
  unfold vRest
  refine ⟨by rw [vu_k (by omega)]; exact w1, by rw [vu_k (by omega)]; exact w2, by rw [vu_k (by omega)]; exact w3, fun j hj => ?_, fun j k hj hk => ?_⟩
  · rw [vu_k (show 0 ≠ 7 by omega)] at hj ⊢
    have := w4 j hj
    rw [vu_k (by omega), vu_k (by omega), vu_k (by omega), vu_k (by omega), vu_k (show 8 ≠ 7 by omega), vu_k (show 9 ≠ 7 by omega)]
    refine ⟨this.1, this.2.1, this.2.2.1, this.2.2.2.1, ?_, this.2.2.2.2.2⟩
    by_cases q : j = i
    · subst q; rw [vu_at]; split <;> omega
    · rw [vu_ne (fun z => q z.2)]; exact this.2.2.2.2.1
  · rw [vu_k (show 0 ≠ 7 by omega)] at hj hk
    rw [vu_k (by omega)]; exact w5 j k hj hk
theorem lp_lamps {LS : Int} {n : Nat} (hn : 5 ≤ n) {N : Int} {V : nl_O} {x : Nat} {y : Int} (hx : x ≤ 40) (hy : y = 0 ∨ y = 1) (hN : N ≤ 90000) (hV : vok N V) : ∀ (e i R : Nat) (h : nl_H), h 4 0 = V → (i : Int) + e = V 0 0 → R < 128 → ∃ W, nl_Rn LS cd_X5_lamps (nl_c LS n) ct_X5_lamps 1 26 [some (vO 5 0), some (vI (x : Int)), some (vI y), some (vI (R : Int)), some (vI (i : Int))] h (laA y (vLa V x e i R), so h 4 1 W) := by
  have hn9 := hV.1
  intro e
  induction e with
  | zero =>
    intro i R h hv hi hR
    refine ⟨h 4 1, .ret ?_⟩
    rw [sg_X5_lamps_26, hv]
    have c1 := sp_bitCount (LS := LS) (n := n) (by omega) (h := h) hR
    rcases hy with rfl | rfl
    · simp (disch := omega) only [nx_of, if_pos, if_neg, if_true, if_false, true_or, or_true, Int.toNat_natCast, Option.bind_some, c1, so_self, vLa, laA]
    · simp (disch := omega) only [nx_of, if_pos, if_neg, if_true, if_false, true_or, or_true, Int.toNat_natCast, Option.bind_some, so_self, vLa, laA]
  | succ e ih =>
    intro i R h hv hi hR
    have c1 := sp_copyFrom (LS := LS) (n := n) (by omega) (h := h) (o := 1) (v := 0) (by omega)
    rw [hv] at c1
    have hq := veq_copy (A := h 4 1) (B := V) hn9.2
    have hW := vok_veq hV hq
    obtain ⟨W1, c2⟩ := sp_nextMiss (LS := LS) hn (h := so h 4 1 (vCopy (h 4 1) V)) (i := i) (x := x) (N := N) (by omega) hN (by rw [so_at]; exact hW) (by rw [so_at, hq.1.1]; omega)
    rw [so_at, so_so, vMiss_veq x 1 hW hq (by rw [hq.1.1]; omega)] at c2
    have b1 := vMiss_in x 1 V i
    by_cases q1 : vMiss x 1 V i = -1
    · obtain ⟨W, k9⟩ := ih (i + 1) R (so h 4 1 W1) (by rw [so_ne (by omega)]; exact hv) (by omega) hR
      rw [so_so] at k9
      have e9 : vLa V x (e + 1) i R = vLa V x e (i + 1) R := by simp only [vLa]; rw [if_pos q1]
      rw [e9]
      refine ⟨W, .go ?_ k9⟩
      rw [sg_X5_lamps_26, hv]
      simp (disch := omega) only [nx_of, if_pos, if_neg, if_true, if_false, true_or, or_true, Int.toNat_natCast, Option.bind_some, c1, c2]
      rfl
    · have hq3 := veq_copy (A := W1) (B := V) hn9.2
      have c3 := sp_copyFrom (LS := LS) (n := n) (by omega) (h := so h 4 1 W1) (o := 1) (v := 0) (by omega)
      rw [so_at, so_ne (by omega), hv, so_so] at c3
      have hW3 := vok_veq hV hq3
      have b7 := (hW3.2.2.2.1 i (by rw [hq3.1.1]; omega)).2.2.2.2.1
      have c4 := sp_giveRest (LS := LS) (n := n) (by omega) (h := so h 4 1 (vCopy W1 V)) (o := 1) (i := i) (by omega) (by rw [so_at]; exact b7)
      rw [so_at, so_so] at c4
      have hr := vRest_veq hq3 (i := i) (by rw [hq3.1.1]; omega)
      have hi2 : (i : Int) < vCopy W1 V 0 0 := by rw [hq3.1.1]; omega
      have hW4 := vRest_ok hW3 hi2
      have z0 : vRest (vCopy W1 V) i 0 0 = V 0 0 := by rw [hr.1.1]; exact vu_k (by omega)
      obtain ⟨W5, c5⟩ := sp_nextMiss (LS := LS) hn (h := so h 4 1 (vRest (vCopy W1 V) i)) (i := i) (x := x) (N := N) (by omega) hN (by rw [so_at]; exact hW4) (by rw [so_at, z0]; omega)
      rw [so_at, so_so, vMiss_veq x 1 hW4 hr (by rw [z0]; omega)] at c5
      have b2 := vMiss_in x 1 (vRest V i) i
      by_cases q2 : vMiss x 1 (vRest V i) i = -1
      · have b3 := bo_lt hR (k := i) (by omega)
        obtain ⟨W, k9⟩ := ih (i + 1) (R ||| 2 ^ i) (so h 4 1 W5) (by rw [so_ne (by omega)]; exact hv) (by omega) b3
        rw [so_so] at k9
        have e9 : vLa V x (e + 1) i R = vLa V x e (i + 1) (R ||| 2 ^ i) := by simp only [vLa]; rw [if_neg q1, if_pos q2]
        rw [e9]
        have p9 : (0 : Int) ≤ (R : Int) ∧ (0 : Int) ≤ ((2 ^ i : Nat) : Int) := ⟨Int.natCast_nonneg _, Int.natCast_nonneg _⟩
        refine ⟨W, .go ?_ k9⟩
        rw [sg_X5_lamps_26, hv]
        simp (disch := omega) only [nx_of, if_pos, if_neg, if_true, if_false, true_or, or_true, Int.toNat_natCast, Option.bind_some, c1, c2, c3, c4, c5, bp_z]
        rfl
      · have e9 : vLa V x (e + 1) i R = none := by simp only [vLa]; rw [if_neg q1, if_neg q2]
        rw [e9]
        refine ⟨W5, .ret ?_⟩
        rw [sg_X5_lamps_26, hv]
        simp (disch := omega) only [nx_of, if_pos, if_neg, if_true, if_false, true_or, or_true, Int.toNat_natCast, Option.bind_some, c1, c2, c3, c4, c5, laA]
def rLamps (V : nl_O) (x y : Int) : Int :=
  if (1 ≤ x ∧ x ≤ 40) ∧ 0 ≤ y ∧ y ≤ 1 then laA y (vLa V x.toNat (vN V) 0 0) else -1
theorem pu_lamps {LS : Int} {n : Nat} (hn : 6 ≤ n) {h : nl_H} {x y N : Int} (hx : nl_inR x) (hy : nl_inR y) (hN : N ≤ 90000) (hV : vok N (h 4 0)) : ∃ W, nl_c LS n m_X5_lamps [vO 5 0, vI x, vI y] h = some (rLamps (h 4 0) x y, so h 4 1 W) := by
  obtain ⟨n, rfl, hn1⟩ := nl_suc hn
  have e := vN_eq hV
  have c1 := sp_isWithin (LS := LS) (n := n) (by omega) (h := h) (a := 1) (b := 40) hx ⟨by omega, by omega⟩ ⟨by omega, by omega⟩
  have c3 := sp_isWithin (LS := LS) (n := n) (by omega) (h := h) (a := 0) (b := 1) hy ⟨by omega, by omega⟩ ⟨by omega, by omega⟩
  unfold rLamps
  by_cases q1 : 1 ≤ x ∧ x ≤ 40
  · by_cases q2 : 0 ≤ y ∧ y ≤ 1
    · obtain ⟨d, rfl⟩ : ∃ d : Nat, x = d := ⟨x.toNat, by omega⟩
      obtain ⟨W, k9⟩ := lp_lamps (LS := LS) hn1 (x := d) (y := y) (by omega) (by omega) hN hV (vN (h 4 0)) 0 0 h rfl (by omega) (by omega)
      rw [if_pos ⟨q1, q2⟩, Int.toNat_natCast]
      refine ⟨W, cl_X5_lamps (.go ?_ k9)⟩
      rw [sg_X5_lamps_0]
      rw [if_pos q1] at c1
      rw [if_pos q2] at c3
      simp (disch := omega) only [nx_of, if_pos, if_neg, if_true, if_false, true_or, or_true, Int.toNat_natCast, Option.bind_some, c1, c3]
      rfl
    · refine ⟨h 4 1, cl_X5_lamps (.ret ?_)⟩
      rw [sg_X5_lamps_0, if_neg (fun w => q2 w.2), so_self]
      rw [if_pos q1] at c1
      rw [if_neg q2] at c3
      simp (disch := omega) only [nx_of, if_pos, if_neg, if_true, if_false, true_or, or_true, Int.toNat_natCast, Option.bind_some, c1, c3]
  · refine ⟨h 4 1, cl_X5_lamps (.ret ?_)⟩
    rw [sg_X5_lamps_0, if_neg (fun w => q1 w.1), so_self]
    rw [if_neg q1] at c1
    simp (disch := omega) only [nx_of, if_pos, if_neg, if_true, if_false, true_or, or_true, Int.toNat_natCast, Option.bind_some, c1]
