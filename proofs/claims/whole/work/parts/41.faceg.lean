/-! What is called from without: winter, likely, seen. -/
def rWinter (V : nl_O) (x y z : Int) : Int :=
  if (0 ≤ x ∧ x ≤ 9999) ∧ (1 ≤ y ∧ y ≤ 60) ∧ 0 ≤ z ∧ z ≤ 2 then (if z = 0 then (vWi x.toNat y.toNat 0 V).2 else if z = 1 then vSum (vWi x.toNat y.toNat 0 V).1 7 (vN (vWi x.toNat y.toNat 0 V).1) 0 else (vWi x.toNat y.toNat 0 V).1 8 0) else -1
theorem vWi_ok (z : Nat) : ∀ (e t : Nat) {N : Int} {V : nl_O}, vok N V → vok (N + 7 * e) (vWi z e t V).1 := by
  intro e
  induction e with
  | zero => intro t N V hV; exact vok_up hV (by omega)
  | succ e ih =>
    intro t N V hV
    have h2 := (vStir_ok hV (dr z t)).1
    have k9 := ih (t + 1) (vPass_ok (d := 1) h2).1
    simp only [vWi]
    exact vok_up k9 (by omega)
theorem rWinter_veq {N : Int} {V W : nl_O} (hV : vok N V) (h : veq V W) (x y z : Int) : rWinter V x y z = rWinter W x y z := by
  have a := vWi_veq x.toNat y.toNat 0 hV h
  have b := vWi_ok x.toNat y.toNat 0 hV
  have e := vN_eq b
  have b1 := b.1
  unfold rWinter
  rw [a.2, ← vN_veq a.1, vSum_veq a.1 (k := 7) ⟨by omega, by omega⟩ (vN (vWi x.toNat y.toNat 0 V).1) 0 (by omega), a.1.2.1 8 0 (by omega) (by omega) (by omega)]
theorem pu_winter {LS : Int} {n : Nat} (hn : 6 ≤ n) {h : nl_H} {x y z N : Int} (hx : nl_inR x) (hy : nl_inR y) (hz : nl_inR z) (hN : N ≤ 70000) (hV : vok N (h 4 0)) : ∃ W, nl_c LS n m_X5_winter [vO 5 0, vI x, vI y, vI z] h = some (rWinter (h 4 0) x y z, so h 4 1 W) := by
  obtain ⟨n, rfl, hn1⟩ := nl_suc hn
  have hn9 := hV.1
  have c1 := sp_isWithin (LS := LS) (n := n) (by omega) (h := h) (a := 0) (b := 9999) hx ⟨by omega, by omega⟩ ⟨by omega, by omega⟩
  have c2 := sp_isWithin (LS := LS) (n := n) (by omega) (h := h) (a := 1) (b := 60) hy ⟨by omega, by omega⟩ ⟨by omega, by omega⟩
  have c3 := sp_isWithin (LS := LS) (n := n) (by omega) (h := h) (a := 0) (b := 2) hz ⟨by omega, by omega⟩ ⟨by omega, by omega⟩
  have c4 := sp_copyFrom (LS := LS) (n := n) (by omega) (h := h) (o := 1) (v := 0) (by omega)
  have hq := veq_copy (A := h 4 1) (B := h 4 0) hn9.2
  have hW := vok_veq hV hq
  by_cases q1 : 0 ≤ x ∧ x ≤ 9999
  · by_cases q2 : 1 ≤ y ∧ y ≤ 60
    · by_cases q3 : 0 ≤ z ∧ z ≤ 2
      · rw [← rWinter_veq hW hq]
        unfold rWinter
        obtain ⟨a, rfl⟩ : ∃ a : Nat, x = a := ⟨x.toNat, by omega⟩
        obtain ⟨m, rfl⟩ : ∃ m : Nat, y = m := ⟨y.toNat, by omega⟩
        have k9 := lp_winter (LS := LS) hn1 (z := a) (m := m) (y := z) (by omega) (by omega) (by omega) m 0 (N := N) (g := 0) (V := vCopy (h 4 1) (h 4 0)) (so h 4 1 (vCopy (h 4 1) (h 4 0))) so_at (by omega) (by omega) hW (by omega) (by omega)
        rw [so_so, Int.zero_add] at k9
        rw [if_pos ⟨q1, q2, q3⟩, Int.toNat_natCast, Int.toNat_natCast]
        rw [if_pos q1] at c1
        rw [if_pos q2] at c2
        rw [if_pos q3] at c3
        refine ⟨_, cl_X5_winter (.go ?_ k9)⟩
        rw [sg_X5_winter_0]
        simp (disch := omega) only [nx_of, if_pos, if_neg, if_true, if_false, true_or, or_true, Int.toNat_natCast, Option.bind_some, c1, c2, c3, c4]
        rfl
      · refine ⟨h 4 1, cl_X5_winter (.ret ?_)⟩
        unfold rWinter
        rw [sg_X5_winter_0, if_neg (fun w => q3 w.2.2), so_self]
        rw [if_pos q1] at c1
        rw [if_pos q2] at c2
        rw [if_neg q3] at c3
        simp (disch := omega) only [nx_of, if_pos, if_neg, if_true, if_false, true_or, or_true, Int.toNat_natCast, Option.bind_some, c1, c2, c3]
    · refine ⟨h 4 1, cl_X5_winter (.ret ?_)⟩
      unfold rWinter
      rw [sg_X5_winter_0, if_neg (fun w => q2 w.2.1), so_self]
      rw [if_pos q1] at c1
      rw [if_neg q2] at c2
      simp (disch := omega) only [nx_of, if_pos, if_neg, if_true, if_false, true_or, or_true, Int.toNat_natCast, Option.bind_some, c1, c2]
  · refine ⟨h 4 1, cl_X5_winter (.ret ?_)⟩
    unfold rWinter
    rw [sg_X5_winter_0, if_neg (fun w => q1 w.1), so_self]
    rw [if_neg q1] at c1
    simp (disch := omega) only [nx_of, if_pos, if_neg, if_true, if_false, true_or, or_true, Int.toNat_natCast, Option.bind_some, c1]
def rSeen (S V : nl_O) (x y z : Int) : Int × nl_O :=
  if (0 ≤ x ∧ x ≤ 20) ∧ (0 ≤ y ∧ y < V 0 0) ∧ 0 ≤ z ∧ z ≤ 1 then (if S 3 0 < 6 then (S 3 0 + 1, vAdd S x y z) else (-3, S)) else (-1, S)
theorem pu_seen {LS : Int} {n : Nat} (hn : 2 ≤ n) {h : nl_H} {x y z N : Int} (hx : nl_inR x) (hy : nl_inR y) (hz : nl_inR z) (hV : vok N (h 4 0)) (hS : 0 ≤ h 3 0 3 0 ∧ h 3 0 3 0 ≤ 6) : nl_c LS n m_X5_seen [vO 5 0, vI x, vI y, vI z] h = some ((rSeen (h 3 0) (h 4 0) x y z).1, so h 3 0 (rSeen (h 3 0) (h 4 0) x y z).2) := by
  obtain ⟨n, rfl, hn1⟩ := nl_suc hn
  have hn9 := hV.1
  have c1 := sp_isWithin (LS := LS) (n := n) (by omega) (h := h) (a := 0) (b := 20) hx ⟨by omega, by omega⟩ ⟨by omega, by omega⟩
  have c2 := sp_isHour (LS := LS) (n := n) (by omega) (h := h) (o := 0) hy (by omega)
  have c3 := sp_isWithin (LS := LS) (n := n) (by omega) (h := h) (a := 0) (b := 1) hz ⟨by omega, by omega⟩ ⟨by omega, by omega⟩
  obtain ⟨hz1, hz2⟩ := hz
  have ea : ∀ z, vAdd (h 3 0) x y z 3 0 = h 3 0 3 0 + 1 := fun z => by unfold vAdd; rw [vu_at]
  refine cl_X5_seen (.ret ?_)
  rw [sg_X5_seen_0]
  unfold rSeen
  by_cases q1 : 0 ≤ x ∧ x ≤ 20
  · by_cases q2 : 0 ≤ y ∧ y < h 4 0 0 0
    · by_cases q3 : 0 ≤ z ∧ z ≤ 1
      · rw [if_pos ⟨q1, q2, q3⟩]
        rw [if_pos q1] at c1
        rw [if_pos q2] at c2
        rw [if_pos q3] at c3
        by_cases q4 : h 3 0 3 0 < 6
        · rw [if_pos q4]
          by_cases q5 : z = 1
          · subst q5
            have c4 := sp_seAdd (LS := LS) (n := n) (by omega) (h := h) (x := x) (y := y) (z := 1) ⟨hS.1, q4⟩ (.inr rfl)
            simp (disch := omega) only [nx_of, if_pos, if_neg, if_true, if_false, true_or, or_true, Int.toNat_natCast, Option.bind_some, c1, c2, c3, c4, so_at, ea]
          · obtain rfl : z = 0 := by omega
            have c4 := sp_seAdd (LS := LS) (n := n) (by omega) (h := h) (x := x) (y := y) (z := 0) ⟨hS.1, q4⟩ (.inl rfl)
            simp (disch := omega) only [nx_of, if_pos, if_neg, if_true, if_false, true_or, or_true, Int.toNat_natCast, Option.bind_some, c1, c2, c3, c4, so_at, ea]
        · rw [if_neg q4]
          simp (disch := omega) only [nx_of, if_pos, if_neg, if_true, if_false, true_or, or_true, Int.toNat_natCast, Option.bind_some, c1, c2, c3, so_self]
      · rw [if_neg (fun w => q3 w.2.2), so_self]
        rw [if_pos q1] at c1
        rw [if_pos q2] at c2
        rw [if_neg q3] at c3
        simp (disch := omega) only [nx_of, if_pos, if_neg, if_true, if_false, true_or, or_true, Int.toNat_natCast, Option.bind_some, c1, c2, c3]
    · rw [if_neg (fun w => q2 w.2.1), so_self]
      rw [if_pos q1] at c1
      rw [if_neg q2] at c2
      simp (disch := omega) only [nx_of, if_pos, if_neg, if_true, if_false, true_or, or_true, Int.toNat_natCast, Option.bind_some, c1, c2]
  · rw [if_neg (fun w => q1 w.1), so_self]
    rw [if_neg q1] at c1
    simp (disch := omega) only [nx_of, if_pos, if_neg, if_true, if_false, true_or, or_true, Int.toNat_natCast, Option.bind_some, c1]
