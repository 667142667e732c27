/-! What is called from without: likely, winter, seen. -/
/-- the largest number up to d that goes into both -/
def ld (a b : Nat) : Nat → Nat
  | 0 => 1
  | d + 1 => if d = 0 then 1 else if a % (d + 1) = 0 ∧ b % (d + 1) = 0 then d + 1 else ld a b d
theorem ld_in (a b : Nat) : ∀ d, 1 ≤ ld a b d ∧ (ld a b d ≤ d ∨ ld a b d = 1) := by
  intro d
  induction d with
  | zero => exact ⟨Nat.le_refl _, .inr rfl⟩
  | succ d ih =>
    simp only [ld]
    split
    · omega
    · split <;> omega
theorem lp_divisor {LS : Int} {den : nl_D} {h : nl_H} {a b : Nat} (ha : a ≤ 1000) (hb : b ≤ 1000) : ∀ (d : Nat) (x : Int), x = (d : Int) → d ≤ 1000 → nl_Rn LS cd_X5_largestDivisor den ct_X5_largestDivisor 1 2 [some (vI (a : Int)), some (vI (b : Int)), some (vI x)] h (((ld a b d : Nat) : Int), h) := by
  intro d
  induction d with
  | zero =>
    intro x hx hd
    subst hx
    refine .ret ?_
    rw [sg_X5_largestDivisor_2]
    simp (disch := omega) only [nx_of, if_pos, if_neg, if_true, if_false, true_or, or_true, Int.toNat_natCast, Option.bind_some, ld]
    rfl
  | succ d ih =>
    intro x hx hd
    subst hx
    have g : ((d : Int) + 1) = ((d + 1 : Nat) : Int) := rfl
    have m1 := Nat.mod_le a (d + 1)
    have m2 := Nat.mod_le b (d + 1)
    have k9 := ih (((d + 1 : Nat) : Int) + -1) (by omega) (by omega)
    have z1 : nl_nz (a : Int) = a := nz_nat (by omega)
    have z2 : nl_nz (b : Int) = b := nz_nat (by omega)
    have z3 : nl_nz ((d + 1 : Nat) : Int) = ((d + 1 : Nat) : Int) := nz_nat (by omega)
    have z4 : nl_nz ((a % (d + 1) : Nat) : Int) = ((a % (d + 1) : Nat) : Int) := nz_nat (by omega)
    have z5 : nl_nz ((b % (d + 1) : Nat) : Int) = ((b % (d + 1) : Nat) : Int) := nz_nat (by omega)
    by_cases q0 : d = 0
    · have e9 : ld a b (d + 1) = 1 := by simp only [ld]; rw [if_pos q0]
      rw [e9]
      refine .ret ?_
      rw [sg_X5_largestDivisor_2]
      simp (disch := omega) only [nx_of, if_pos, if_neg, if_true, if_false, true_or, or_true, Int.toNat_natCast, Option.bind_some]
      rfl
    · by_cases q1 : a % (d + 1) = 0
      · by_cases q2 : b % (d + 1) = 0
        · have e9 : ld a b (d + 1) = d + 1 := by simp only [ld]; rw [if_neg q0, if_pos ⟨q1, q2⟩]
          rw [e9]
          refine .ret ?_
          rw [sg_X5_largestDivisor_2, z1, z2, z3, nx_tm, nx_tm, z4, z5, q1, q2]
          simp (disch := omega) only [nx_of, if_pos, if_neg, if_true, if_false, true_or, or_true, Int.toNat_natCast, Option.bind_some]
        · have e9 : ld a b (d + 1) = ld a b d := by simp only [ld]; rw [if_neg q0, if_neg (fun z => q2 z.2)]
          rw [e9]
          refine .go ?_ k9
          rw [sg_X5_largestDivisor_2, z1, z2, z3, nx_tm, nx_tm, z4, z5, q1]
          simp (disch := omega) only [nx_of, if_pos, if_neg, if_true, if_false, true_or, or_true, Int.toNat_natCast, Option.bind_some]
      · have e9 : ld a b (d + 1) = ld a b d := by simp only [ld]; rw [if_neg q0, if_neg (fun z => q1 z.1)]
        rw [e9]
        refine .go ?_ k9
        rw [sg_X5_largestDivisor_2, z1, z2, z3, nx_tm, nx_tm, z4, z5]
        simp (disch := omega) only [nx_of, if_pos, if_neg, if_true, if_false, true_or, or_true, Int.toNat_natCast, Option.bind_some]
theorem sp_largestDivisor {LS : Int} {n : Nat} (hn : 1 ≤ n) {h : nl_H} {a b : Nat} (ha : a ≤ 1000) (hb : b ≤ 1000) : nl_c LS n m_X5_largestDivisor [vI (a : Int), vI (b : Int)] h = some (((ld a b b : Nat) : Int), h) := by
  obtain ⟨n, rfl, hn1⟩ := nl_suc hn
  refine cl_X5_largestDivisor (.go ?_ (lp_divisor ha hb b (b : Int) rfl hb))
  rw [sg_X5_largestDivisor_0]
/-- the draw of a night -/
def dr (z t : Nat) : Nat := (7919 * z + 6151 * t + 1) * (7919 * z + 6151 * t + 1) % 65521 / 2
theorem sp_drawFor {LS : Int} {n : Nat} (hn : 1 ≤ n) {h : nl_H} {z t : Nat} (hz : z ≤ 9999) (ht : t ≤ 60) : nl_c LS n m_X5_drawFor [vI (z : Int), vI (t : Int)] h = some (((dr z t : Nat) : Int), h) := by
  obtain ⟨n, rfl, hn1⟩ := nl_suc hn
  refine cl_X5_drawFor (.ret ?_)
  rw [sg_X5_drawFor_0]
  have z1 : nl_nz (z : Int) = z := nz_nat (by omega)
  have z2 : nl_nz (t : Int) = t := nz_nat (by omega)
  rw [z1, z2]
  have e1 : (7919 * (z : Int) + 6151 * (t : Int)) + 1 = ((7919 * z + 6151 * t + 1 : Nat) : Int) := by omega
  rw [e1]
  unfold dr
  generalize hX : 7919 * z + 6151 * t + 1 = X
  have hX2 : X ≤ 80000000 := by omega
  have hm := Nat.mul_le_mul hX2 hX2
  have e2 : (X : Int) * (X : Int) = ((X * X : Nat) : Int) := by rw [Int.natCast_mul]
  rw [e2]
  generalize X * X = Y at hm ⊢
  have l1 : nl_nl (Y : Int) = Y := nx_ofL (by omega) (by omega)
  have l2 : nl_nl 65521 = ((65521 : Nat) : Int) := nx_ofL (by omega) (by omega)
  have l3 : nl_nl 2 = ((2 : Nat) : Int) := nx_ofL (by omega) (by omega)
  have hmod : Y % 65521 < 65521 := Nat.mod_lt _ (by omega)
  have l4 : nl_nl ((Y % 65521 : Nat) : Int) = ((Y % 65521 : Nat) : Int) := nx_ofL (by omega) (by omega)
  rw [l1, l2, l3, nx_tm, l4, nx_td]
  simp (disch := omega) only [if_neg]
/-- the missed ones of a winter, and the valley behind it: e nights from t on -/
def vWi (z : Nat) : Nat → Nat → nl_O → nl_O × Int
  | 0, _, V => (V, 0)
  | e + 1, t, V => ((vWi z e (t + 1) (vPass 1 (vStir V (dr z t)))).1, (vNights 1 (vStir V (dr z t))).2 + (vWi z e (t + 1) (vPass 1 (vStir V (dr z t)))).2)
theorem vTrade_ok {N : Int} {V : nl_O} (hV : vok N V) {a b : Nat} (ha : (a : Int) < V 0 0) (hb : (b : Int) < V 0 0) : vok N (vTrade V a b) := by
  obtain ⟨w1, w2, w3, w4, w5⟩ := hV
  have z : ∀ k j, k ≠ 8 → vTrade V a b k j = V k j := fun k j h => by unfold vTrade; rw [vu_k h, vu_k h]
  have z8 : ∀ j, vTrade V a b 8 j = V 8 j ∨ vTrade V a b 8 j = V 8 a ∨ vTrade V a b 8 j = V 8 b := fun j => by
    unfold vTrade
    by_cases q : j = b
    · subst q; rw [vu_at]; exact .inr (.inl rfl)
    · rw [vu_ne (fun z => q z.2)]
      by_cases q2 : j = a
      · subst q2; rw [vu_at]; exact .inr (.inr rfl)
      · rw [vu_ne (fun z => q2 z.2)]; exact .inl rfl
  have ba := (w4 a ha).2.2.2.2.2.1
  have bb := (w4 b hb).2.2.2.2.2.1
  refine ⟨by rw [z _ _ (by omega)]; exact w1, by rw [z _ _ (by omega)]; exact w2, by rw [z _ _ (by omega)]; exact w3, fun j hj => ?_, fun j k hj hk => ?_⟩
  · rw [z 0 0 (by omega)] at hj ⊢
    have := w4 j hj
    rw [z 3 _ (by omega), z 4 _ (by omega), z 5 _ (by omega), z 6 _ (by omega), z 7 _ (by omega), z 9 _ (by omega)]
    have k8 := z8 j
    exact ⟨this.1, this.2.1, this.2.2.1, this.2.2.2.1, this.2.2.2.2.1, by rcases k8 with q | q | q <;> omega, this.2.2.2.2.2.2⟩
  · rw [z 0 0 (by omega)] at hj hk
    rw [z 10 _ (by omega)]; exact w5 j k hj hk
theorem vBur_ok {N : Int} {V : nl_O} (hV : vok N V) {k : Nat} {x : Int} (hx : 0 ≤ x ∧ x ≤ 20) : vok N (vu V 3 k x) := by
  obtain ⟨w1, w2, w3, w4, w5⟩ := hV
  have z : ∀ f j, f ≠ 3 → vu V 3 k x f j = V f j := fun f j h => vu_k h
  have z3 : ∀ j, vu V 3 k x 3 j = V 3 j ∨ vu V 3 k x 3 j = x := fun j => by
    by_cases q : j = k
    · subst q; rw [vu_at]; exact .inr rfl
    · rw [vu_ne (fun z => q z.2)]; exact .inl rfl
  refine ⟨by rw [z _ _ (by omega)]; exact w1, by rw [z _ _ (by omega)]; exact w2, by rw [z _ _ (by omega)]; exact w3, fun j hj => ?_, fun j k hj hk => ?_⟩
  · rw [z 0 0 (by omega)] at hj ⊢
    have := w4 j hj
    rw [z 4 _ (by omega), z 5 _ (by omega), z 6 _ (by omega), z 7 _ (by omega), z 8 _ (by omega), z 9 _ (by omega)]
    have k3 := z3 j
    exact ⟨by rcases k3 with q | q <;> omega, this.2⟩
  · rw [z 0 0 (by omega)] at hj hk
    rw [z 10 _ (by omega)]; exact w5 j k hj hk
theorem vStir_ok {N : Int} {V : nl_O} (hV : vok N V) (x : Nat) : vok N (vStir V x) ∧ vStir V x 0 0 = V 0 0 := by
  have e := vN_eq hV
  have e2 := hV.1
  have m1 : x % vN V < vN V := Nat.mod_lt _ (by omega)
  have m2 : x / 8 % vN V < vN V := Nat.mod_lt _ (by omega)
  unfold vStir
  repeat' split
  · exact ⟨vTrade_ok hV (by omega) (by omega), by unfold vTrade; rw [vu_k (by omega), vu_k (by omega)]⟩
  · exact ⟨vRest_ok hV (by omega), by unfold vRest; rw [vu_k (by omega)]⟩
  · exact ⟨vBur_ok hV (by omega), by rw [vu_k (by omega)]⟩
  · exact ⟨hV, rfl⟩
theorem vWi_veq (z : Nat) : ∀ (e t : Nat) {N : Int} {V W : nl_O}, vok N V → veq V W → veq (vWi z e t V).1 (vWi z e t W).1 ∧ (vWi z e t V).2 = (vWi z e t W).2 := by
  intro e
  induction e with
  | zero => intro t N V W _ h; exact ⟨h, rfl⟩
  | succ e ih =>
    intro t N V W hV h
    have h1 := vStir_veq hV h (dr z t)
    have h2 := (vStir_ok hV (dr z t)).1
    have h3 := ih (t + 1) (vPass_ok (d := 1) h2).1 (vPass_veq (d := 1) h2 h1)
    have h4 := vNights_veq 1 h2 h1
    simp only [vWi]
    rw [h3.2, h4.2]
    exact ⟨h3.1, rfl⟩
theorem lp_winter {LS : Int} {n : Nat} (hn : 5 ≤ n) {z m : Nat} {y : Int} (hz : z ≤ 9999) (hm : m ≤ 60) (hy : y = 0 ∨ y = 1 ∨ y = 2) : ∀ (e t : Nat) {N g : Int} {V : nl_O} (h : nl_H), h 4 1 = V → t + e = m → N + 7 * e ≤ 80000 → vok N V → 0 ≤ g → g ≤ 7 * t → nl_Rn LS cd_X5_winter (nl_c LS n) ct_X5_winter 1 49 [some (vO 5 0), some (vI (z : Int)), some (vI (m : Int)), some (vI y), some (vI g), some (vI (t : Int))] h (if y = 0 then g + (vWi z e t V).2 else if y = 1 then vSum (vWi z e t V).1 7 (vN (vWi z e t V).1) 0 else (vWi z e t V).1 8 0, so h 4 1 (vWi z e t V).1) := by
  intro e
  induction e with
  | zero =>
    intro t N g V h hv ht hN hV hg1 hg2
    have hn9 := hV.1
    have c1 := sp_tiredTogether (LS := LS) (n := n) (by omega) (h := h) (o := 1) (N := N) (by rw [hv]; exact hV)
    rw [hv] at c1
    have es : so h 4 1 V = h := by rw [← hv]; exact so_self
    have z0 : nl_nz 0 = 0 := nx_of (by omega) (by omega)
    have z1 : (0 : Int).toNat = 0 := rfl
    have eg : g + 0 = g := by omega
    refine .ret ?_
    rw [sg_X5_winter_49, hv]
    simp only [vWi]
    rcases hy with rfl | rfl | rfl
    · simp (disch := omega) only [nx_of, if_pos, if_neg, if_true, if_false, true_or, or_true, Int.toNat_natCast, Option.bind_some, es, eg]
    · simp (disch := omega) only [nx_of, if_pos, if_neg, if_true, if_false, true_or, or_true, Int.toNat_natCast, Option.bind_some, es, c1]
    · simp (disch := omega) only [nx_of, if_pos, if_neg, if_true, if_false, true_or, or_true, Int.toNat_natCast, Option.bind_some, es, z0, z1]
  | succ e ih =>
    intro t N g V h hv ht hN hV hg1 hg2
    have hn9 := hV.1
    have c1 := sp_drawFor (LS := LS) (n := n) (by omega) (h := h) (z := z) (t := t) hz (by omega)
    have hd : dr z t < 100000 := by unfold dr; omega
    have c2 := sp_stir (LS := LS) (n := n) (by omega) (h := h) (o := 1) (x := dr z t) (N := N) (by rw [hv]; exact hV) hd
    rw [hv] at c2
    have hs := vStir_ok hV (dr z t)
    have c3 := sp_letNightsPass (LS := LS) hn (h := so h 4 1 (vStir V (dr z t))) (o := 1) (d := 1) (N := N) (by omega) (by omega) (by rw [so_at]; exact hs.1)
    have g1 : ((1 : Nat) : Int) = 1 := rfl
    rw [so_at, so_so, g1] at c3
    have hp := vPass_ok (d := 1) hs.1
    have hk := (vNights_ok 1 hs.1).2.2
    have k9 := ih (t + 1) (N := N + 7 * ((1 : Nat) : Int)) (g := g + (vNights 1 (vStir V (dr z t))).2) (V := vPass 1 (vStir V (dr z t))) (so h 4 1 (vPass 1 (vStir V (dr z t)))) so_at (by omega) (by omega) hp.1 (by omega) (by omega)
    rw [so_so, Int.add_assoc] at k9
    simp only [vWi]
    refine .go ?_ k9
    rw [sg_X5_winter_49]
    simp (disch := omega) only [nx_of, if_pos, if_neg, if_true, if_false, true_or, or_true, Int.toNat_natCast, Option.bind_some, c1, c2, c3]
    rfl
