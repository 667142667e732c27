/-! Deal: the fewest swaps. -/
theorem dEx_dEx {D : nl_O} {a b : Nat} : dEx (dEx D a b) a b = D := by
  funext k i
  unfold dEx
  by_cases q1 : k = 4 ∧ i = b
  · obtain ⟨rfl, rfl⟩ := q1
    rw [vu_at]
    by_cases q2 : a = i
    · subst q2; rw [vu_at]
    · rw [vu_ne (by omega), vu_at]
  · rw [vu_ne q1]
    by_cases q2 : k = 4 ∧ i = a
    · obtain ⟨rfl, rfl⟩ := q2
      rw [vu_at, vu_at]
    · rw [vu_ne q2, vu_ne q1, vu_ne q2]
theorem dEx_k {D : nl_O} {a b k : Nat} (h : k ≠ 4) : dEx D a b k = D k := by
  funext i
  unfold dEx
  rw [vu_k h, vu_k h]
theorem dEx_v {D : nl_O} {a b : Nat} : dEx D a b 4 a = D 4 b := by
  unfold dEx
  by_cases q : a = b
  · subst q; rw [vu_at]
  · rw [vu_ne (by omega), vu_at]
theorem dEx_w {D : nl_O} {a b : Nat} : dEx D a b 4 b = D 4 a := by
  unfold dEx
  rw [vu_at]
theorem dEx_o {D : nl_O} {a b i : Nat} (h1 : i ≠ a) (h2 : i ≠ b) : dEx D a b 4 i = D 4 i := by
  unfold dEx
  rw [vu_ne (by omega), vu_ne (by omega)]
/-- the lots and kept bits in range -/
def lok (D : nl_O) (m : Nat) : Prop := (∀ i, i < m → ∃ k : Nat, k < m ∧ D 4 i = k) ∧ (∀ i, i < m → ∃ X : Nat, X < 128 ∧ D 3 i = X)
theorem lok_ex {D : nl_O} {m a b : Nat} (h : lok D m) (ha : a < m) (hb : b < m) : lok (dEx D a b) m := by
  refine ⟨fun i hi => ?_, fun i hi => ?_⟩
  · by_cases q1 : i = a
    · subst q1; rw [dEx_v]; exact h.1 b hb
    · by_cases q2 : i = b
      · subst q2; rw [dEx_w]; exact h.1 a ha
      · rw [dEx_o q1 q2]; exact h.1 i hi
  · rw [dEx_k (by omega)]; exact h.2 i hi
def bI : Bool → Int
  | true => 1
  | false => 0
/-- house i keeps its lot -/
def lk (D : nl_O) (i : Nat) : Bool := (D 3 i).toNat.testBit (D 4 i).toNat
def cBo (f : nl_O → Nat → Bool) (D : nl_O) (i q : Nat) : Nat → Nat → Bool
  | 0, _ => false
  | e + 1, j => if lk (dEx D i j) i = true ∧ f (dEx D i j) (if j = i then q else q - 1) = true then true else cBo f D i q e (j + 1)
/-- whether the lots from house i on can be bridged with q swaps; d houses left -/
def cB : Nat → Nat → nl_O → Nat → Bool
  | 0, _, _, _ => true
  | d + 1, i, D, q => cBo (cB d (i + 1)) D i q (if 0 < q then d + 1 else 1) i
theorem lp_canBridge {LS : Int} {n : Nat} {d i m q : Nat} (hn : d + 2 ≤ n) (hm : m ≤ 7) (hi : i + (d + 1) = m) (hq : q ≤ 7)
    (IH : ∀ (h : nl_H) (q : Nat), q ≤ 7 → lok (h 0 0) m → nl_c LS n m_X0_canBridge [vA 0 0 4, vA 0 0 3, vI (m : Int), vI ((i + 1 : Nat) : Int), vI (q : Int)] h = some (bI (cB d (i + 1) (h 0 0) q), h)) {h : nl_H} (hD : lok (h 0 0) m) (la : Nat) (hla : la ≤ m) (hlq : q = 0 → la = i + 1) :
    ∀ (e j : Nat) (w : Option nl_V), i ≤ j → j + e = la → nl_Rn LS cd_X0_canBridge (nl_c LS n) ct_X0_canBridge 3 24 [some (vA 0 0 4), some (vA 0 0 3), some (vI (m : Int)), some (vI (i : Int)), some (vI (q : Int)), some (vI ((la : Int) - 1)), some (vI (j : Int)), w] h (bI (cBo (cB d (i + 1)) (h 0 0) i q e j), h) := by
  intro e
  induction e with
  | zero =>
    intro j w h1 h2
    refine .ret ?_
    rw [sg_X0_canBridge_24]
    simp (disch := omega) only [nx_of, if_pos, if_neg, if_true, if_false, true_or, or_true, Int.toNat_natCast, Option.bind_some, cBo, bI]
  | succ e ih =>
    intro j w h1 h2
    have c1 := sp_exchange (LS := LS) (n := n) (by omega) (h := h) (a := i) (b := j) (by omega) (by omega)
    have c2 := sp_exchange (LS := LS) (n := n) (by omega) (h := so h 0 0 (dEx (h 0 0) i j)) (a := i) (b := j) (by omega) (by omega)
    rw [so_at, so_so, dEx_dEx, so_self] at c2
    have hL := lok_ex hD (a := i) (b := j) (by omega) (by omega)
    obtain ⟨k, hk, ek⟩ := hL.1 i (by omega)
    obtain ⟨X, hX, eX⟩ := hL.2 i (by omega)
    have el : lk (dEx (h 0 0) i j) i = X.testBit k := by unfold lk; rw [ek, eX]; rfl
    have c3 := IH (so h 0 0 (dEx (h 0 0) i j)) (if j = i then q else q - 1) (by split <;> omega) (by rw [so_at]; exact hL)
    rw [so_at] at c3
    have hz := bs_z (S := X) (k := k) (by omega)
    have l1 : nl_nz 1 = 1 := nx_of (by omega) (by omega)
    have l0 : nl_nz 0 = 0 := nx_of (by omega) (by omega)
    have t1 : (1 : Int).toNat = 1 := rfl
    have p8 : (0 : Int) ≤ ((X / 2 ^ k : Nat) : Int) ∧ (0 : Int) ≤ 1 := ⟨Int.natCast_nonneg _, by omega⟩
    have k9 := fun w => ih (j + 1) w (by omega) (by omega)
    have g : ((i : Int) + 1) = ((i + 1 : Nat) : Int) := rfl
    by_cases hb : X.testBit k = true
    · by_cases hj : j = i
      · subst hj
        rw [if_pos rfl] at c3
        by_cases hf : cB d (j + 1) (dEx (h 0 0) j j) q = true
        · have e9 : cBo (cB d (j + 1)) (h 0 0) j q (e + 1) j = true := by
            simp only [cBo]; rw [el, if_pos trivial, if_pos ⟨hb, hf⟩]
          rw [e9]
          rw [hf] at c3
          refine .ret ?_
          rw [sg_X0_canBridge_24, g]
          simp (disch := omega) only [nx_of, if_pos, if_neg, if_true, if_false, true_or, or_true, Int.toNat_natCast, Option.bind_some, c1, so_at, ek, eX, hz, l1, t1, bt_z, if_pos hb, c3, c2, bI]
        · have e9 : cBo (cB d (j + 1)) (h 0 0) j q (e + 1) j = cBo (cB d (j + 1)) (h 0 0) j q e (j + 1) := by
            simp only [cBo]; rw [el, if_pos trivial, if_neg (fun y => hf y.2)]
          rw [e9]
          have hf2 : cB d (j + 1) (dEx (h 0 0) j j) q = false := by simpa using hf
          rw [hf2] at c3
          refine .go ?_ (k9 (some (vI 0)))
          rw [sg_X0_canBridge_24, g]
          simp (disch := omega) only [nx_of, if_pos, if_neg, if_true, if_false, true_or, or_true, Int.toNat_natCast, Option.bind_some, c1, so_at, ek, eX, hz, l1, t1, bt_z, if_pos hb, c3, c2, l0, bI]
      · rw [if_neg hj] at c3
        by_cases hf : cB d (i + 1) (dEx (h 0 0) i j) (q - 1) = true
        · have e9 : cBo (cB d (i + 1)) (h 0 0) i q (e + 1) j = true := by
            simp only [cBo]; rw [el, if_neg hj, if_pos ⟨hb, hf⟩]
          rw [e9]
          rw [hf] at c3
          by_cases hq1 : 0 < q
          · have g2 : (q : Int) - 1 = ((q - 1 : Nat) : Int) := by omega
            refine .ret ?_
            rw [sg_X0_canBridge_24, g, g2]
            simp (disch := omega) only [nx_of, if_pos, if_neg, if_true, if_false, true_or, or_true, Int.toNat_natCast, Option.bind_some, c1, so_at, ek, eX, hz, l1, t1, bt_z, if_pos hb, c3, c2, bI]
          · exfalso; omega
        · have e9 : cBo (cB d (i + 1)) (h 0 0) i q (e + 1) j = cBo (cB d (i + 1)) (h 0 0) i q e (j + 1) := by
            simp only [cBo]; rw [el, if_neg hj, if_neg (fun y => hf y.2)]
          rw [e9]
          have hf2 : cB d (i + 1) (dEx (h 0 0) i j) (q - 1) = false := by simpa using hf
          rw [hf2] at c3
          have g2 : (q : Int) - 1 = ((q - 1 : Nat) : Int) := by omega
          refine .go ?_ (k9 (some (vI 0)))
          rw [sg_X0_canBridge_24, g, g2]
          simp (disch := omega) only [nx_of, if_pos, if_neg, if_true, if_false, true_or, or_true, Int.toNat_natCast, Option.bind_some, c1, so_at, ek, eX, hz, l1, t1, bt_z, if_pos hb, c3, c2, l0, bI]
          rfl
    · have e9 : cBo (cB d (i + 1)) (h 0 0) i q (e + 1) j = cBo (cB d (i + 1)) (h 0 0) i q e (j + 1) := by
        simp only [cBo]; rw [el, if_neg (fun y => hb y.1)]
      rw [e9]
      refine .go ?_ (k9 (some (vI 0)))
      rw [sg_X0_canBridge_24, g]
      simp (disch := omega) only [nx_of, if_pos, if_neg, if_true, if_false, true_or, or_true, Int.toNat_natCast, Option.bind_some, c1, so_at, ek, eX, hz, l1, t1, bt_z, if_neg hb, c2, l0]
      rfl
theorem sp_canBridge {LS : Int} {m : Nat} (hm : m ≤ 7) : ∀ (d i n : Nat) (h : nl_H) (q : Nat), d + 2 ≤ n → i + d = m → q ≤ 7 → lok (h 0 0) m → nl_c LS n m_X0_canBridge [vA 0 0 4, vA 0 0 3, vI (m : Int), vI (i : Int), vI (q : Int)] h = some (bI (cB d i (h 0 0) q), h) := by
  intro d
  induction d with
  | zero =>
    intro i n h q hn hi hq hD
    obtain ⟨n, rfl, hn1⟩ := nl_suc hn
    refine cl_X0_canBridge (.ret ?_)
    rw [sg_X0_canBridge_0]
    simp (disch := omega) only [nx_of, if_pos, if_neg, if_true, if_false, true_or, or_true, Int.toNat_natCast, Option.bind_some, cB, bI]
  | succ d ih =>
    intro i n h q hn hi hq hD
    obtain ⟨n, rfl, hn1⟩ := nl_suc hn
    have IH := fun (h : nl_H) (q : Nat) (a : q ≤ 7) (b : lok (h 0 0) m) => ih (i + 1) n h q (by omega) (by omega) a b
    by_cases q0 : 0 < q
    · have k9 := lp_canBridge (LS := LS) (n := n) (d := d) (by omega) hm hi hq IH hD m (by omega) (by omega) (d + 1) i none (by omega) (by omega)
      have e9 : cB (d + 1) i (h 0 0) q = cBo (cB d (i + 1)) (h 0 0) i q (d + 1) i := by simp only [cB]; rw [if_pos q0]
      rw [e9]
      refine cl_X0_canBridge (.go ?_ k9)
      rw [sg_X0_canBridge_0]
      simp (disch := omega) only [nx_of, if_pos, if_neg, if_true, if_false, true_or, or_true, Int.toNat_natCast, Option.bind_some]
    · have k9 := lp_canBridge (LS := LS) (n := n) (d := d) (by omega) hm hi hq IH hD (i + 1) (by omega) (by omega) 1 i none (by omega) (by omega)
      have e : ((i + 1 : Nat) : Int) - 1 = i := by omega
      rw [e] at k9
      have e9 : cB (d + 1) i (h 0 0) q = cBo (cB d (i + 1)) (h 0 0) i q 1 i := by simp only [cB]; rw [if_neg q0]
      rw [e9]
      refine cl_X0_canBridge (.go ?_ k9)
      rw [sg_X0_canBridge_0]
      simp (disch := omega) only [nx_of, if_pos, if_neg, if_true, if_false, true_or, or_true, Int.toNat_natCast, Option.bind_some]
/-- the lots as they lie in a valley, of e houses from i on -/
def dL (D V : nl_O) : Nat → Nat → nl_O
  | 0, _ => D
  | e + 1, i => dL (vu D 4 i (V 8 i)) V e (i + 1)
theorem dL_k {V : nl_O} : ∀ (e i : Nat) (D : nl_O) (f j : Nat), f ≠ 4 ∨ j < i ∨ i + e ≤ j → dL D V e i f j = D f j := by
  intro e
  induction e with
  | zero => intro i D f j _; rfl
  | succ e ih =>
    intro i D f j h
    simp only [dL]
    rw [ih _ _ _ _ (by omega), vu_ne (by omega)]
theorem dL_v {V : nl_O} : ∀ (e i : Nat) (D : nl_O) (j : Nat), i ≤ j → j < i + e → dL D V e i 4 j = V 8 j := by
  intro e
  induction e with
  | zero => intro i D j _ _; omega
  | succ e ih =>
    intro i D j h1 h2
    simp only [dL]
    by_cases q : i = j
    · subst q; rw [dL_k _ _ _ _ _ (by omega), vu_at]
    · exact ih (i + 1) _ j (by omega) (by omega)
/-- the fewest swaps that bridge, from q on, of e -/
def fS (D : nl_O) (m : Nat) : Nat → Nat → Int
  | 0, _ => -4
  | e + 1, q => if cB m 0 D q = true then (q : Int) else fS D m e (q + 1)
theorem lp_fewest {LS : Int} {n v m : Nat} {V : nl_O} (hm : m ≤ 7) (hn : m + 2 ≤ n) (hV : V 0 0 = (m : Int)) : ∀ (e q : Nat) (h : nl_H), h 4 v = V → q + e = m → lok (h 0 0) m → nl_Rn LS cd_X0_fewestSwaps (nl_c LS n) ct_X0_fewestSwaps 1 30 [some (vO 0 0), some (vO 4 v), some (vI (q : Int))] h (fS (h 0 0) m e q, h) := by
  intro e
  induction e with
  | zero =>
    intro q h hv hq hD
    refine .ret ?_
    rw [sg_X0_fewestSwaps_30, hv, hV]
    simp (disch := omega) only [nx_of, if_pos, if_neg, if_true, if_false, true_or, or_true, Int.toNat_natCast, Option.bind_some, fS]
  | succ e ih =>
    intro q h hv hq hD
    have c1 := sp_canBridge (LS := LS) hm m 0 n h q hn (by omega) (by omega) hD
    have g : ((0 : Nat) : Int) = 0 := rfl
    rw [g] at c1
    by_cases hb : cB m 0 (h 0 0) q = true
    · have e9 : fS (h 0 0) m (e + 1) q = q := by simp only [fS]; rw [if_pos hb]
      rw [hb] at c1
      rw [e9]
      refine .ret ?_
      rw [sg_X0_fewestSwaps_30, hv, hV]
      simp (disch := omega) only [nx_of, if_pos, if_neg, if_true, if_false, true_or, or_true, Int.toNat_natCast, Option.bind_some, c1, bI]
    · have e9 : fS (h 0 0) m (e + 1) q = fS (h 0 0) m e (q + 1) := by simp only [fS]; rw [if_neg hb]
      have hb2 : cB m 0 (h 0 0) q = false := by simpa using hb
      rw [hb2] at c1
      rw [e9]
      refine .go ?_ (ih (q + 1) h hv (by omega) hD)
      rw [sg_X0_fewestSwaps_30, hv, hV]
      simp (disch := omega) only [nx_of, if_pos, if_neg, if_true, if_false, true_or, or_true, Int.toNat_natCast, Option.bind_some, c1, bI]
      rfl
theorem lp_lots {LS : Int} {n v m : Nat} {V : nl_O} {r : Int × nl_H} (hm : m ≤ 7) (hV : V 0 0 = (m : Int)) : ∀ (e i : Nat) (h : nl_H), h 4 v = V → i + e = m → nl_Rn LS cd_X0_fewestSwaps (nl_c LS n) ct_X0_fewestSwaps 1 30 [some (vO 0 0), some (vO 4 v), some (vI 0)] (so h 0 0 (dL (h 0 0) V e i)) r → nl_Rn LS cd_X0_fewestSwaps (nl_c LS n) ct_X0_fewestSwaps 1 2 [some (vO 0 0), some (vO 4 v), some (vI (i : Int))] h r := by
  intro e
  induction e with
  | zero =>
    intro i h hv hi hr
    simp only [dL, so_self] at hr
    refine .go ?_ hr
    rw [sg_X0_fewestSwaps_2, hv, hV]
    simp (disch := omega) only [nx_of, if_pos, if_neg, if_true, if_false, true_or, or_true, Int.toNat_natCast, Option.bind_some]
  | succ e ih =>
    intro i h hv hi hr
    refine .go ?_ (ih (i + 1) (so h 0 0 (vu (h 0 0) 4 i (V 8 i))) (by rw [so_ne (by omega)]; exact hv) (by omega) (by rw [so_at, so_so]; exact hr))
    rw [sg_X0_fewestSwaps_2, hv, hV]
    simp (disch := omega) only [nx_of, if_pos, if_neg, if_true, if_false, true_or, or_true, Int.toNat_natCast, Option.bind_some, up_so]
    rfl
theorem sp_fewestSwaps {LS : Int} {n : Nat} (hn : 10 ≤ n) {h : nl_H} {v : Nat} {N : Int} (hV : vok N (h 4 v)) (hK : ∀ i, i < vN (h 4 v) → ∃ X : Nat, X < 128 ∧ h 0 0 3 i = X) : nl_c LS n m_X0_fewestSwaps [vO 0 0, vO 4 v] h = some (fS (dL (h 0 0) (h 4 v) (vN (h 4 v)) 0) (vN (h 4 v)) (vN (h 4 v)) 0, so h 0 0 (dL (h 0 0) (h 4 v) (vN (h 4 v)) 0)) := by
  obtain ⟨n, rfl, hn1⟩ := nl_suc hn
  have hn9 := hV.1
  have k8 : h 4 v 0 0 = (vN (h 4 v) : Int) := by unfold vN; omega
  have h7 : vN (h 4 v) ≤ 7 := by unfold vN; omega
  have hL : lok (dL (h 0 0) (h 4 v) (vN (h 4 v)) 0) (vN (h 4 v)) := by
    refine ⟨fun i hi => ?_, fun i hi => ?_⟩
    · have b := (hV.2.2.2.1 i (by omega)).2.2.2.2.2.1
      rw [dL_v _ _ _ _ (by omega) (by omega)]
      exact ⟨(h 4 v 8 i).toNat, by omega, by omega⟩
    · rw [dL_k _ _ _ _ _ (by omega)]; exact hK i hi
  have k7 := lp_fewest (LS := LS) (n := n) (v := v) h7 (by omega) k8 (vN (h 4 v)) 0 (so h 0 0 (dL (h 0 0) (h 4 v) (vN (h 4 v)) 0)) (so_ne (by omega)) (by omega) (by rw [so_at]; exact hL)
  rw [so_at] at k7
  have k9 := lp_lots (LS := LS) (n := n) (v := v) h7 k8 (vN (h 4 v)) 0 h rfl (by omega) k7
  refine cl_X0_fewestSwaps (.go ?_ k9)
  rw [sg_X0_fewestSwaps_0]
  rfl
