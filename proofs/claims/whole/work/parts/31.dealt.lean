/-! Deal: the lowest of the least, the table, dealing out. -/
/-- the lowest hour from j on, of d, whose price is t; 0 -/
def dLow (D : nl_O) (S i : Nat) : Nat → Nat → Nat
  | 0, _ => 0
  | d + 1, j => if S.testBit j = false ∧ dPr D S i j = D 1 S then j else dLow D S i d (j + 1)
theorem dLow_in {D : nl_O} {S i : Nat} : ∀ (d j m : Nat), j + d = m → 0 < m → dLow D S i d j < m := by
  intro d
  induction d with
  | zero => intro j m _ hm; simp only [dLow]; exact hm
  | succ d ih =>
    intro j m hj hm
    simp only [dLow]
    split
    · omega
    · exact ih (j + 1) m (by omega) hm
theorem lp_lowestOfLeast {LS : Int} {n : Nat} (hn : 1 ≤ n) {h : nl_H} {S i m : Nat} (hS : S < 128) (hi : i < 7) (hm : m ≤ 7) (hT : -100000 ≤ h 0 0 1 S ∧ h 0 0 1 S ≤ 100000) (hD : ∀ k, k < m → S.testBit k = false → -100000 ≤ dPr (h 0 0) S i k ∧ dPr (h 0 0) S i k ≤ 100000) : ∀ (d j : Nat), j + d = m → nl_Rn LS cd_X0_lowestOfLeast (nl_c LS n) ct_X0_lowestOfLeast 1 3 [some (vO 0 0), some (vI (S : Int)), some (vI (i : Int)), some (vI (m : Int)), some (vI (j : Int))] h (((dLow (h 0 0) S i d j : Nat) : Int), h) := by
  intro d
  induction d with
  | zero =>
    intro j hj
    obtain rfl : j = m := by omega
    refine .ret ?_
    rw [sg_X0_lowestOfLeast_3]
    simp (disch := omega) only [nx_of, if_pos, if_neg, if_true, if_false, true_or, or_true, Int.toNat_natCast, Option.bind_some]
    rfl
  | succ d ih =>
    intro j hj
    have hz := bs_z (S := S) (k := j) (by omega)
    have l1 : nl_nz 1 = 1 := nx_of (by omega) (by omega)
    have t1 : (1 : Int).toNat = 1 := rfl
    have t5 : nl_nz (j : Int) = j := nz_nat (by omega)
    have t6 : nl_nz (S : Int) = S := nz_nat (by omega)
    have k9 := ih (j + 1) (by omega)
    by_cases hk : S.testBit j = true
    · have e : dLow (h 0 0) S i (d + 1) j = dLow (h 0 0) S i d (j + 1) := by
        simp only [dLow]; rw [if_neg (by rw [hk]; exact fun q => by cases q.1)]
      rw [e]
      refine .go ?_ k9
      rw [sg_X0_lowestOfLeast_3, t5, t6, Int.toNat_natCast, hz, l1, t1, Int.toNat_natCast, bt_z, if_pos hk]
      simp (disch := omega) only [nx_of, if_pos, if_neg, if_true, if_false, true_or, or_true, Int.toNat_natCast, Option.bind_some]
      rfl
    · have hd := hD j (by omega) (by simpa using hk)
      have hk2 : S.testBit j = false := by simpa using hk
      have hc := sp_priceWith (LS := LS) hn (h := h) hS hi (k := j) (by omega)
      by_cases hq : dPr (h 0 0) S i j = h 0 0 1 S
      · have e : dLow (h 0 0) S i (d + 1) j = j := by simp only [dLow]; rw [if_pos ⟨hk2, hq⟩]
        rw [e]
        refine .ret ?_
        rw [sg_X0_lowestOfLeast_3, t5, t6, Int.toNat_natCast, hz, l1, t1, Int.toNat_natCast, bt_z, if_neg hk]
        simp (disch := omega) only [nx_of, if_pos, if_neg, if_true, if_false, true_or, or_true, Int.toNat_natCast, Option.bind_some, hc]
        exact if_pos ⟨Int.natCast_nonneg _, by omega⟩
      · have e : dLow (h 0 0) S i (d + 1) j = dLow (h 0 0) S i d (j + 1) := by
          simp only [dLow]; rw [if_neg (fun q => hq q.2)]
        rw [e]
        refine .go ?_ k9
        rw [sg_X0_lowestOfLeast_3, t5, t6, Int.toNat_natCast, hz, l1, t1, Int.toNat_natCast, bt_z, if_neg hk]
        simp (disch := omega) only [nx_of, if_pos, if_neg, if_true, if_false, true_or, or_true, Int.toNat_natCast, Option.bind_some, hc]
        rfl
theorem sp_lowestOfLeast {LS : Int} {n : Nat} (hn : 2 ≤ n) {h : nl_H} {S i m : Nat} (hS : S < 128) (hi : i < 7) (hm : m ≤ 7) (hT : -100000 ≤ h 0 0 1 S ∧ h 0 0 1 S ≤ 100000) (hD : ∀ k, k < m → S.testBit k = false → -100000 ≤ dPr (h 0 0) S i k ∧ dPr (h 0 0) S i k ≤ 100000) : nl_c LS n m_X0_lowestOfLeast [vO 0 0, vI (S : Int), vI (i : Int), vI (m : Int)] h = some (((dLow (h 0 0) S i m 0 : Nat) : Int), h) := by
  obtain ⟨n, rfl, hn1⟩ := nl_suc hn
  have k9 := lp_lowestOfLeast (LS := LS) (by omega : 1 ≤ n) (h := h) hS hi hm hT hD m 0 (by omega)
  refine cl_X0_lowestOfLeast (.go ?_ k9)
  rw [sg_X0_lowestOfLeast_0]
  rfl
/-- two lots exchanged -/
def dEx (D : nl_O) (a b : Nat) : nl_O := vu (vu D 4 a (D 4 b)) 4 b (D 4 a)
theorem sp_exchange {LS : Int} {n : Nat} (hn : 1 ≤ n) {h : nl_H} {a b : Nat} (ha : a < 7) (hb : b < 7) : nl_c LS n m_X0_exchange [vA 0 0 4, vI (a : Int), vI (b : Int)] h = some (0, so h 0 0 (dEx (h 0 0) a b)) := by
  obtain ⟨n, rfl, hn1⟩ := nl_suc hn
  refine cl_X0_exchange (.ret ?_)
  rw [sg_X0_exchange_0]
  simp (disch := omega) only [nx_of, if_pos, if_neg, if_true, if_false, true_or, or_true, Int.toNat_natCast, Option.bind_some, up_so, so_at, so_so]
  rfl
/-- the table filled from S down -/
def dTab (D : nl_O) (m : Nat) : Nat → nl_O
  | 0 => D
  | S + 1 => dTab (vu D 1 S (dLeast D S m)) m S
theorem dTab_o {m : Nat} : ∀ (S : Nat) (D : nl_O) (k i : Nat), k ≠ 1 ∨ S ≤ i → dTab D m S k i = D k i := by
  intro S
  induction S with
  | zero => intro D k i _; rfl
  | succ S ih =>
    intro D k i hk
    simp only [dTab]
    rw [ih _ _ _ (by omega), vu_ne (by omega)]

/-- a house's kept hours below k -/
def dBits (V : nl_O) (i : Nat) : Nat → Nat
  | 0 => 0
  | k + 1 => dBits V i k ||| (if vHv V i k ≤ V 5 i - V 7 i then 2 ^ k else 0)
theorem dBits_lt {V : nl_O} {i : Nat} : ∀ k, k ≤ 7 → dBits V i k < 128 := by
  intro k
  induction k with
  | zero => intro _; simp only [dBits]; omega
  | succ k ih =>
    intro hk
    simp only [dBits]
    split
    · exact bo_lt (ih (by omega)) (by omega)
    · rw [Nat.or_zero]; exact ih (by omega)
theorem dBits_tb {V : nl_O} {i : Nat} {j : Nat} : ∀ k, (dBits V i k).testBit j = true ↔ j < k ∧ vHv V i j ≤ V 5 i - V 7 i := by
  intro k
  induction k with
  | zero =>
    simp only [dBits, Nat.zero_testBit]
    constructor
    · intro q; cases q
    · intro q; exact absurd q.1 (by omega)
  | succ k ih =>
    simp only [dBits, Nat.testBit_or, Bool.or_eq_true, ih]
    by_cases hk : vHv V i k ≤ V 5 i - V 7 i
    · rw [if_pos hk, Nat.testBit_two_pow]
      simp only [decide_eq_true_eq]
      constructor
      · rintro (q | q)
        · exact ⟨by omega, q.2⟩
        · subst q; exact ⟨by omega, hk⟩
      · rintro ⟨q1, q2⟩
        by_cases q : k = j
        · exact .inr q
        · exact .inl ⟨by omega, q2⟩
    · rw [if_neg hk, Nat.zero_testBit]
      constructor
      · rintro (q | q)
        · exact ⟨by omega, q.2⟩
        · cases q
      · rintro ⟨q1, q2⟩
        refine .inl ⟨?_, q2⟩
        by_cases q : k = j
        · subst q; exact absurd q2 hk
        · omega
/-- the price of hour k for house i -/
def dP (V : nl_O) (i k : Nat) : Int := if vHv V i k ≤ V 5 i - V 7 i then -(vHv V i k) else 1000
/-- the prices and kept bits of one house, of d hours from k on -/
def dW (D V : nl_O) (i : Nat) : Nat → Nat → nl_O
  | 0, _ => D
  | d + 1, k => dW (vu (vu D 0 (i * 7 + k) (dP V i k)) 3 i ((dBits V i (k + 1) : Nat) : Int)) V i d (k + 1)
/-- of e houses from i on -/
def dWW (D V : nl_O) : Nat → Nat → nl_O
  | 0, _ => D
  | e + 1, i => dWW (dW (vu D 3 i 0) V i (vN V) 0) V e (i + 1)
theorem lp_weighK {LS : Int} {n : Nat} (hn : 3 ≤ n) {v i : Nat} {N : Int} {V : nl_O} {r : Int × nl_H} (hN : N ≤ 100000) (hV : vok N V) (hi : (i : Int) < V 0 0) : ∀ (d k : Nat) (h : nl_H) (w : Option nl_V), h 4 v = V → h 0 0 3 i = ((dBits V i k : Nat) : Int) → (k : Int) + d = V 0 0 → (∀ w', nl_Rn LS cd_X0_weigh (nl_c LS n) ct_X0_weigh 0 2 [some (vO 0 0), some (vO 4 v), some (vI ((i + 1 : Nat) : Int)), some (vI ((k + d : Nat) : Int)), w'] (so h 0 0 (dW (h 0 0) V i d k)) r) → nl_Rn LS cd_X0_weigh (nl_c LS n) ct_X0_weigh 0 19 [some (vO 0 0), some (vO 4 v), some (vI (i : Int)), some (vI (k : Int)), w] h r := by
  have hn9 := hV.1
  intro d
  induction d with
  | zero =>
    intro k h w hv h3 hk hr
    subst hv
    refine .go ?_ (hr w)
    rw [sg_X0_weigh_19]
    simp (disch := omega) only [nx_of, if_pos, if_neg, if_true, if_false, true_or, or_true, Int.toNat_natCast, Option.bind_some, dW, so_self]
    rfl
  | succ d ih =>
    intro k h w hv h3 hk hr
    have b0 := hV.2.2.2.1 i hi
    have b1 := vHv_in hV (i := i) (k := k) (by omega)
    have b3 := dBits_lt (V := V) (i := i) k (by omega)
    have b4 := bp_le (k := k) (by omega)
    have c1 := sp_wouldKeep (LS := LS) hn (h := h) (o := v) (i := i) (k := k) (N := N) (t := V 7 i) hN (by rw [hv]; exact hV) (by rw [hv]; omega) (by rw [hv]; omega) (by omega)
    have c2 := sp_heaviness (LS := LS) (by omega : 2 ≤ n) (h := h) (o := v) (i := i) (k := k) (N := N) hN (by rw [hv]; exact hV) (by rw [hv]; omega) (by rw [hv]; omega)
    rw [hv] at c1 c2
    have e1 : ((i : Int) * 7 + (k : Int)) = ((i * 7 + k : Nat) : Int) := by omega
    have e2 : k + (d + 1) = k + 1 + d := by omega
    rw [e2] at hr
    have z0 : nl_nz 0 = 0 := nx_of (by omega) (by omega)
    have z1 : (0 : Int).toNat = 0 := rfl
    by_cases hq : vHv V i k ≤ V 5 i - V 7 i
    · have p1 : dP V i k = -(vHv V i k) := by unfold dP; rw [if_pos hq]
      have p2 : dBits V i (k + 1) = dBits V i k ||| 2 ^ k := by simp only [dBits]; rw [if_pos hq]
      have k9 := ih (k + 1) (so h 0 0 (vu (vu (h 0 0) 0 (i * 7 + k) (dP V i k)) 3 i ((dBits V i (k + 1) : Nat) : Int))) (some (vI 1)) (by rw [so_ne (by omega)]; exact hv) (by rw [so_at, vu_at]) (by omega) (by
        intro w'
        rw [so_at, so_so]
        exact hr w')
      refine .go ?_ k9
      rw [sg_X0_weigh_19, hv, e1]
      simp (disch := omega) only [nx_of, if_pos, if_neg, if_true, if_false, true_or, or_true, Int.toNat_natCast, Option.bind_some, hv, c1, c2, up_so, so_at, so_so, vu_k, h3, bp_z, p1, p2]
      rfl
    · have p1 : dP V i k = 1000 := by unfold dP; rw [if_neg hq]
      have p2 : dBits V i (k + 1) = dBits V i k := by simp only [dBits]; rw [if_neg hq, Nat.or_zero]
      have k9 := ih (k + 1) (so h 0 0 (vu (vu (h 0 0) 0 (i * 7 + k) (dP V i k)) 3 i ((dBits V i (k + 1) : Nat) : Int))) (some (vI 0)) (by rw [so_ne (by omega)]; exact hv) (by rw [so_at, vu_at]) (by omega) (by
        intro w'
        rw [so_at, so_so]
        exact hr w')
      refine .go ?_ k9
      rw [sg_X0_weigh_19, hv, e1]
      simp (disch := omega) only [nx_of, if_pos, if_neg, if_true, if_false, true_or, or_true, Int.toNat_natCast, Option.bind_some, hv, c1, up_so, so_at, so_so, vu_k, h3, z0, z1, Nat.or_zero, p1, p2]
      rfl
