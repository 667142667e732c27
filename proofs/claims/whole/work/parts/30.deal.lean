/-! Deal: bits, prices, the least of a set. -/
theorem bp_le {k : Nat} (hk : k < 7) : 2 ^ k ≤ 64 ∧ 1 ≤ 2 ^ k := by
  have : k = 0 ∨ k = 1 ∨ k = 2 ∨ k = 3 ∨ k = 4 ∨ k = 5 ∨ k = 6 := by omega
  rcases this with q | q | q | q | q | q | q <;> subst q <;> decide
theorem bp_z {k : Nat} (hk : k < 7) : nl_nz (1 * 2 ^ k) = ((2 ^ k : Nat) : Int) := by
  have := bp_le hk
  have e : (1 * 2 ^ k : Int) = ((2 ^ k : Nat) : Int) := by rw [Int.one_mul, Int.natCast_pow]; rfl
  rw [e]
  exact nz_nat (by omega)
theorem bs_z {S k : Nat} (hS : S < 2147483648) : nl_nz ((S : Int) / 2 ^ k) = ((S / 2 ^ k : Nat) : Int) := by
  have e : ((S : Int) / 2 ^ k) = ((S / 2 ^ k : Nat) : Int) := by rw [Int.natCast_ediv, Int.natCast_pow]; rfl
  rw [e]
  have := Nat.div_le_self S (2 ^ k)
  exact nz_nat (by omega)
theorem bs_d {S k : Nat} : ((S : Int) / 2 ^ k) = ((S / 2 ^ k : Nat) : Int) := by rw [Int.natCast_ediv, Int.natCast_pow]; rfl
theorem bt_z {S k : Nat} : ((S / 2 ^ k &&& 1 : Nat) : Int) = if S.testBit k = true then 1 else 0 := by
  rw [Nat.and_one_is_mod, Nat.testBit_eq_decide_div_mod_eq]
  simp only [decide_eq_true_eq]
  split <;> omega
theorem bo_lt {S k : Nat} (hS : S < 128) (hk : k < 7) : S ||| 2 ^ k < 128 := by
  have := bp_le hk
  exact Nat.or_lt_two_pow (n := 7) hS (by omega)
/-- how many are in a set of seven -/
def bN (S : Nat) : Nat := S % 2 + S / 2 % 2 + S / 4 % 2 + S / 8 % 2 + S / 16 % 2 + S / 32 % 2 + S / 64 % 2
def bA (x : Nat) : Nat := x / 2 &&& 1431655765
def bB (x : Nat) : Nat := x - bA x
def bC (x : Nat) : Nat := bB x &&& 858993459
def bD (x : Nat) : Nat := bB x / 4 &&& 858993459
def bE (x : Nat) : Nat := bC x + bD x
def bG (x : Nat) : Nat := bE x + bE x / 16
def bF (x : Nat) : Nat := bG x &&& 252645135
def bK (x : Nat) : Nat := bF x + bF x / 256
def bL (x : Nat) : Nat := bK x + bK x / 65536
set_option maxRecDepth 20000 in
theorem b_all : ∀ x, x < 128 → bA x ≤ x ∧ bC x < 200 ∧ bD x < 200 ∧ bF x < 300 ∧ (bL x &&& 63) = bN x := by decide
theorem sp_bitCount {LS : Int} {n : Nat} (hn : 1 ≤ n) {h : nl_H} {x : Nat} (hx : x < 128) : nl_c LS n m_J6_bitCount [vI (x : Int)] h = some (((bN x : Nat) : Int), h) := by
  obtain ⟨n, rfl, hn1⟩ := nl_suc hn
  obtain ⟨b1, b2, b3, b4, b5⟩ := b_all x hx
  refine cl_J6_bitCount (.ret ?_)
  rw [sg_J6_bitCount_0f7a4_0]
  have l1 : nl_nz 1 = 1 := nx_of (by omega) (by omega)
  have l2 : nl_nz 2 = 2 := nx_of (by omega) (by omega)
  have l4 : nl_nz 4 = 4 := nx_of (by omega) (by omega)
  have l8 : nl_nz 8 = 8 := nx_of (by omega) (by omega)
  have l16 : nl_nz 16 = 16 := nx_of (by omega) (by omega)
  have l63 : nl_nz 63 = 63 := nx_of (by omega) (by omega)
  have m1 : nl_nz 1431655765 = 1431655765 := nx_of (by omega) (by omega)
  have m2 : nl_nz 858993459 = 858993459 := nx_of (by omega) (by omega)
  have m3 : nl_nz 252645135 = 252645135 := nx_of (by omega) (by omega)
  have t1 : (1 : Int).toNat = 1 := rfl
  have t2 : (2 : Int).toNat = 2 := rfl
  have t4 : (4 : Int).toNat = 4 := rfl
  have t8 : (8 : Int).toNat = 8 := rfl
  have t16 : (16 : Int).toNat = 16 := rfl
  have t63 : (63 : Int).toNat = 63 := rfl
  have u1 : (1431655765 : Int).toNat = 1431655765 := rfl
  have u2 : (858993459 : Int).toNat = 858993459 := rfl
  have u3 : (252645135 : Int).toNat = 252645135 := rfl
  rw [l1, l2, l4, l8, l16, l63, m1, m2, m3, t1, t2, t4, t8, t16, t63, u1, u2, u3]
  have q1 : nl_nz (x : Int) = x := nz_nat (by omega)
  have q2 : nl_nz ((x : Int) / 2 ^ 1) = ((x / 2 : Nat) : Int) := bs_z (k := 1) (by omega)
  rw [q1, q2, Int.toNat_natCast]
  have q3 : (x : Int) - ((x / 2 &&& 1431655765 : Nat) : Int) = (bB x : Nat) := by
    show (x : Int) - (bA x : Nat) = (bB x : Nat)
    unfold bB; omega
  have k1 : bB x ≤ x := by unfold bB; omega
  rw [q3]
  have q4 : nl_nz (bB x : Nat) = (bB x : Nat) := nz_nat (by omega)
  have q5 : nl_nz (((bB x : Nat) : Int) / 2 ^ 2) = ((bB x / 4 : Nat) : Int) := bs_z (k := 2) (by omega)
  rw [q4, q5, Int.toNat_natCast, Int.toNat_natCast]
  have q6 : ((bB x &&& 858993459 : Nat) : Int) + ((bB x / 4 &&& 858993459 : Nat) : Int) = (bE x : Nat) := by
    show ((bC x : Nat) : Int) + (bD x : Nat) = (bE x : Nat)
    unfold bE; omega
  have k2 : bE x < 400 := by unfold bE; omega
  rw [q6]
  have q7 : nl_nz (bE x : Nat) = (bE x : Nat) := nz_nat (by omega)
  have q8 : (((bE x : Nat) : Int) / 2 ^ 4) = ((bE x / 16 : Nat) : Int) := bs_d (k := 4)
  rw [q7, q8]
  have q9 : ((bE x : Nat) : Int) + ((bE x / 16 : Nat) : Int) = (bG x : Nat) := by unfold bG; omega
  have k3 : bG x < 500 := by unfold bG; omega
  rw [q9]
  have r1 : nl_nz (bG x : Nat) = (bG x : Nat) := nz_nat (by omega)
  rw [r1, Int.toNat_natCast]
  have r2 : bG x &&& 252645135 = bF x := rfl
  rw [r2]
  have r3 : nl_nz (bF x : Nat) = (bF x : Nat) := nz_nat (by omega)
  have r4 : (((bF x : Nat) : Int) / 2 ^ 8) = ((bF x / 256 : Nat) : Int) := bs_d (k := 8)
  rw [r3, r4]
  have r5 : ((bF x : Nat) : Int) + ((bF x / 256 : Nat) : Int) = (bK x : Nat) := by unfold bK; omega
  have k4 : bK x < 500 := by unfold bK; omega
  rw [r5]
  have r6 : nl_nz (bK x : Nat) = (bK x : Nat) := nz_nat (by omega)
  have r7 : (((bK x : Nat) : Int) / 2 ^ 16) = ((bK x / 65536 : Nat) : Int) := bs_d (k := 16)
  rw [r6, r7]
  have r8 : ((bK x : Nat) : Int) + ((bK x / 65536 : Nat) : Int) = (bL x : Nat) := by unfold bL; omega
  have k5 : bL x < 600 := by unfold bL; omega
  rw [r8]
  have r9 : nl_nz (bL x : Nat) = (bL x : Nat) := nz_nat (by omega)
  rw [r9, Int.toNat_natCast, b5]
  simp (disch := omega) only [if_pos]
/-- the price of hour k for house i behind set S -/
def dPr (D : nl_O) (S i k : Nat) : Int := D 0 (i * 7 + k) + D 1 (S ||| 2 ^ k)
theorem sp_priceWith {LS : Int} {n : Nat} (hn : 1 ≤ n) {h : nl_H} {S i k : Nat} (hS : S < 128) (hi : i < 7) (hk : k < 7) : nl_c LS n m_X0_priceWith [vO 0 0, vI (S : Int), vI (i : Int), vI (k : Int)] h = some (dPr (h 0 0) S i k, h) := by
  obtain ⟨n, rfl, hn1⟩ := nl_suc hn
  refine cl_X0_priceWith (.ret ?_)
  rw [sg_X0_priceWith_0]
  have b1 := bo_lt hS hk
  have e1 : ((i : Int) * 7 + (k : Int)) = ((i * 7 + k : Nat) : Int) := by omega
  have e2 : nl_nz ((S ||| 2 ^ k : Nat) : Int) = (S ||| 2 ^ k : Nat) := nz_nat (by omega)
  rw [e1]
  simp (disch := omega) only [nx_of, if_pos, if_neg, if_true, if_false, true_or, or_true, Int.toNat_natCast, Option.bind_some, bp_z hk, e2]
  rfl
/-- the least price behind set S, of the hours below m -/
def dLo (D : nl_O) (S i : Nat) : Nat → Int
  | 0 => 8000
  | m + 1 => if S.testBit m = true then dLo D S i m else (if dPr D S i m < dLo D S i m then dPr D S i m else dLo D S i m)
def dLeast (D : nl_O) (S m : Nat) : Int := if bN S < m then dLo D S (bN S) m else 0
/-- prices in range -/
def dok (D : nl_O) : Prop := (∀ i k : Nat, i < 7 → k < 7 → -1000 ≤ D 0 (i * 7 + k) ∧ D 0 (i * 7 + k) ≤ 1000)
theorem bN_le (S : Nat) : bN S ≤ 7 := by unfold bN; omega
theorem lp_leastOf {LS : Int} {n : Nat} (hn : 1 ≤ n) {h : nl_H} {S i m : Nat} (hS : S < 128) (hi : i < 7) (hm : m ≤ 7) (hD : ∀ k, k < m → S.testBit k = false → -100000 ≤ dPr (h 0 0) S i k ∧ dPr (h 0 0) S i k ≤ 100000) : ∀ (d j : Nat), j + d = m → (-100000 ≤ dLo (h 0 0) S i j ∧ dLo (h 0 0) S i j ≤ 8000) → nl_Rn LS cd_X0_leastOf (nl_c LS n) ct_X0_leastOf 1 20 [some (vO 0 0), some (vI (S : Int)), some (vI (m : Int)), some (vI (i : Int)), some (vI (dLo (h 0 0) S i j)), some (vI (j : Int))] h (dLo (h 0 0) S i m, h) := by
  intro d
  induction d with
  | zero =>
    intro j hj hb
    obtain rfl : j = m := by omega
    refine .ret ?_
    rw [sg_X0_leastOf_20]
    simp (disch := omega) only [nx_of, if_pos, if_neg, if_true, if_false, true_or, or_true, Int.toNat_natCast, Option.bind_some]
  | succ d ih =>
    intro j hj hb
    have hz := bs_z (S := S) (k := j) (by omega)
    have l1 : nl_nz 1 = 1 := nx_of (by omega) (by omega)
    have t1 : (1 : Int).toNat = 1 := rfl
    have t5 : nl_nz (j : Int) = j := nz_nat (by omega)
    have t6 : nl_nz (S : Int) = S := nz_nat (by omega)
    by_cases hk : S.testBit j = true
    · have e : dLo (h 0 0) S i (j + 1) = dLo (h 0 0) S i j := by simp only [dLo]; rw [if_pos hk]
      have k9 := ih (j + 1) (by omega) (by rw [e]; exact hb)
      rw [e] at k9
      refine .go ?_ k9
      rw [sg_X0_leastOf_20, t5, t6, Int.toNat_natCast, hz, l1, t1, Int.toNat_natCast, bt_z, if_pos hk]
      simp (disch := omega) only [nx_of, if_pos, if_neg, if_true, if_false, true_or, or_true, Int.toNat_natCast, Option.bind_some]
      rfl
    · have hd := hD j (by omega) (by simpa using hk)
      have hc := sp_priceWith (LS := LS) hn (h := h) hS hi (k := j) (by omega)
      by_cases hq : dPr (h 0 0) S i j < dLo (h 0 0) S i j
      · have e : dLo (h 0 0) S i (j + 1) = dPr (h 0 0) S i j := by simp only [dLo]; rw [if_neg hk, if_pos hq]
        have k9 := ih (j + 1) (by omega) (by rw [e]; omega)
        rw [e] at k9
        refine .go ?_ k9
        rw [sg_X0_leastOf_20, t5, t6, Int.toNat_natCast, hz, l1, t1, Int.toNat_natCast, bt_z, if_neg hk]
        simp (disch := omega) only [nx_of, if_pos, if_neg, if_true, if_false, true_or, or_true, Int.toNat_natCast, Option.bind_some, hc]
        rfl
      · have e : dLo (h 0 0) S i (j + 1) = dLo (h 0 0) S i j := by simp only [dLo]; rw [if_neg hk, if_neg hq]
        have k9 := ih (j + 1) (by omega) (by rw [e]; omega)
        rw [e] at k9
        refine .go ?_ k9
        rw [sg_X0_leastOf_20, t5, t6, Int.toNat_natCast, hz, l1, t1, Int.toNat_natCast, bt_z, if_neg hk]
        simp (disch := omega) only [nx_of, if_pos, if_neg, if_true, if_false, true_or, or_true, Int.toNat_natCast, Option.bind_some, hc]
        rfl
theorem sp_leastOf {LS : Int} {n : Nat} (hn : 2 ≤ n) {h : nl_H} {S m : Nat} (hS : S < 128) (hm : m ≤ 7) (hD : ∀ k, bN S < m → k < m → S.testBit k = false → -100000 ≤ dPr (h 0 0) S (bN S) k ∧ dPr (h 0 0) S (bN S) k ≤ 100000) : nl_c LS n m_X0_leastOf [vO 0 0, vI (S : Int), vI (m : Int)] h = some (dLeast (h 0 0) S m, h) := by
  obtain ⟨n, rfl, hn1⟩ := nl_suc hn
  have hc := sp_bitCount (LS := LS) hn1 (h := h) hS
  have b1 := bN_le S
  unfold dLeast
  by_cases hq : bN S < m
  · have k9 := lp_leastOf (LS := LS) (by omega : 1 ≤ n) (h := h) (i := bN S) (m := m) hS (by omega) hm (fun k a b => hD k hq a b) m 0 (by omega) (by simp only [dLo]; omega)
    refine cl_X0_leastOf (.go ?_ (by rw [if_pos hq]; exact k9))
    rw [sg_X0_leastOf_0]
    simp (disch := omega) only [nx_of, if_pos, if_neg, if_true, if_false, true_or, or_true, Int.toNat_natCast, Option.bind_some, hc]
    rfl
  · refine cl_X0_leastOf (.ret ?_)
    rw [sg_X0_leastOf_0]
    simp (disch := omega) only [nx_of, if_pos, if_neg, if_true, if_false, true_or, or_true, Int.toNat_natCast, Option.bind_some, hc]
