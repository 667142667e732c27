/-! Numbers of the abstract machine against Int32, Int64. -/
theorem nx_toInt (x : Int) : (Int32.ofInt x).toInt = nl_nz x := by
  rw [Int32.toInt_ofInt, nx_nzd]
theorem nx_toIntL (x : Int) : (Int64.ofInt x).toInt = nl_nl x := by
  rw [Int64.toInt_ofInt, nx_nld]
theorem nx_nz (x : Int) : -2147483648 ≤ nl_nz x ∧ nl_nz x < 2147483648 := by
  rw [nx_nzd]
  have h1 := Int.le_bmod (x := x) (m := 4294967296) (by decide)
  have h2 := Int.bmod_lt (x := x) (m := 4294967296) (by decide)
  omega
theorem nx_nl (x : Int) : -9223372036854775808 ≤ nl_nl x ∧ nl_nl x < 9223372036854775808 := by
  rw [nx_nld]
  have h1 := Int.le_bmod (x := x) (m := 18446744073709551616) (by decide)
  have h2 := Int.bmod_lt (x := x) (m := 18446744073709551616) (by decide)
  omega
theorem nx_of {x : Int} (h1 : -2147483648 ≤ x) (h2 : x < 2147483648) : nl_nz x = x := by
  rw [nx_nzd]
  exact Int.bmod_eq_of_le (by omega) (by omega)
theorem nx_ofL {x : Int} (h1 : -9223372036854775808 ≤ x) (h2 : x < 9223372036854775808) : nl_nl x = x := by
  rw [nx_nld]
  exact Int.bmod_eq_of_le (by omega) (by omega)
theorem nx_id (x : Int) : Int32.ofInt (nl_nz x) = Int32.ofInt x := by
  rw [← nx_toInt, Int32.ofInt_toInt]
theorem nx_idL (x : Int) : Int64.ofInt (nl_nl x) = Int64.ofInt x := by
  rw [← nx_toIntL, Int64.ofInt_toInt]
theorem nx_lt (x y : Int) : Int32.ofInt x < Int32.ofInt y ↔ nl_nz x < nl_nz y := by
  rw [Int32.lt_iff_toInt_lt, nx_toInt, nx_toInt]
theorem nx_le (x y : Int) : Int32.ofInt x ≤ Int32.ofInt y ↔ nl_nz x ≤ nl_nz y := by
  rw [Int32.le_iff_toInt_le, nx_toInt, nx_toInt]
theorem nx_eq (x y : Int) : Int32.ofInt x = Int32.ofInt y ↔ nl_nz x = nl_nz y := by
  rw [← Int32.toInt_inj, nx_toInt, nx_toInt]
theorem nx_ltL (x y : Int) : Int64.ofInt x < Int64.ofInt y ↔ nl_nl x < nl_nl y := by
  rw [Int64.lt_iff_toInt_lt, nx_toIntL, nx_toIntL]
theorem nx_eqL (x y : Int) : Int64.ofInt x = Int64.ofInt y ↔ nl_nl x = nl_nl y := by
  rw [← Int64.toInt_inj, nx_toIntL, nx_toIntL]
theorem nx_0 : nl_nz 0 = 0 := nx_of (by decide) (by decide)
theorem nx_eq0 (x : Int) : Int32.ofInt x = 0 ↔ nl_nz x = 0 := by
  have h := nx_eq x 0
  rw [nx_0] at h
  exact h
theorem nx_lt0 (x : Int) : Int32.ofInt x < 0 ↔ nl_nz x < 0 := by
  have h := nx_lt x 0
  rw [nx_0] at h
  exact h
theorem nx_le0 (x : Int) : Int32.ofInt x ≤ 0 ↔ nl_nz x ≤ 0 := by
  have h := nx_le x 0
  rw [nx_0] at h
  exact h
theorem nx_0lt (x : Int) : 0 < Int32.ofInt x ↔ 0 < nl_nz x := by
  have h := nx_lt 0 x
  rw [nx_0] at h
  exact h
theorem nx_0le (x : Int) : 0 ≤ Int32.ofInt x ↔ 0 ≤ nl_nz x := by
  have h := nx_le 0 x
  rw [nx_0] at h
  exact h
theorem nx_cl (x : Int) : (Int32.ofInt x).toNatClampNeg = (nl_nz x).toNat := by
  show (Int32.ofInt x).toInt.toNat = _
  rw [nx_toInt]
theorem nx_in {i : Int} {n : Nat} (h : 0 ≤ nl_nz i ∧ nl_nz i < n) : ¬ (Int32.ofInt i < 0 ∨ n ≤ (Int32.ofInt i).toNatClampNeg) := by
  rw [nx_lt0, nx_cl]
  omega
theorem nx_div (x y : Int) : Int32.ofInt x / Int32.ofInt y = Int32.ofInt ((nl_nz x).tdiv (nl_nz y)) := by
  apply Int32.toInt_inj.mp
  rw [Int32.toInt_div, nx_toInt, nx_toInt, nx_toInt, nx_nzd ((nl_nz x).tdiv (nl_nz y))]
theorem nx_rem (x y : Int) : Int32.ofInt x - Int32.ofInt x / Int32.ofInt y * Int32.ofInt y = Int32.ofInt ((nl_nz x).tmod (nl_nz y)) := by
  rw [nx_div, ← Int32.ofInt_mul, ← Int32.ofInt_sub]
  rw [nx_eq]
  have e : (nl_nz x).tmod (nl_nz y) = nl_nz x - (nl_nz x).tdiv (nl_nz y) * nl_nz y := by
    rw [Int.tmod_def, Int.mul_comm]
  rw [e]
  simp only [nx_nzd]
  rw [Int.sub_bmod, Int.mul_bmod]
  conv => rhs; rw [Int.sub_bmod, Int.mul_bmod]
  simp
theorem nx_divL (x y : Int) : Int64.ofInt x / Int64.ofInt y = Int64.ofInt ((nl_nl x).tdiv (nl_nl y)) := by
  apply Int64.toInt_inj.mp
  rw [Int64.toInt_div, nx_toIntL, nx_toIntL, nx_toIntL, nx_nld ((nl_nl x).tdiv (nl_nl y))]
theorem nx_remL (x y : Int) : Int64.ofInt x - Int64.ofInt x / Int64.ofInt y * Int64.ofInt y = Int64.ofInt ((nl_nl x).tmod (nl_nl y)) := by
  rw [nx_divL, ← Int64.ofInt_mul, ← Int64.ofInt_sub]
  rw [nx_eqL]
  have e : (nl_nl x).tmod (nl_nl y) = nl_nl x - (nl_nl x).tdiv (nl_nl y) * nl_nl y := by
    rw [Int.tmod_def, Int.mul_comm]
  rw [e]
  simp only [nx_nld]
  rw [Int.sub_bmod, Int.mul_bmod]
  conv => rhs; rw [Int.sub_bmod, Int.mul_bmod]
  simp
theorem nx_nI {x : Int} (h : 0 ≤ nl_nz x) : Int32.ofInt x = nI (nl_nz x).toNat := by
  rw [← nx_id x]
  unfold nI
  rw [← Int32.ofInt_eq_ofNat, Int.toNat_of_nonneg h]
theorem nx_nIof (n : Nat) : Int32.ofInt (n : Int) = nI n := by
  unfold nI
  rw [Int32.ofInt_eq_ofNat]
theorem nx_and {x y : Int} (hx : 0 ≤ nl_nz x) (hy : 0 ≤ nl_nz y) : Int32.ofInt x &&& Int32.ofInt y = Int32.ofInt (((nl_nz x).toNat &&& (nl_nz y).toNat : Nat)) := by
  have bx := nx_nz x
  have b_y := nx_nz y
  rw [nx_nI hx, nx_nI hy, nx_nIof]
  have e : ∀ n : Nat, (nI n).toBitVec = BitVec.ofNat 32 n := fun n => rfl
  apply Int32.toBitVec_inj.mp
  rw [Int32.toBitVec_and, e, e, e]
  apply BitVec.eq_of_toNat_eq
  rw [BitVec.toNat_and, BitVec.toNat_ofNat, BitVec.toNat_ofNat, BitVec.toNat_ofNat]
  rw [Nat.mod_eq_of_lt (show (nl_nz x).toNat < 2 ^ 32 by omega), Nat.mod_eq_of_lt (show (nl_nz y).toNat < 2 ^ 32 by omega)]
  rw [Nat.mod_eq_of_lt (Nat.lt_of_le_of_lt Nat.and_le_left (show (nl_nz x).toNat < 2 ^ 32 by omega))]
theorem nx_or {x y : Int} (hx : 0 ≤ nl_nz x) (hy : 0 ≤ nl_nz y) : Int32.ofInt x ||| Int32.ofInt y = Int32.ofInt (((nl_nz x).toNat ||| (nl_nz y).toNat : Nat)) := by
  have bx := nx_nz x
  have b_y := nx_nz y
  rw [nx_nI hx, nx_nI hy, nx_nIof]
  have e : ∀ n : Nat, (nI n).toBitVec = BitVec.ofNat 32 n := fun n => rfl
  apply Int32.toBitVec_inj.mp
  rw [Int32.toBitVec_or, e, e, e]
  apply BitVec.eq_of_toNat_eq
  rw [BitVec.toNat_or, BitVec.toNat_ofNat, BitVec.toNat_ofNat, BitVec.toNat_ofNat]
  rw [Nat.mod_eq_of_lt (show (nl_nz x).toNat < 2 ^ 32 by omega), Nat.mod_eq_of_lt (show (nl_nz y).toNat < 2 ^ 32 by omega)]
  rw [Nat.mod_eq_of_lt (Nat.or_lt_two_pow (show (nl_nz x).toNat < 2 ^ 32 by omega) (show (nl_nz y).toNat < 2 ^ 32 by omega))]
theorem nx_s31 : ∀ k : Nat, k < 32 → (((nI k) &&& 31).toBitVec.smod 32).toNat = k := by decide +kernel
theorem nx_s31u : ∀ k : Nat, k < 32 → (((nI k).toUInt32 &&& Int32.toUInt32 31).toBitVec % 32).toNat = k := by decide +kernel
theorem nx_sk {y : Int} (h : 0 ≤ nl_nz y ∧ nl_nz y < 32) : ((Int32.ofInt y &&& 31).toBitVec.smod 32).toNat = (nl_nz y).toNat := by
  rw [nx_nI h.1]
  exact nx_s31 _ (by omega)
theorem nx_shl {x y : Int} (h : 0 ≤ nl_nz y ∧ nl_nz y < 32) : Int32.ofInt x <<< (Int32.ofInt y &&& 31) = Int32.ofInt (x * 2 ^ (nl_nz y).toNat) := by
  have h1 := pk_shl (Int32.ofInt x) (Int32.ofInt y &&& 31) _ (nx_sk h)
  apply Int32.toBitVec_inj.mp
  apply BitVec.eq_of_toNat_eq
  rw [h1]
  show (BitVec.ofInt 32 x).toNat * _ % _ = (BitVec.ofInt 32 _).toNat
  rw [BitVec.toNat_ofInt, BitVec.toNat_ofInt]
  generalize hk : (nl_nz y).toNat = k
  have e1 : ((x % ((2 ^ 32 : Nat) : Int)).toNat : Int) = x % 4294967296 := Int.toNat_of_nonneg (Int.emod_nonneg _ (by decide))
  have e2 : (((x * 2 ^ k) % ((2 ^ 32 : Nat) : Int)).toNat : Int) = (x * 2 ^ k) % 4294967296 := Int.toNat_of_nonneg (Int.emod_nonneg _ (by decide))
  apply Int.ofNat_inj.mp
  rw [e2]
  generalize (x % ((2 ^ 32 : Nat) : Int)).toNat = A at e1 ⊢
  show ((A * 2 ^ k % 4294967296 : Nat) : Int) = _
  rw [Int.natCast_emod, Int.natCast_mul, Int.natCast_pow, e1]
  show (x % 4294967296 * 2 ^ k) % 4294967296 = (x * 2 ^ k) % 4294967296
  rw [Int.mul_emod, Int.emod_emod, ← Int.mul_emod]
theorem nx_shr {x y : Int} (h : 0 ≤ nl_nz y ∧ nl_nz y < 32) : Int32.ofInt x >>> (Int32.ofInt y &&& 31) = Int32.ofInt (nl_nz x / 2 ^ (nl_nz y).toNat) := by
  have h1 := pk_shr (Int32.ofInt x) (Int32.ofInt y &&& 31) _ (nx_sk h)
  apply Int32.toInt_inj.mp
  rw [h1, nx_toInt, nx_toInt, Int.shiftRight_eq_div_pow]
  have b := nx_nz x
  generalize hk : (nl_nz y).toNat = k
  have p : (0 : Int) < 2 ^ k := Int.pow_pos (by decide)
  have p1 : (1 : Int) ≤ 2 ^ k := p
  have hd : nl_nz x / 2 ^ k * 2 ^ k ≤ nl_nz x := Int.ediv_mul_le _ (by omega)
  have q1 : 0 ≤ nl_nz x → 0 ≤ nl_nz x / 2 ^ k ∧ nl_nz x / 2 ^ k ≤ nl_nz x := fun q => ⟨Int.ediv_nonneg q (by omega), Int.ediv_le_self _ q⟩
  have q2 : nl_nz x ≤ 0 → nl_nz x / 2 ^ k ≤ 0 ∧ nl_nz x ≤ nl_nz x / 2 ^ k := fun q => by
    have a1 : nl_nz x / 2 ^ k ≤ 0 := Int.ediv_le_of_le_mul p (by omega)
    refine ⟨a1, (Int.le_ediv_iff_mul_le p).mpr ?_⟩
    have := Int.mul_le_mul_of_nonneg_left p1 (show 0 ≤ -(nl_nz x) by omega)
    rw [Int.neg_mul, Int.neg_mul] at this
    omega
  rw [nx_of (x := nl_nz x / 2 ^ k)]
  · rfl
  · rcases Int.le_total 0 (nl_nz x) with q | q
    · have := q1 q; omega
    · have := q2 q; omega
  · rcases Int.le_total 0 (nl_nz x) with q | q
    · have := q1 q; omega
    · have := q2 q; omega
theorem nx_ushr {x y : Int} (h : 0 ≤ nl_nz y ∧ nl_nz y < 32) (hx : 0 ≤ nl_nz x) : ((Int32.ofInt x).toUInt32 >>> ((Int32.ofInt y).toUInt32 &&& Int32.toUInt32 31)).toInt32 = Int32.ofInt (nl_nz x / 2 ^ (nl_nz y).toNat) := by
  have b := nx_nz x
  rw [nx_nI hx, nx_nI h.1]
  rw [pk_ushrN (by omega) _ _ (nx_s31u _ (by omega)), ← nx_nIof]
  congr 1
  push_cast
  rw [Int.toNat_of_nonneg hx]
theorem nx_cmp (x y : Int) : lg_cmp (Int64.ofInt x) (Int64.ofInt y) = Int32.ofInt (nl_cmp (nl_nl x) (nl_nl y)) := by
  unfold lg_cmp nl_cmp
  by_cases h1 : nl_nl y < nl_nl x
  · rw [if_pos ((nx_ltL y x).mpr h1), if_pos h1]; rfl
  · rw [if_neg (fun q => h1 ((nx_ltL y x).mp q)), if_neg h1]
    by_cases h2 : nl_nl x = nl_nl y
    · rw [if_pos ((nx_eqL x y).mpr h2), if_pos h2]; rfl
    · rw [if_neg (fun q => h2 ((nx_eqL x y).mp q)), if_neg h2]; rfl
theorem nx_i2l (x : Int) : (Int32.ofInt x).toInt64 = Int64.ofInt (nl_nz x) := by
  apply Int64.toInt_inj.mp
  rw [Int32.toInt_toInt64, nx_toInt, nx_toIntL]
  have b := nx_nz x
  rw [nx_ofL (by omega) (by omega)]
theorem nx_l2i (x : Int) : (Int64.ofInt x).toInt32 = Int32.ofInt x := Int64.toInt32_ofInt
theorem nx_i8 {n : Int} (h1 : -128 ≤ n) (h2 : n < 128) : (Int8.ofInt n).toInt32 = Int32.ofInt n := by
  apply Int32.toInt_inj.mp
  rw [Int8.toInt_toInt32, Int8.toInt_ofInt_of_le (by omega) (by omega), nx_toInt, nx_of (by omega) (by omega)]
theorem nx_i16 {n : Int} (h1 : -32768 ≤ n) (h2 : n < 32768) : (Int16.ofInt n).toInt32 = Int32.ofInt n := by
  apply Int32.toInt_inj.mp
  rw [Int16.toInt_toInt32, Int16.toInt_ofInt_of_le (by omega) (by omega), nx_toInt, nx_of (by omega) (by omega)]
theorem nx_eq0L (x : Int) : Int64.ofInt x = 0 ↔ nl_nl x = 0 := by
  have h := nx_eqL x 0
  rw [show nl_nl 0 = 0 from nx_ofL (by decide) (by decide)] at h
  exact h
