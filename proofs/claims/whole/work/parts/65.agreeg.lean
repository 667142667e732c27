/-! Both answer alike: lamps. -/
theorem bp7_z {k : Nat} (hk : k ≤ 7) : nl_nz (1 * 2 ^ k) = ((2 ^ k : Nat) : Int) := by
  have h1 : 2 ^ k ≤ 2 ^ 7 := Nat.pow_le_pow_right (n := 2) (by omega) hk
  have e : (1 * 2 ^ k : Int) = ((2 ^ k : Nat) : Int) := by rw [Int.one_mul, Int.natCast_pow]; rfl
  rw [e]
  exact nz_nat (by omega)
theorem sq_has {LS : Int} {n : Nat} (hn : 1 ≤ n) {h : nl_H} {S k : Nat} (hS : S < 128) (hk : k < 7) : nl_c LS n m_X6_has [vI (S : Int), vI (k : Int)] h = some (if S.testBit k = true then 1 else 0, h) := by
  obtain ⟨n, rfl, hn1⟩ := nl_suc hn
  have z1 : (1 : Int).toNat = 1 := rfl
  have p9 : (0 : Int) ≤ ((S / 2 ^ k : Nat) : Int) := Int.natCast_nonneg _
  refine cl_X6_has (.ret ?_)
  rw [sg_X6_has_0]
  cases q : S.testBit k with
  | true =>
    have e : ((S / 2 ^ k &&& 1 : Nat) : Int) = 1 := by rw [bt_z, if_pos q]
    rw [if_pos rfl]
    simp (disch := omega) only [↓reduceIte, i_le, i_nle, i_lt, i_nlt, i_eq, i_ne, and_self, and_true, true_and, and_false, false_and, or_true, true_or, or_false, false_or, nx_of, Int.toNat_natCast, Option.bind_some, rm_0, rm_1, rm_2, rm_3, rm_4, rm_5, rm_6, rm_7, rm_8, rm_9, rm_10, rm_11, rm_12, rm_13, rm_14, rm_15, rm_16, rm_17, rm_18, rm_19, rm_20, rm_21, rm_22, rm_23, rm_24, rm_25, rm_26, rm_27, rm_28, rm_29, um_0, um_1, um_2, um_3, um_4, um_5, um_6, um_7, um_8, um_9, um_10, um_11, um_12, um_13, um_14, um_15, um_16, um_17, um_18, um_19, um_20, um_21, um_22, um_23, um_24, um_25, um_26, um_27, um_28, um_29, rm_k, um_k, vu_at, vu_ne, bs_z, z1, e]
  | false =>
    have e : ((S / 2 ^ k &&& 1 : Nat) : Int) = 0 := by rw [bt_z, if_neg (by rw [q]; exact Bool.false_ne_true)]
    rw [if_neg Bool.false_ne_true]
    simp (disch := omega) only [↓reduceIte, i_le, i_nle, i_lt, i_nlt, i_eq, i_ne, and_self, and_true, true_and, and_false, false_and, or_true, true_or, or_false, false_or, nx_of, Int.toNat_natCast, Option.bind_some, rm_0, rm_1, rm_2, rm_3, rm_4, rm_5, rm_6, rm_7, rm_8, rm_9, rm_10, rm_11, rm_12, rm_13, rm_14, rm_15, rm_16, rm_17, rm_18, rm_19, rm_20, rm_21, rm_22, rm_23, rm_24, rm_25, rm_26, rm_27, rm_28, rm_29, um_0, um_1, um_2, um_3, um_4, um_5, um_6, um_7, um_8, um_9, um_10, um_11, um_12, um_13, um_14, um_15, um_16, um_17, um_18, um_19, um_20, um_21, um_22, um_23, um_24, um_25, um_26, um_27, um_28, um_29, rm_k, um_k, vu_at, vu_ne, bs_z, z1, e]
def bP (S : Nat) : Nat → Nat
  | 0 => 0
  | k + 1 => bP S k + S / 2 ^ k % 2
theorem bP_le (S : Nat) : ∀ k, bP S k ≤ k := by
  intro k
  induction k with
  | zero => simp only [bP]; omega
  | succ k ih => simp only [bP]; omega
theorem bP_7 (S : Nat) : bP S 7 = bN S := by
  unfold bN
  simp only [bP, Nat.pow_zero, Nat.div_one, Nat.zero_add]
theorem lp_bits {LS : Int} {den : nl_D} {h : nl_H} {S : Nat} (hS : S < 128) : ∀ (d k : Nat), k + d = 7 → nl_Rn LS cd_X6_bits den ct_X6_bits 1 4 [some (vI (S : Int)), some (vI ((bP S k : Nat) : Int)), some (vI (k : Int))] h (((bN S : Nat) : Int), h) := by
  intro d
  induction d with
  | zero =>
    intro k hk
    obtain rfl : k = 7 := by omega
    refine .ret ?_
    rw [sg_X6_bits_4, bP_7]
    simp (disch := omega) only [↓reduceIte, i_le, i_nle, i_lt, i_nlt, i_eq, i_ne, and_self, and_true, true_and, and_false, false_and, or_true, true_or, or_false, false_or, nx_of, Int.toNat_natCast, Option.bind_some, rm_0, rm_1, rm_2, rm_3, rm_4, rm_5, rm_6, rm_7, rm_8, rm_9, rm_10, rm_11, rm_12, rm_13, rm_14, rm_15, rm_16, rm_17, rm_18, rm_19, rm_20, rm_21, rm_22, rm_23, rm_24, rm_25, rm_26, rm_27, rm_28, rm_29, um_0, um_1, um_2, um_3, um_4, um_5, um_6, um_7, um_8, um_9, um_10, um_11, um_12, um_13, um_14, um_15, um_16, um_17, um_18, um_19, um_20, um_21, um_22, um_23, um_24, um_25, um_26, um_27, um_28, um_29, rm_k, um_k, vu_at, vu_ne]
  | succ d ih =>
    intro k hk
    have z1 : (1 : Int).toNat = 1 := rfl
    have p9 : (0 : Int) ≤ ((S / 2 ^ k : Nat) : Int) := Int.natCast_nonneg _
    have e : ((bP S k : Nat) : Int) + ((S / 2 ^ k &&& 1 : Nat) : Int) = ((bP S (k + 1) : Nat) : Int) := by
      rw [Nat.and_one_is_mod]
      simp only [bP]
      omega
    refine .go ?_ (ih (k + 1) (by omega))
    rw [sg_X6_bits_4]
    simp (disch := omega) only [↓reduceIte, i_le, i_nle, i_lt, i_nlt, i_eq, i_ne, and_self, and_true, true_and, and_false, false_and, or_true, true_or, or_false, false_or, nx_of, Int.toNat_natCast, Option.bind_some, rm_0, rm_1, rm_2, rm_3, rm_4, rm_5, rm_6, rm_7, rm_8, rm_9, rm_10, rm_11, rm_12, rm_13, rm_14, rm_15, rm_16, rm_17, rm_18, rm_19, rm_20, rm_21, rm_22, rm_23, rm_24, rm_25, rm_26, rm_27, rm_28, rm_29, um_0, um_1, um_2, um_3, um_4, um_5, um_6, um_7, um_8, um_9, um_10, um_11, um_12, um_13, um_14, um_15, um_16, um_17, um_18, um_19, um_20, um_21, um_22, um_23, um_24, um_25, um_26, um_27, um_28, um_29, rm_k, um_k, vu_at, vu_ne, bs_z, z1, e]
    rfl
theorem sq_bits {LS : Int} {n : Nat} (hn : 1 ≤ n) {h : nl_H} {S : Nat} (hS : S < 128) : nl_c LS n m_X6_bits [vI (S : Int)] h = some (((bN S : Nat) : Int), h) := by
  obtain ⟨n, rfl, hn1⟩ := nl_suc hn
  refine cl_X6_bits (.go ?_ (lp_bits hS 7 0 (by omega)))
  rw [sg_X6_bits_0]
  rfl
/-- the houses of a set rest, of e from i on -/
def mRs (S : Nat) : Nat → Nat → nl_O → nl_O
  | 0, _, V => V
  | e + 1, i, V => mRs S e (i + 1) (if S.testBit i = true then vRest V i else V)
theorem vRest_0 {V : nl_O} {i k j : Nat} (hk : k ≠ 7) : vRest V i k j = V k j := by unfold vRest; rw [vu_k hk]
theorem mRs_o {S k j : Nat} (hk : k ≠ 7) : ∀ (e i : Nat) (V : nl_O), mRs S e i V k j = V k j := by
  intro e
  induction e with
  | zero => intro i V; rfl
  | succ e ih =>
    intro i V
    simp only [mRs]
    rw [ih]
    split
    · exact vRest_0 hk
    · rfl
theorem mRs_ok {S : Nat} : ∀ (e i : Nat) {N : Int} {V : nl_O}, vok N V → (i : Int) + e = V 0 0 → vok N (mRs S e i V) := by
  intro e
  induction e with
  | zero => intro i N V hV _; exact hV
  | succ e ih =>
    intro i N V hV hi
    simp only [mRs]
    refine ih (i + 1) ?_ ?_
    · split
      · exact vRest_ok hV (by omega)
      · exact hV
    · split
      · rw [vRest_0 (by omega)]; omega
      · omega
theorem mk_rs {S : Nat} {V : nl_O} : ∀ (e i : Nat) {W : nl_O}, mk W V → mk (mRs S e i W) V := by
  intro e
  induction e with
  | zero => intro i W h; exact h
  | succ e ih =>
    intro i W h
    simp only [mRs]
    refine ih (i + 1) ?_
    split
    · exact mk_rest h i
    · exact h
theorem he_rest {i : Nat} {V W : nl_O} (h : he i V W) : he i (vRest V i) (vRest W i) := by
  refine ⟨?_, fun k hk => ?_, ?_, ?_, ?_, ?_, fun k hk => ?_⟩
  · rw [vRest_0 (by omega), vRest_0 (by omega)]; exact h.1
  · rw [vRest_0 (by omega)] at hk
    rw [vRest_0 (by omega), vRest_0 (by omega)]; exact h.2.1 k hk
  · rw [vRest_0 (by omega), vRest_0 (by omega)]; exact h.2.2.1
  · rw [vRest_0 (by omega), vRest_0 (by omega)]; exact h.2.2.2.1
  · unfold vRest; rw [vu_at, vu_at, h.2.2.2.2.1]
  · rw [vRest_0 (by omega), vRest_0 (by omega)]; exact h.2.2.2.2.2.1
  · rw [vRest_0 (by omega)] at hk
    rw [vRest_0 (by omega), vRest_0 (by omega)]; exact h.2.2.2.2.2.2 k hk
theorem he_resto {i j : Nat} {V : nl_O} (q : j ≠ i) : he i (vRest V j) V := by
  refine ⟨vRest_0 (by omega), fun k hk => vRest_0 (by omega), vRest_0 (by omega), vRest_0 (by omega), ?_, vRest_0 (by omega), fun k hk => vRest_0 (by omega)⟩
  unfold vRest
  rw [vu_ne (by omega)]
theorem he_veq {i : Nat} {V W : nl_O} (h : veq V W) (hi : (i : Int) < V 0 0) : he i V W :=
  ⟨h.1.1, fun k hk => h.2.1 3 k (by omega) (by omega) hk, h.2.1 4 i (by omega) (by omega) hi, h.2.1 5 i (by omega) (by omega) hi, h.2.1 7 i (by omega) (by omega) hi, h.2.1 8 i (by omega) (by omega) hi, fun k hk => h.2.2 i k hi hk⟩
theorem he_rs {S i : Nat} : ∀ (e j : Nat) {V : nl_O}, he i (mRs S e j V) (if (j ≤ i ∧ i < j + e) ∧ S.testBit i = true then vRest V i else V) := by
  intro e
  induction e with
  | zero =>
    intro j V
    rw [if_neg (by omega)]
    exact he_refl i V
  | succ e ih =>
    intro j V
    simp only [mRs]
    generalize hU : (if S.testBit j = true then vRest V j else V) = U
    have k9 := ih (j + 1) (V := U)
    by_cases q : j = i
    · subst q
      rw [if_neg (by omega)] at k9
      by_cases p : S.testBit j = true
      · rw [if_pos p] at hU
        rw [if_pos ⟨by omega, p⟩, hU]
        exact k9
      · rw [if_neg p] at hU
        rw [if_neg (fun z => p z.2), hU]
        exact k9
    · have o : he i U V := by
        rw [← hU]
        split
        · exact he_resto q
        · exact he_refl i V
      by_cases p : (j ≤ i ∧ i < j + (e + 1)) ∧ S.testBit i = true
      · rw [if_pos ⟨by omega, p.2⟩] at k9
        rw [if_pos p]
        exact he_trans k9 (he_rest o)
      · rw [if_neg (fun z => p ⟨by omega, z.2⟩)] at k9
        rw [if_neg p]
        exact he_trans k9 o
/-- a row without a gap -/
theorem vRow_g : ∀ (d j : Nat) {N : Int} {V : nl_O}, vok N V → (j : Int) + d = V 0 0 → ((vRow d j V).2 = 0 ↔ ∀ i, j ≤ i → i < j + d → vKeeps V i = 1) := by
  intro d
  induction d with
  | zero =>
    intro j N V hV hj
    exact ⟨fun _ i h1 h2 => by omega, fun _ => rfl⟩
  | succ d ih =>
    intro j N V hV hj
    have z0 : vSee V j 0 0 = V 0 0 := see_lo (by omega)
    have hS := vok_see hV (i := j) (by omega)
    have k9 := ih (j + 1) hS (by omega)
    have b := vRow_ok d (j + 1) hS (by omega)
    have kj := vKeeps_in V j
    simp only [vRow]
    constructor
    · intro q i h1 h2
      by_cases p : i = j
      · subst p; omega
      · have := k9.mp (by omega) i (by omega) (by omega)
        rw [he_keeps hS (he_seeo hV (i := i) (j := j) (by omega) (by omega)) (by omega)] at this
        exact this
    · intro q
      have q1 := q j (by omega) (by omega)
      have q2 := k9.mpr fun i h1 h2 => by
        rw [he_keeps hS (he_seeo hV (i := i) (j := j) (by omega) (by omega)) (by omega)]
        exact q i (by omega) (by omega)
      omega
/-- nights without a gap -/
theorem vNights_g : ∀ (m : Nat) {N : Int} {V : nl_O}, vok N V → ((vNights m V).2 = 0 ↔ ∀ i : Nat, (i : Int) < V 0 0 → vMiss m 1 V i = -1) := by
  intro m
  induction m with
  | zero =>
    intro N V hV
    exact ⟨fun _ i h1 => rfl, fun _ => rfl⟩
  | succ m ih =>
    intro N V hV
    have e := vN_eq hV
    have p := vPass_ok (d := 1) hV
    have s := (vPass_s m V).2
    have k9 := ih p.1
    have r := vRow_g (vN V) 0 hV (by omega)
    have b1 := vNights_ok m (vNight_ok hV).1
    have b2 := vNight_ok hV
    have e2 : (vNight V).2 = (vRow (vN V) 0 V).2 := rfl
    rw [s] at k9
    simp only [vNights]
    constructor
    · intro q i hi
      simp only [vMiss]
      have q1 := r.mp (by omega) i (by omega) (by omega)
      have q2 := k9.mp (by omega) i (by rw [p.2]; exact hi)
      rw [if_neg (by omega), miss_pass hV hi]
      exact vMiss_t m 1 (1 + 1) _ _ q2
    · intro q
      have q1 := r.mpr fun i _ hi => by
        have := q i (by omega)
        simp only [vMiss] at this
        rcases vKeeps_in V i with z | z
        · rw [if_pos z] at this; omega
        · exact z
      have q2 := k9.mpr fun i hi => by
        rw [p.2] at hi
        have := q i hi
        simp only [vMiss] at this
        rcases vKeeps_in V i with z | z
        · rw [if_pos z] at this; omega
        · rw [if_neg (by omega), miss_pass hV hi] at this
          exact vMiss_t m (1 + 1) 1 _ _ this
      omega
/-- no gap comes, if the houses of a set rest -/
def lOk (V : nl_O) (x S : Nat) : Prop := ∀ i : Nat, (i : Int) < V 0 0 → vMiss x 1 (if S.testBit i = true then vRest V i else V) i = -1
theorem lOk_of {N : Int} {V W : nl_O} {x S : Nat} (hV : vok N V) (hW : vok N W) (h : veq W V) : (vNights x (mRs S (vN W) 0 W)).2 = 0 ↔ lOk V x S := by
  have e := vN_eq hW
  have hR := mRs_ok (S := S) (vN W) 0 hW (by omega)
  have z0 : mRs S (vN W) 0 W 0 0 = V 0 0 := by rw [mRs_o (by omega)]; exact h.1.1
  rw [vNights_g x hR]
  have key : ∀ i : Nat, (i : Int) < V 0 0 → vMiss x 1 (mRs S (vN W) 0 W) i = vMiss x 1 (if S.testBit i = true then vRest V i else V) i := by
    intro i hi
    have hi2 : (i : Int) < W 0 0 := by rw [h.1.1]; exact hi
    have k9 := he_rs (S := S) (i := i) (vN W) 0 (V := W)
    have hv := he_veq h hi2
    by_cases p : S.testBit i = true
    · rw [if_pos ⟨by omega, p⟩] at k9
      rw [if_pos p]
      exact he_miss x 1 hR (he_trans k9 (he_rest hv)) (by rw [z0]; exact hi)
    · rw [if_neg (fun z => p z.2)] at k9
      rw [if_neg p]
      exact he_miss x 1 hR (he_trans k9 hv) (by rw [z0]; exact hi)
  constructor
  · intro q i hi
    rw [← key i hi]
    exact q i (by rw [z0]; exact hi)
  · intro q i hi
    rw [z0] at hi
    rw [key i hi]
    exact q i hi
