/-! Deal: the weighing whole, the table, dealing out, choose. -/
theorem lp_weigh {LS : Int} {n : Nat} (hn : 3 ≤ n) {v : Nat} {N : Int} {V : nl_O} (hN : N ≤ 100000) (hV : vok N V) : ∀ (e i : Nat) (h : nl_H) (w3 w4 : Option nl_V), h 4 v = V → (i : Int) + e = V 0 0 → nl_Rn LS cd_X0_weigh (nl_c LS n) ct_X0_weigh 0 2 [some (vO 0 0), some (vO 4 v), some (vI (i : Int)), w3, w4] h (0, so h 0 0 (dWW (h 0 0) V e i)) := by
  have hn9 := hV.1
  intro e
  induction e with
  | zero =>
    intro i h w3 w4 hv hi
    refine .ret ?_
    rw [sg_X0_weigh_2, hv]
    simp (disch := omega) only [nx_of, if_pos, if_neg, if_true, if_false, true_or, or_true, Int.toNat_natCast, Option.bind_some, dWW, so_self]
  | succ e ih =>
    intro i h w3 w4 hv hi
    have k8 : (vN V : Int) = V 0 0 := by unfold vN; omega
    have k9 := lp_weighK (LS := LS) hn (v := v) (r := (0, so h 0 0 (dWW (h 0 0) V (e + 1) i))) hN hV (i := i) (by omega) (vN V) 0 (so h 0 0 (vu (h 0 0) 3 i 0)) w4 (by rw [so_ne (by omega)]; exact hv) (by rw [so_at, vu_at]; rfl) (by omega) (by
      intro w'
      have k7 := ih (i + 1) (so h 0 0 (dW (vu (h 0 0) 3 i 0) V i (vN V) 0)) (some (vI ((0 + vN V : Nat) : Int))) w' (by rw [so_ne (by omega)]; exact hv) (by omega)
      rw [so_at, so_so] at k7 ⊢
      exact k7)
    refine .go ?_ k9
    rw [sg_X0_weigh_2, hv]
    simp (disch := omega) only [nx_of, if_pos, if_neg, if_true, if_false, true_or, or_true, Int.toNat_natCast, Option.bind_some, up_so]
    rfl
theorem sp_weigh {LS : Int} {n : Nat} (hn : 4 ≤ n) {h : nl_H} {v : Nat} {N : Int} (hN : N ≤ 100000) (hV : vok N (h 4 v)) : nl_c LS n m_X0_weigh [vO 0 0, vO 4 v] h = some (0, so h 0 0 (dWW (h 0 0) (h 4 v) (vN (h 4 v)) 0)) := by
  obtain ⟨n, rfl, hn1⟩ := nl_suc hn
  have hn9 := hV.1
  have k8 : (vN (h 4 v) : Int) = h 4 v 0 0 := by unfold vN; omega
  refine cl_X0_weigh (.go ?_ (lp_weigh hn1 hN hV (vN (h 4 v)) 0 h none none rfl (by omega)))
  rw [sg_X0_weigh_0]
  rfl
theorem dW_o {V : nl_O} {i : Nat} : ∀ (d k : Nat) (D : nl_O) (f j : Nat), (f ≠ 0 ∧ f ≠ 3) ∨ (f = 3 ∧ j ≠ i) ∨ (f = 0 ∧ (j < i * 7 + k ∨ i * 7 + k + d ≤ j)) → dW D V i d k f j = D f j := by
  intro d
  induction d with
  | zero => intro k D f j _; rfl
  | succ d ih =>
    intro k D f j hq
    simp only [dW]
    rw [ih (k + 1) _ f j (by omega), vu_ne (by omega), vu_ne (by omega)]
theorem dW_p {V : nl_O} {i : Nat} : ∀ (d k : Nat) (D : nl_O) (j : Nat), k ≤ j → j < k + d → dW D V i d k 0 (i * 7 + j) = dP V i j := by
  intro d
  induction d with
  | zero => intro k D j _ _; omega
  | succ d ih =>
    intro k D j h1 h2
    simp only [dW]
    by_cases q : k = j
    · subst q
      rw [dW_o _ _ _ _ _ (by omega), vu_ne (by omega), vu_at]
    · exact ih (k + 1) _ j (by omega) (by omega)
theorem dW_b {V : nl_O} {i : Nat} : ∀ (d k : Nat) (D : nl_O), D 3 i = ((dBits V i k : Nat) : Int) → dW D V i d k 3 i = ((dBits V i (k + d) : Nat) : Int) := by
  intro d
  induction d with
  | zero => intro k D h; exact h
  | succ d ih =>
    intro k D h
    simp only [dW]
    have e : k + 1 + d = k + (d + 1) := by omega
    rw [ih (k + 1) _ vu_at, e]
theorem dWW_o {V : nl_O} : ∀ (e i : Nat) (D : nl_O) (f j : Nat), (f ≠ 0 ∧ f ≠ 3) ∨ (f = 3 ∧ j < i) ∨ (f = 0 ∧ j < i * 7) → dWW D V e i f j = D f j := by
  intro e
  induction e with
  | zero => intro i D f j _; rfl
  | succ e ih =>
    intro i D f j hq
    simp only [dWW]
    rw [ih (i + 1) _ f j (by omega), dW_o _ _ _ _ _ (by omega), vu_ne (by omega)]
theorem dWW_p {V : nl_O} (hV : vN V ≤ 7) : ∀ (e i : Nat) (D : nl_O) (a b : Nat), i ≤ a → a < i + e → b < vN V → dWW D V e i 0 (a * 7 + b) = dP V a b := by
  intro e
  induction e with
  | zero => intro i D a b _ _; omega
  | succ e ih =>
    intro i D a b h1 h2 h3
    simp only [dWW]
    by_cases q : i = a
    · subst q
      rw [dWW_o _ _ _ _ _ (by omega), dW_p _ _ _ _ (by omega) (by omega)]
    · exact ih (i + 1) _ a b (by omega) (by omega) h3
theorem dWW_b {V : nl_O} : ∀ (e i : Nat) (D : nl_O) (a : Nat), i ≤ a → a < i + e → dWW D V e i 3 a = ((dBits V a (vN V) : Nat) : Int) := by
  intro e
  induction e with
  | zero => intro i D a _ _; omega
  | succ e ih =>
    intro i D a h1 h2
    simp only [dWW]
    by_cases q : i = a
    · subst q
      rw [dWW_o _ _ _ _ _ (by omega), dW_b _ _ _ (by rw [vu_at]; rfl), Nat.zero_add]
    · exact ih (i + 1) _ a (by omega) (by omega)
/-- the table stands: every set of the first m holds its least -/
def dT (D : nl_O) (m : Nat) : Prop := ∀ S, S < 2 ^ m → D 1 S = dLeast D S m
/-- the least only reads the prices and the table above -/
theorem dLo_cong {D E : nl_O} {S i : Nat} (hp : ∀ j, D 0 j = E 0 j) : ∀ m, (∀ k, k < m → S.testBit k = false → D 1 (S ||| 2 ^ k) = E 1 (S ||| 2 ^ k)) → dLo D S i m = dLo E S i m := by
  intro m
  induction m with
  | zero => intro _; rfl
  | succ m ih =>
    intro h
    have e := ih fun k a b => h k (by omega) b
    simp only [dLo]
    rw [e]
    by_cases q : S.testBit m = true
    · rw [if_pos q, if_pos q]
    · have e2 : dPr D S i m = dPr E S i m := by
        unfold dPr
        rw [hp, h m (by omega) (by simpa using q)]
      rw [if_neg q, if_neg q, e2]
theorem dLeast_cong {D E : nl_O} {S m : Nat} (hp : ∀ j, D 0 j = E 0 j) (h : ∀ k, k < m → S.testBit k = false → D 1 (S ||| 2 ^ k) = E 1 (S ||| 2 ^ k)) : dLeast D S m = dLeast E S m := by
  unfold dLeast
  rw [dLo_cong hp m h]
theorem bo_gt {S k : Nat} (h : S.testBit k = false) : S < S ||| 2 ^ k := by
  have h1 : S ≤ S ||| 2 ^ k := Nat.left_le_or
  have h2 : S ≠ S ||| 2 ^ k := by
    intro q
    have : S.testBit k = (S ||| 2 ^ k).testBit k := by rw [← q]
    rw [Nat.testBit_or, Nat.testBit_two_pow_self, h] at this
    cases this
  omega
theorem dTab_T {m : Nat} : ∀ (S : Nat) (D : nl_O), (∀ T, S ≤ T → T < 2 ^ m → D 1 T = dLeast D T m) → dT (dTab D m S) m := by
  intro S
  induction S with
  | zero => intro D h T hT; exact h T (by omega) hT
  | succ S ih =>
    intro D h
    simp only [dTab]
    refine ih _ ?_
    intro T h1 h2
    have e : dLeast (vu D 1 S (dLeast D S m)) T m = dLeast D T m := by
      refine dLeast_cong (fun j => vu_k (by omega)) ?_
      intro k _ b
      have := bo_gt b
      exact vu_ne (by omega)
    rw [e]
    by_cases q : T = S
    · subst q; exact vu_at
    · rw [vu_ne (by omega)]
      exact h T (by omega) h2
theorem bo_lt2 {S k m : Nat} (hS : S < 2 ^ m) (hk : k < m) : S ||| 2 ^ k < 2 ^ m :=
  Nat.or_lt_two_pow hS (Nat.pow_lt_pow_right (by omega) hk)
theorem bm_le {m : Nat} (hm : m ≤ 7) : 2 ^ m ≤ 128 := Nat.pow_le_pow_right (n := 2) (by omega) hm
/-- what choose needs of the numbers it works with, behind S -/
def dR (D : nl_O) (m S : Nat) : Prop :=
  (∀ i k : Nat, i < m → k < m → -40 ≤ D 0 (i * 7 + k) ∧ D 0 (i * 7 + k) ≤ 1000) ∧
  (∀ T, S ≤ T → T < 2 ^ m → -40 * (128 - (T : Int)) ≤ D 1 T ∧ D 1 T ≤ 8000) ∧
  (∀ i, i < m → ∃ X : Nat, X < 128 ∧ D 3 i = X)
theorem dR_pr {D : nl_O} {m S R i k : Nat} (hm : m ≤ 7) (hD : dR D m R) (hR : R ≤ S + 1) (hS : S < 2 ^ m) (hi : i < m) (hk : k < m) (hb : S.testBit k = false) : -40 * (128 - (S : Int)) ≤ dPr D S i k ∧ dPr D S i k ≤ 9000 := by
  have a1 := hD.1 i k hi hk
  have a2 := bo_gt hb
  have a3 := bo_lt2 hS hk
  have a4 := hD.2.1 (S ||| 2 ^ k) (by omega) a3
  unfold dPr
  omega
theorem dLo_in {D : nl_O} {m S R i : Nat} (hm : m ≤ 7) (hD : dR D m R) (hR : R ≤ S + 1) (hS : S < 2 ^ m) (hi : i < m) : ∀ j, j ≤ m → -40 * (128 - (S : Int)) ≤ dLo D S i j ∧ dLo D S i j ≤ 8000 := by
  have := bm_le hm
  intro j
  induction j with
  | zero => intro _; simp only [dLo]; omega
  | succ j ih =>
    intro hj
    have h1 := ih (by omega)
    simp only [dLo]
    by_cases q : S.testBit j = true
    · rw [if_pos q]; exact h1
    · have h2 := dR_pr hm hD hR hS hi (k := j) (by omega) (by simpa using q)
      rw [if_neg q]
      split <;> omega
theorem lp_choose {LS : Int} {n : Nat} (hn : 2 ≤ n) {v m : Nat} {r : Int × nl_H} (hm : m ≤ 7) : ∀ (S : Nat) (x : Int) (h : nl_H), x + 1 = S → S ≤ 2 ^ m → dR (h 0 0) m S → (dR (dTab (h 0 0) m S) m 0 → nl_Rn LS cd_X0_choose (nl_c LS n) ct_X0_choose 0 16 [some (vO 0 0), some (vO 4 v), some (vI (m : Int)), some (vI (-1))] (so h 0 0 (dTab (h 0 0) m S)) r) → nl_Rn LS cd_X0_choose (nl_c LS n) ct_X0_choose 0 16 [some (vO 0 0), some (vO 4 v), some (vI (m : Int)), some (vI x)] h r := by
  have hm2 := bm_le hm
  intro S
  induction S with
  | zero =>
    intro x h hx hS hD hr
    obtain rfl : x = -1 := by omega
    have := hr hD
    simp only [dTab, so_self] at this
    exact this
  | succ S ih =>
    intro x h hx hS hD hr
    obtain rfl : x = (S : Int) := by omega
    have c1 := sp_leastOf (LS := LS) hn (h := h) (S := S) (m := m) (by omega) hm (by
      intro k a b c
      have := dR_pr hm hD (by omega) (by omega) a b c
      omega)
    have b1 : -40 * (128 - (S : Int)) ≤ dLeast (h 0 0) S m ∧ dLeast (h 0 0) S m ≤ 8000 := by
      unfold dLeast
      split
      · rename_i q
        exact dLo_in hm hD (by omega) (by omega) q m (by omega)
      · omega
    refine .go ?_ (ih ((S : Int) + -1) (so h 0 0 (vu (h 0 0) 1 S (dLeast (h 0 0) S m))) (by omega) (by omega) ?_ ?_)
    · rw [sg_X0_choose_16]
      simp (disch := omega) only [nx_of, if_pos, if_neg, if_true, if_false, true_or, or_true, Int.toNat_natCast, Option.bind_some, c1, up_so]
    · rw [so_at]
      refine ⟨fun i k a b => ?_, fun T a b => ?_, fun i a => ?_⟩
      · rw [vu_k (by omega)]; exact hD.1 i k a b
      · by_cases q : T = S
        · subst q; rw [vu_at]; exact b1
        · rw [vu_ne (by omega)]; exact hD.2.1 T (by omega) b
      · rw [vu_k (by omega)]; exact hD.2.2 i a
    · rw [so_at, so_so]
      exact hr
/-- dealing out: e houses from i on, S dealt -/
def dD (D : nl_O) (m : Nat) : Nat → Nat → Nat → nl_O
  | 0, _, _ => D
  | e + 1, i, S => dD (vu (vu D 2 i ((dLow D S i m 0 : Nat) : Int)) 5 0 (D 5 0 + (if (D 3 i).toNat.testBit (dLow D S i m 0) = true then 0 else 1))) m e (i + 1) (S ||| 2 ^ (dLow D S i m 0))
theorem lp_dealOut {LS : Int} {n : Nat} (hn : 2 ≤ n) {m : Nat} (hm : m ≤ 7) : ∀ (e i S : Nat) (h : nl_H) (w : Option nl_V), i + e = m → S < 2 ^ m → dR (h 0 0) m 0 → nl_Rn LS cd_X0_dealOut (nl_c LS n) ct_X0_dealOut 0 9 [some (vO 0 0), some (vI (m : Int)), some (vI (S : Int)), some (vI (i : Int)), w] h (0, so h 0 0 (dD (h 0 0) m e i S)) := by
  have hm2 := bm_le hm
  intro e
  induction e with
  | zero =>
    intro i S h w hi hS hD
    refine .ret ?_
    rw [sg_X0_dealOut_9]
    simp (disch := omega) only [nx_of, if_pos, if_neg, if_true, if_false, true_or, or_true, Int.toNat_natCast, Option.bind_some, dD, so_self]
  | succ e ih =>
    intro i S h w hi hS hD
    have b1 := hD.2.1 S (by omega) hS
    have c1 := sp_lowestOfLeast (LS := LS) hn (h := h) (S := S) (i := i) (m := m) (by omega) (by omega) hm (by omega) (by
      intro k a b
      have := dR_pr hm hD (by omega) hS (i := i) (by omega) a b
      omega)
    have b2 := dLow_in (D := h 0 0) (S := S) (i := i) m 0 m (by omega) (by omega)
    simp only [dD]
    generalize dLow (h 0 0) S i m 0 = k at c1 b2 ⊢
    obtain ⟨X, hX, eX⟩ := hD.2.2 i (by omega)
    have hz := bs_z (S := X) (k := k) (by omega)
    have l1 : nl_nz 1 = 1 := nx_of (by omega) (by omega)
    have t1 : (1 : Int).toNat = 1 := rfl
    have p8 : (0 : Int) ≤ ((X / 2 ^ k : Nat) : Int) ∧ (0 : Int) ≤ 1 := ⟨Int.natCast_nonneg _, by omega⟩
    have p9 : (0 : Int) ≤ (S : Int) ∧ (0 : Int) ≤ ((2 ^ k : Nat) : Int) := ⟨Int.natCast_nonneg _, Int.natCast_nonneg _⟩
    have hR : ∀ y, dR (vu (vu (h 0 0) 2 i ((k : Nat) : Int)) 5 0 y) m 0 := by
      intro y
      refine ⟨fun i k a b => ?_, fun T a b => ?_, fun i a => ?_⟩
      · rw [vu_k (by omega), vu_k (by omega)]; exact hD.1 i k a b
      · rw [vu_k (by omega), vu_k (by omega)]; exact hD.2.1 T a b
      · rw [vu_k (by omega), vu_k (by omega)]; exact hD.2.2 i a
    have hS2 := bo_lt2 hS b2
    rw [eX, Int.toNat_natCast]
    by_cases hq : X.testBit k = true
    · rw [if_pos hq]
      have k9 := ih (i + 1) (S ||| 2 ^ k) (so h 0 0 (vu (vu (h 0 0) 2 i ((k : Nat) : Int)) 5 0 (h 0 0 5 0 + 0))) (some (vI (k : Int))) (by omega) hS2 (by rw [so_at]; exact hR _)
      rw [so_at, so_so] at k9
      refine .go ?_ k9
      rw [sg_X0_dealOut_9]
      simp (disch := omega) only [nx_of, if_pos, if_neg, if_true, if_false, true_or, or_true, Int.toNat_natCast, Option.bind_some, c1, up_so, so_at, so_so, vu_k, eX, hz, l1, t1, bt_z, if_pos hq, bp_z]
      rfl
    · rw [if_neg hq]
      have k9 := ih (i + 1) (S ||| 2 ^ k) (so h 0 0 (vu (vu (h 0 0) 2 i ((k : Nat) : Int)) 5 0 (h 0 0 5 0 + 1))) (some (vI (k : Int))) (by omega) hS2 (by rw [so_at]; exact hR _)
      rw [so_at, so_so] at k9
      refine .go ?_ k9
      rw [sg_X0_dealOut_9]
      simp (disch := omega) only [nx_of, if_pos, if_neg, if_true, if_false, true_or, or_true, Int.toNat_natCast, Option.bind_some, c1, up_so, so_at, so_so, vu_k, eX, hz, l1, t1, bt_z, if_neg hq, bp_z]
      rfl
theorem sp_dealOut {LS : Int} {n : Nat} (hn : 3 ≤ n) {h : nl_H} {m : Nat} (hm : m ≤ 7) (hD : dR (h 0 0) m 0) : nl_c LS n m_X0_dealOut [vO 0 0, vI (m : Int)] h = some (0, so h 0 0 (dD (vu (h 0 0) 5 0 0) m m 0 0)) := by
  obtain ⟨n, rfl, hn1⟩ := nl_suc hn
  have hp : (0 : Nat) < 2 ^ m := Nat.two_pow_pos m
  have hR : dR (vu (h 0 0) 5 0 0) m 0 := by
    refine ⟨fun i k a b => ?_, fun T a b => ?_, fun i a => ?_⟩
    · rw [vu_k (by omega)]; exact hD.1 i k a b
    · rw [vu_k (by omega)]; exact hD.2.1 T a b
    · rw [vu_k (by omega)]; exact hD.2.2 i a
  have k9 := lp_dealOut (LS := LS) hn1 hm m 0 0 (so h 0 0 (vu (h 0 0) 5 0 0)) none (by omega) hp (by rw [so_at]; exact hR)
  rw [so_at, so_so] at k9
  refine cl_X0_dealOut (.go ?_ k9)
  rw [sg_X0_dealOut_0]
  simp (disch := omega) only [nx_of, if_pos, if_neg, if_true, if_false, true_or, or_true, Int.toNat_natCast, Option.bind_some, up_so]
  rfl
theorem dP_in {N : Int} {V : nl_O} (hV : vok N V) {i k : Nat} (hk : (k : Int) < V 0 0) : -40 ≤ dP V i k ∧ dP V i k ≤ 1000 := by
  have := vHv_in hV (i := i) hk
  unfold dP
  split <;> omega
/-- the numbers behind the weighing -/
def dZ (D V : nl_O) : nl_O := dWW D V (vN V) 0
/-- the numbers behind choose -/
def dC (D V : nl_O) : nl_O := dD (vu (dTab (dZ D V) (vN V) (2 ^ vN V)) 5 0 0) (vN V) (vN V) 0 0
theorem dZ_R {N : Int} {D V : nl_O} (hV : vok N V) : dR (dZ D V) (vN V) (2 ^ vN V) := by
  have hn := hV.1
  have h7 : vN V ≤ 7 := by unfold vN; omega
  refine ⟨fun i k a b => ?_, fun T a b => ?_, fun i a => ?_⟩
  · unfold dZ
    rw [dWW_p h7 _ _ _ _ _ (by omega) (by omega) b]
    exact dP_in hV (by unfold vN at b; omega)
  · omega
  · unfold dZ
    rw [dWW_b _ _ _ _ (by omega) (by omega)]
    exact ⟨_, dBits_lt _ h7, rfl⟩
theorem sp_choose {LS : Int} {n : Nat} (hn : 5 ≤ n) {h : nl_H} {v : Nat} {N : Int} (hN : N ≤ 100000) (hV : vok N (h 4 v)) : nl_c LS n m_X0_choose [vO 0 0, vO 4 v] h = some (0, so h 0 0 (dC (h 0 0) (h 4 v))) := by
  obtain ⟨n, rfl, hn1⟩ := nl_suc hn
  have hn9 := hV.1
  have k8 : h 4 v 0 0 = (vN (h 4 v) : Int) := by unfold vN; omega
  have h7 : vN (h 4 v) ≤ 7 := by unfold vN; omega
  have hb := bm_le h7
  have hp : 0 < 2 ^ vN (h 4 v) := Nat.two_pow_pos _
  have c1 := sp_weigh (LS := LS) hn1 (h := h) hN hV
  have hR := dZ_R (D := h 0 0) hV
  have e1 : (1 * 2 ^ vN (h 4 v) : Int) = ((2 ^ vN (h 4 v) : Nat) : Int) := by rw [Int.one_mul, Int.natCast_pow]; rfl
  have k9 := lp_choose (LS := LS) (n := n) (by omega) (v := v) (r := (0, so h 0 0 (dC (h 0 0) (h 4 v)))) h7 (2 ^ vN (h 4 v)) (((2 ^ vN (h 4 v) : Nat) : Int) - 1) (so h 0 0 (dZ (h 0 0) (h 4 v))) (by omega) (by omega) (by rw [so_at]; exact hR) (by
    intro q
    rw [so_at] at q
    rw [so_at, so_so]
    have c2 := sp_dealOut (LS := LS) (n := n) (by omega) (h := so h 0 0 (dTab (dZ (h 0 0) (h 4 v)) (vN (h 4 v)) (2 ^ vN (h 4 v)))) h7 (by rw [so_at]; exact q)
    rw [so_at, so_so] at c2
    refine .ret ?_
    rw [sg_X0_choose_16]
    simp (disch := omega) only [nx_of, if_pos, if_neg, if_true, if_false, true_or, or_true, Int.toNat_natCast, Option.bind_some, c2]
    rfl)
  refine cl_X0_choose (.go ?_ k9)
  rw [sg_X0_choose_0]
  have e3 : so h 0 0 (dWW (h 0 0) (h 4 v) (vN (h 4 v)) 0) 4 v = h 4 v := so_ne (by omega)
  simp (disch := omega) only [nx_of, if_pos, if_neg, if_true, if_false, true_or, or_true, Int.toNat_natCast, Option.bind_some, c1, e3, k8, e1]
  rfl
