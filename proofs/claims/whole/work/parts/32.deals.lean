/-! Deal: the weighing whole, the table, dealing out, choose. -/
theorem lp_weigh {LS : Int} {n : Nat} (hn : 3 ≤ n) {v : Nat} {N : Int} {V : nl_O} (hN : N ≤ 100000) (hV : vok N V) : ∀ (e i : Nat) (h : nl_H) (w3 w4 : Option nl_V), h 4 v = V → (i : Int) + e = V 0 0 → nl_Rn LS cd_X0_weigh (nl_c LS n) ct_X0_weigh 0 2 [some (vO 0 0), some (vO 4 v), some (vI (i : Int)), w3, w4] h (0, so h 0 0 (dWW (h 0 0) V e i)) := by
  have hn9 := hV.1
  intro e
  induction e with
  | zero =>
    intro i h w3 w4 hv hi
    refine .ret ?_
    rw [sg_X0_weigh_2, hv]
    simp (disch := omega) only [nx_of, if_pos, if_neg, if_true, if_false, true_or, or_true, Int.toNat_natCast, Option.bind_some, dWW, so_self]
  | succ e ih =>
    intro i h w3 w4 hv hi
    have k8 : (vN V : Int) = V 0 0 := by unfold vN; omega
    have k9 := lp_weighK (LS := LS) hn (v := v) (r := (0, so h 0 0 (dWW (h 0 0) V (e + 1) i))) hN hV (i := i) (by omega) (vN V) 0 (so h 0 0 (vu (h 0 0) 3 i 0)) w4 (by rw [so_ne (by omega)]; exact hv) (by rw [so_at, vu_at]; rfl) (by omega) (by
      intro w'
      have k7 := ih (i + 1) (so h 0 0 (dW (vu (h 0 0) 3 i 0) V i (vN V) 0)) (some (vI ((0 + vN V : Nat) : Int))) w' (by rw [so_ne (by omega)]; exact hv) (by omega)
      rw [so_at, so_so] at k7 ⊢
      exact k7)
    refine .go ?_ k9
    rw [sg_X0_weigh_2, hv]
    simp (disch := omega) only [nx_of, if_pos, if_neg, if_true, if_false, true_or, or_true, Int.toNat_natCast, Option.bind_some, up_so]
    rfl
theorem sp_weigh {LS : Int} {n : Nat} (hn : 4 ≤ n) {h : nl_H} {v : Nat} {N : Int} (hN : N ≤ 100000) (hV : vok N (h 4 v)) : nl_c LS n m_X0_weigh [vO 0 0, vO 4 v] h = some (0, so h 0 0 (dWW (h 0 0) (h 4 v) (vN (h 4 v)) 0)) := by
  obtain ⟨n, rfl, hn1⟩ := nl_suc hn
  have hn9 := hV.1
  have k8 : (vN (h 4 v) : Int) = h 4 v 0 0 := by unfold vN; omega
  refine cl_X0_weigh (.go ?_ (lp_weigh hn1 hN hV (vN (h 4 v)) 0 h none none rfl (by omega)))
  rw [sg_X0_weigh_0]
  rfl
theorem dW_o {V : nl_O} {i : Nat} : ∀ (d k : Nat) (D : nl_O) (f j : Nat), (f ≠ 0 ∧ f ≠ 3) ∨ (f = 3 ∧ j ≠ i) ∨ (f = 0 ∧ (j < i * 7 + k ∨ i * 7 + k + d ≤ j)) → dW D V i d k f j = D f j := by
  intro d
  induction d with
  | zero => intro k D f j _; rfl
  | succ d ih =>
    intro k D f j hq
    simp only [dW]
    rw [ih (k + 1) _ f j (by omega), vu_ne (by omega), vu_ne (by omega)]
theorem dW_p {V : nl_O} {i : Nat} : ∀ (d k : Nat) (D : nl_O) (j : Nat), k ≤ j → j < k + d → dW D V i d k 0 (i * 7 + j) = dP V i j := by
  intro d
  induction d with
  | zero => intro k D j _ _; omega
  | succ d ih =>
    intro k D j h1 h2
    simp only [dW]
    by_cases q : k = j
    · subst q
      rw [dW_o _ _ _ _ _ (by omega), vu_ne (by omega), vu_at]
    · exact ih (k + 1) _ j (by omega) (by omega)
theorem dW_b {V : nl_O} {i : Nat} : ∀ (d k : Nat) (D : nl_O), D 3 i = ((dBits V i k : Nat) : Int) → dW D V i d k 3 i = ((dBits V i (k + d) : Nat) : Int) := by
  intro d
  induction d with
  | zero => intro k D h; exact h
  | succ d ih =>
    intro k D h
    simp only [dW]
    have e : k + 1 + d = k + (d + 1) := by omega
    rw [ih (k + 1) _ vu_at, e]
theorem dWW_o {V : nl_O} : ∀ (e i : Nat) (D : nl_O) (f j : Nat), (f ≠ 0 ∧ f ≠ 3) ∨ (f = 3 ∧ j < i) ∨ (f = 0 ∧ j < i * 7) → dWW D V e i f j = D f j := by
  intro e
  induction e with
  | zero => intro i D f j _; rfl
  | succ e ih =>
    intro i D f j hq
    simp only [dWW]
    rw [ih (i + 1) _ f j (by omega), dW_o _ _ _ _ _ (by omega), vu_ne (by omega)]
theorem dWW_p {V : nl_O} (hV : vN V ≤ 7) : ∀ (e i : Nat) (D : nl_O) (a b : Nat), i ≤ a → a < i + e → b < vN V → dWW D V e i 0 (a * 7 + b) = dP V a b := by
  intro e
  induction e with
  | zero => intro i D a b _ _; omega
  | succ e ih =>
    intro i D a b h1 h2 h3
    simp only [dWW]
    by_cases q : i = a
    · subst q
      rw [dWW_o _ _ _ _ _ (by omega), dW_p _ _ _ _ (by omega) (by omega)]
    · exact ih (i + 1) _ a b (by omega) (by omega) h3
theorem dWW_b {V : nl_O} : ∀ (e i : Nat) (D : nl_O) (a : Nat), i ≤ a → a < i + e → dWW D V e i 3 a = ((dBits V a (vN V) : Nat) : Int) := by
  intro e
  induction e with
  | zero => intro i D a _ _; omega
  | succ e ih =>
    intro i D a h1 h2
    simp only [dWW]
    by_cases q : i = a
    · subst q
      rw [dWW_o _ _ _ _ _ (by omega), dW_b _ _ _ (by rw [vu_at]; rfl), Nat.zero_add]
    · exact ih (i + 1) _ a (by omega) (by omega)
/-- the table stands: every set of the first m holds its least -/
def dT (D : nl_O) (m : Nat) : Prop := ∀ S, S < 2 ^ m → D 1 S = dLeast D S m
/-- the least only reads the prices and the table above -/
theorem dLo_cong {D E : nl_O} {S i : Nat} (hp : ∀ j, D 0 j = E 0 j) : ∀ m, (∀ k, k < m → S.testBit k = false → D 1 (S ||| 2 ^ k) = E 1 (S ||| 2 ^ k)) → dLo D S i m = dLo E S i m := by
  intro m
  induction m with
  | zero => intro _; rfl
  | succ m ih =>
    intro h
    have e := ih fun k a b => h k (by omega) b
    simp only [dLo]
    rw [e]
    by_cases q : S.testBit m = true
    · rw [if_pos q, if_pos q]
    · have e2 : dPr D S i m = dPr E S i m := by
        unfold dPr
        rw [hp, h m (by omega) (by simpa using q)]
      rw [if_neg q, if_neg q, e2]
theorem dLeast_cong {D E : nl_O} {S m : Nat} (hp : ∀ j, D 0 j = E 0 j) (h : ∀ k, k < m → S.testBit k = false → D 1 (S ||| 2 ^ k) = E 1 (S ||| 2 ^ k)) : dLeast D S m = dLeast E S m := by
  unfold dLeast
  rw [dLo_cong hp m h]
theorem bo_gt {S k : Nat} (h : S.testBit k = false) : S < S ||| 2 ^ k := by
  have h1 : S ≤ S ||| 2 ^ k := Nat.left_le_or
  have h2 : S ≠ S ||| 2 ^ k := by
    intro q
    have : S.testBit k = (S ||| 2 ^ k).testBit k := by rw [← q]
    rw [Nat.testBit_or, Nat.testBit_two_pow_self, h] at this
    cases this
  omega
theorem dTab_T {m : Nat} : ∀ (S : Nat) (D : nl_O), (∀ T, S ≤ T → T < 2 ^ m → D 1 T = dLeast D T m) → dT (dTab D m S) m := by
  intro S
  induction S with
  | zero => intro D h T hT; exact h T (by omega) hT
  | succ S ih =>
    intro D h
    simp only [dTab]
    refine ih _ ?_
    intro T h1 h2
    have e : dLeast (vu D 1 S (dLeast D S m)) T m = dLeast D T m := by
      refine dLeast_cong (fun j => vu_k (by omega)) ?_
      intro k _ b
      have := bo_gt b
      exact vu_ne (by omega)
    rw [e]
    by_cases q : T = S
    · subst q; exact vu_at
    · rw [vu_ne (by omega)]
      exact h T (by omega) h2
theorem bo_lt2 {S k m : Nat} (hS : S < 2 ^ m) (hk : k < m) : S ||| 2 ^ k < 2 ^ m :=
  Nat.or_lt_two_pow hS (Nat.pow_lt_pow_right (by omega) hk)
theorem bm_le {m : Nat} (hm : m ≤ 7) : 2 ^ m ≤ 128 := Nat.pow_le_pow_right (n := 2) (by omega) hm
