/-! Dealing out gives the best row. -/
theorem dLow_cong {D E : nl_O} {S i : Nat} (h0 : ∀ j, D 0 j = E 0 j) (h1 : ∀ j, D 1 j = E 1 j) : ∀ (d j : Nat), dLow D S i d j = dLow E S i d j := by
  intro d
  induction d with
  | zero => intro j; rfl
  | succ d ih =>
    intro j
    have e : dPr D S i j = dPr E S i j := by unfold dPr; rw [h0, h1]
    simp only [dLow]
    rw [e, h1, ih]
theorem dD_is {N : Int} {V T : nl_O} {m : Nat} (hV : vok N V) (hm : V 0 0 = (m : Int)) (hT : dT T m) (h0 : ∀ i k, i < m → k < m → T 0 (i * 7 + k) = dP V i k) (h3 : ∀ i, i < m → T 3 i = ((dBits V i m : Nat) : Int)) : ∀ (e i S : Nat) (D : nl_O), i + e = m → S < 2 ^ m → bN S + e = m → (∀ j, D 0 j = T 0 j) → (∀ j, D 1 j = T 1 j) → (∀ j, D 3 j = T 3 j) →
    (∀ j, j < e → dD D m e i S 2 (i + j) = ((gt (pA V m e S).2 j : Nat) : Int)) ∧ (∀ j, j < i → dD D m e i S 2 j = D 2 j) ∧ dD D m e i S 5 0 = D 5 0 + ((gB V i (pA V m e S).2 : Nat) : Int) := by
  have h9 := hV.1
  have h2 := bm_le (show m ≤ 7 by omega)
  intro e
  induction e with
  | zero =>
    intro i S D hi hS hb _ _ _
    refine ⟨fun j hj => by omega, fun j hj => rfl, ?_⟩
    simp only [dD, pA, gB]
    omega
  | succ e ih =>
    intro i S D hi hS hb hD0 hD1 hD3
    have s := pA_s hV hm hT h0 hS hb
    have ei : m - (e + 1) = i := by omega
    rw [ei] at s
    have lc := dLow_cong (D := D) (E := T) (S := S) (i := i) hD0 hD1 m 0
    obtain ⟨s1, s2, s3⟩ := s
    have e3 : (D 3 i).toNat = dBits V i m := by rw [hD3, h3 i (by omega)]; rfl
    simp only [dD]
    rw [lc, e3]
    generalize hk : dLow T S i m 0 = k at s1 s2 s3 ⊢
    have ba := b_add S (by omega) k (by omega) s2
    have k9 := ih (i + 1) (S ||| 2 ^ k) (vu (vu D 2 i (k : Int)) 5 0 (D 5 0 + (if (dBits V i m).testBit k = true then 0 else 1))) (by omega) (bo_lt2 hS s1) (by omega) (fun j => by rw [vu_k (by omega), vu_k (by omega)]; exact hD0 j) (fun j => by rw [vu_k (by omega), vu_k (by omega)]; exact hD1 j) (fun j => by rw [vu_k (by omega), vu_k (by omega)]; exact hD3 j)
    obtain ⟨a, b, c⟩ := k9
    rw [s3]
    refine ⟨fun j hj => ?_, fun j hj => ?_, ?_⟩
    · cases j with
      | zero =>
        rw [show i + 0 = i from rfl, b i (by omega), vu_k (by omega), vu_at]
        rfl
      | succ j =>
        rw [show i + (j + 1) = i + 1 + j by omega, a j (by omega)]
        rfl
    · rw [b j (by omega), vu_k (by omega), vu_ne (by omega)]
    · rw [c, vu_at]
      simp only [gB]
      have tb := dBits_tb (V := V) (i := i) (j := k) m
      by_cases q : vHv V i k ≤ V 5 i - V 7 i
      · rw [if_pos (tb.mpr ⟨s1, q⟩), if_pos q]
        omega
      · rw [if_neg (fun z => q (tb.mp z).2), if_neg q]
        omega
/-- the best row, for the class -/
theorem dC_is {N : Int} {D V : nl_O} {m : Nat} (hV : vok N V) (hm : V 0 0 = (m : Int)) : (∀ j, j < m → dC D V 2 j = ((gt (pA V m m 0).2 j : Nat) : Int)) ∧ dC D V 5 0 = ((gB V 0 (pA V m m 0).2 : Nat) : Int) := by
  have h9 := hV.1
  have e : vN V = m := by unfold vN; rw [hm]; rfl
  have hT : dT (dTab (dZ D V) m (2 ^ m)) m := dTab_T (2 ^ m) _ fun T h1 h2 => by omega
  have h0 : ∀ i k, i < m → k < m → dTab (dZ D V) m (2 ^ m) 0 (i * 7 + k) = dP V i k := by
    intro i k hi hk
    rw [dTab_o _ _ _ _ (.inl (by omega))]
    unfold dZ
    exact dWW_p (by omega) _ 0 _ i k (by omega) (by omega) (by omega)
  have h3 : ∀ i, i < m → dTab (dZ D V) m (2 ^ m) 3 i = ((dBits V i m : Nat) : Int) := by
    intro i hi
    rw [dTab_o _ _ _ _ (.inl (by omega))]
    unfold dZ
    rw [dWW_b _ 0 _ i (by omega) (by omega), e]
  have k9 := dD_is hV hm hT h0 h3 m 0 0 (vu (dTab (dZ D V) m (2 ^ m)) 5 0 0) (by omega) (Nat.two_pow_pos m) (by unfold bN; omega) (fun j => vu_k (by omega)) (fun j => vu_k (by omega)) (fun j => vu_k (by omega))
  unfold dC
  rw [e]
  refine ⟨fun j hj => ?_, ?_⟩
  · have := k9.1 j hj
    rw [Nat.zero_add] at this
    exact this
  · rw [k9.2.2, vu_at, Int.zero_add]
/-- the model's look at all rows: gaps, weight, the row -/
def mE (V : nl_O) : List (List Nat) → Int × Int × (Nat → Int) → Int × Int × (Nat → Int)
  | [], g => g
  | p :: r, g => mE V r (if ((gB V 0 p : Nat) : Int) < g.1 ∨ (((gB V 0 p : Nat) : Int) = g.1 ∧ g.2.1 < sW V 0 p) then (((gB V 0 p : Nat) : Int), sW V 0 p, fun i => ((gt p i : Nat) : Int)) else g)
theorem cs_eq {V : nl_O} : ∀ (p : List Nat) (i : Nat), cs V i p = 1000 * ((gB V i p : Nat) : Int) - sW V i p := by
  intro p
  induction p with
  | nil => intro i; simp only [cs, gB, sW]; omega
  | cons k r ih =>
    intro i
    simp only [cs, gB, sW, dP]
    rw [ih]
    split <;> omega
theorem mE_fl {N : Int} {V : nl_O} {m : Nat} (hV : vok N V) (hm : V 0 0 = (m : Int)) : ∀ (L : List (List Nat)) (b : List Nat), (∀ q, q ∈ b :: L → q.length = m ∧ ∀ k, k ∈ q → (k : Int) < V 0 0) → mE V L (((gB V 0 b : Nat) : Int), sW V 0 b, fun i => ((gt b i : Nat) : Int)) = (((gB V 0 (fl V 0 (cs V 0 b, b) L).2 : Nat) : Int), sW V 0 (fl V 0 (cs V 0 b, b) L).2, fun i => ((gt (fl V 0 (cs V 0 b, b) L).2 i : Nat) : Int)) := by
  have h9 := hV.1
  intro L
  induction L with
  | nil => intro b _; rfl
  | cons p L ih =>
    intro b hb
    have b1 := hb b List.mem_cons_self
    have b2 := hb p (List.mem_cons_of_mem _ List.mem_cons_self)
    have w1 := sW_in hV b 0 b1.2
    have w2 := sW_in hV p 0 b2.2
    have c1 := cs_eq (V := V) b 0
    have c2 := cs_eq (V := V) p 0
    have el : fl V 0 (cs V 0 b, b) (p :: L) = fl V 0 (stp (cs V 0 b, b) (cs V 0 p, p)) L := rfl
    rw [el]
    simp only [mE]
    by_cases q : cs V 0 p < cs V 0 b
    · rw [if_pos (by omega)]
      have es : stp (cs V 0 b, b) (cs V 0 p, p) = (cs V 0 p, p) := by unfold stp; rw [if_pos q]
      rw [es]
      exact ih p fun q hq => hb q (List.mem_cons_of_mem _ hq)
    · rw [if_neg (by omega)]
      have es : stp (cs V 0 b, b) (cs V 0 p, p) = (cs V 0 b, b) := by unfold stp; rw [if_neg q]
      rw [es]
      refine ih b fun q hq => ?_
      rcases List.mem_cons.mp hq with z | z
      · exact hb q (by rw [z]; exact List.mem_cons_self)
      · exact hb q (List.mem_cons_of_mem _ (List.mem_cons_of_mem _ z))
theorem isR_mem {m : Nat} : ∀ (p : List Nat) (S : Nat), isR m S p → ∀ k, k ∈ p → k < m := by
  intro p
  induction p with
  | nil => intro S _ k hk; cases hk
  | cons x r ih =>
    intro S h k hk
    rcases List.mem_cons.mp hk with z | z
    · rw [z]; exact h.1
    · exact ih _ h.2.2 k z
/-- over all rows the model finds what the class finds -/
theorem mE_is {N : Int} {V : nl_O} {m : Nat} (hV : vok N V) (hm : V 0 0 = (m : Int)) (F G : Int) (hF : 1000 ≤ F) (b : Nat → Int) : (mE V (PL m m 0) (F, G, b)).1 = ((gB V 0 (pA V m m 0).2 : Nat) : Int) ∧ ∀ i, (mE V (PL m m 0) (F, G, b)).2.2 i = ((gt (pA V m m 0).2 i : Nat) : Int) := by
  have h9 := hV.1
  have f := fl_PL hV hm m 0 (Nat.two_pow_pos m) (by unfold bN; omega)
  rw [Nat.sub_self] at f
  obtain ⟨p, hp⟩ := PL_ne (show m ≤ 7 by omega) m 0 (Nat.two_pow_pos m) (by unfold bN; omega)
  have hq : ∀ q, q ∈ PL m m 0 → q.length = m ∧ ∀ k, k ∈ q → (k : Int) < V 0 0 := fun q hq => by
    have := (mem_PL m 0 q).mp hq
    exact ⟨this.1, fun k hk => by have := isR_mem q 0 this.2 k hk; omega⟩
  cases hL : PL m m 0 with
  | nil => rw [hL] at hp; cases hp
  | cons x L =>
    rw [hL] at f hq
    have hx := hq x List.mem_cons_self
    have gl := gB_le V x 0
    have hx2 := (mem_PL m 0 x).mp (by rw [hL]; exact List.mem_cons_self)
    have cl := cs_le hV x 0 0 m hm hx2.2
    have ef : fl V 0 (8000, []) (x :: L) = fl V 0 (cs V 0 x, x) L := by
      show fl V 0 (stp (8000, []) (cs V 0 x, x)) L = _
      unfold stp
      rw [if_pos (by dsimp only; omega)]
    rw [ef] at f
    simp only [mE]
    rw [if_pos (.inl (by omega)), mE_fl hV hm L x hq, f]
    exact ⟨rfl, fun i => rfl⟩
