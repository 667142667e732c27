/-! Where the objects lie: every cell that the law makes, counted from the first, B; the model at M. -/
def nk_r (k : Nat) : Nat := match k with
  | 1 => 0
  | 2 => 1
  | 3 => 2
  | 6 => 3
  | 7 => 4
  | 8 => 5
  | 9 => 6
  | 10 => 7
  | 12 => 8
  | 13 => 9
  | 14 => 10
  | 15 => 11
  | 20 => 12
  | 21 => 13
  | 23 => 14
  | 25 => 15
  | 26 => 16
  | 27 => 17
  | 28 => 18
  | _ => 0
def nk_o (B M : Nat) (c o : Nat) : Nat := match c with
  | 0 => B + 124
  | 1 => B + 2
  | 2 => B + 26 + 74 * o
  | 3 => B + 120
  | 4 => B + 8 + 9 * o + 2 * min (o / 2) 1 + 2 * (o / 10)
  | 5 => B
  | _ => M
def nk_a (B M b : Nat) (c o k : Nat) : Nat := match c with
  | 0 => B + 125 + k
  | 1 => B + 3 + k
  | 2 => B + 27 + 74 * o
  | 3 => B + 121 + k
  | 4 => B + 8 + 9 * o + 2 * min (o / 2) 1 + 2 * (o / 10) + (k - 2)
  | 5 => B + 1
  | 6 => M + 1 + nk_r k
  | _ => b
def nk_n (n6 n9 : Nat) (c : Nat) : Nat := match c with
  | 0 => 1
  | 1 => 1
  | 2 => 2
  | 3 => 1
  | 4 => 12
  | 5 => 1
  | 6 => n6
  | 9 => n9
  | _ => 0
def nk_G (D : va_G) (Y : Nat → ClassId) (B M b : Nat) (L : Int) (n6 n9 : Nat) : nl_G := (D, nk_o B M, nk_a B M b, Y, nk_n n6 n9, (fun q => B ≤ q), L)
def nk_len (c : Nat) : Nat := match c with
  | 0 => 5
  | 1 => 5
  | 2 => 1
  | 3 => 3
  | 4 => 8
  | 5 => 1
  | _ => 19
theorem nk_r6 : ∀ k, k < 30 → nl_fk 6 k = 1 → nk_r k < 19 ∧ ∀ k', k' < 30 → nl_fk 6 k' = 1 → nk_r k = nk_r k' → k = k' := by decide +kernel
theorem nk_f0 : ∀ k, k < 6 → nl_fk 0 k = 1 → k < 5 := by decide +kernel
theorem nk_f1 : ∀ k, k < 8 → nl_fk 1 k = 1 → k < 5 := by decide +kernel
theorem nk_f2 : ∀ k, k < 2 → nl_fk 2 k = 1 → k = 0 := by decide +kernel
theorem nk_f3 : ∀ k, k < 4 → nl_fk 3 k = 1 → k < 3 := by decide +kernel
theorem nk_f4 : ∀ k, k < 11 → nl_fk 4 k = 1 → 3 ≤ k := by decide +kernel
theorem nk_f5 : ∀ k, k < 9 → nl_fk 5 k = 1 → k = 0 := by decide +kernel
theorem nk_in {B M b c o k : Nat} (hc : c < 7) (hk : k < nl_N c) (hf : nl_fk c k = 1) : nk_o B M c o < nk_a B M b c o k ∧ nk_a B M b c o k ≤ nk_o B M c o + nk_len c := by
  match c, hc with
  | 0, _ => have := nk_f0 k hk hf; simp only [nk_o, nk_a, nk_len]; omega
  | 1, _ => have := nk_f1 k hk hf; simp only [nk_o, nk_a, nk_len]; omega
  | 2, _ => simp only [nk_o, nk_a, nk_len]; omega
  | 3, _ => have := nk_f3 k hk hf; simp only [nk_o, nk_a, nk_len]; omega
  | 4, _ => have := nk_f4 k hk hf; have hk : k < 11 := hk; simp only [nk_o, nk_a, nk_len]; omega
  | 5, _ => simp only [nk_o, nk_a, nk_len]; omega
  | 6, _ => have := (nk_r6 k hk hf).1; simp only [nk_o, nk_a, nk_len]; omega
  | n + 7, h => exact absurd h (by omega)
theorem nk_same {B M b c o k k' : Nat} (hc : c < 7) (hk : k < nl_N c) (hf : nl_fk c k = 1) (hk' : k' < nl_N c) (hf' : nl_fk c k' = 1) (e : nk_a B M b c o k = nk_a B M b c o k') : k = k' := by
  match c, hc with
  | 0, _ => simp only [nk_a] at e; omega
  | 1, _ => simp only [nk_a] at e; omega
  | 2, _ => have := nk_f2 k hk hf; have := nk_f2 k' hk' hf'; omega
  | 3, _ => simp only [nk_a] at e; omega
  | 4, _ => have := nk_f4 k hk hf; have := nk_f4 k' hk' hf'; simp only [nk_a] at e; omega
  | 5, _ => have := nk_f5 k hk hf; have := nk_f5 k' hk' hf'; omega
  | 6, _ => simp only [nk_a] at e; exact (nk_r6 k hk hf).2 k' hk' hf' (by omega)
  | n + 7, h => exact absurd h (by omega)
/-- which class: apart, by the place of the region -/
theorem nk_rg {B M n6 n9 c o : Nat} (hM : B + 130 ≤ M) (h6 : n6 ≤ 1) (hc : c < 7) (ho : o < nk_n n6 n9 c) : (c = 5 ∧ o = 0 ∧ nk_o B M c o = B) ∨ (c = 1 ∧ o = 0 ∧ nk_o B M c o = B + 2) ∨ (c = 4 ∧ o < 12 ∧ (o < 2 ∧ nk_o B M c o = B + 8 + 9 * o ∨ 2 ≤ o ∧ o < 10 ∧ nk_o B M c o = B + 10 + 9 * o ∨ 10 ≤ o ∧ nk_o B M c o = B + 12 + 9 * o)) ∨ (c = 2 ∧ o < 2 ∧ (o = 0 ∧ nk_o B M c o = B + 26 ∨ o = 1 ∧ nk_o B M c o = B + 100)) ∨ (c = 3 ∧ o = 0 ∧ nk_o B M c o = B + 120) ∨ (c = 0 ∧ o = 0 ∧ nk_o B M c o = B + 124) ∨ (c = 6 ∧ o = 0 ∧ nk_o B M c o = M) := by
  match c, hc with
  | 0, _ => have ho : o < 1 := ho; exact Or.inr (Or.inr (Or.inr (Or.inr (Or.inr (Or.inl ⟨rfl, by omega, rfl⟩)))))
  | 1, _ => have ho : o < 1 := ho; exact Or.inr (Or.inl ⟨rfl, by omega, rfl⟩)
  | 2, _ => have ho : o < 2 := ho; exact Or.inr (Or.inr (Or.inr (Or.inl ⟨rfl, by omega, by simp only [nk_o]; omega⟩)))
  | 3, _ => have ho : o < 1 := ho; exact Or.inr (Or.inr (Or.inr (Or.inr (Or.inl ⟨rfl, by omega, rfl⟩))))
  | 4, _ => have ho : o < 12 := ho; exact Or.inr (Or.inr (Or.inl ⟨rfl, by omega, by simp only [nk_o]; omega⟩))
  | 5, _ => have ho : o < 1 := ho; exact Or.inl ⟨rfl, by omega, rfl⟩
  | 6, _ => have ho : o < n6 := ho; exact Or.inr (Or.inr (Or.inr (Or.inr (Or.inr (Or.inr ⟨rfl, by omega, rfl⟩)))))
  | n + 7, h => exact absurd h (by omega)
theorem nk_dis {B M n6 n9 c o c' o' x y : Nat} (hM : B + 130 ≤ M) (h6 : n6 ≤ 1) (hc : c < 7) (ho : o < nk_n n6 n9 c) (hc' : c' < 7) (ho' : o' < nk_n n6 n9 c') (h1 : nk_o B M c o ≤ x) (h2 : x ≤ nk_o B M c o + nk_len c) (h3 : nk_o B M c' o' ≤ y) (h4 : y ≤ nk_o B M c' o' + nk_len c') (e : x = y) : c = c' ∧ o = o' := by
  subst e
  rcases nk_rg hM h6 hc ho with ⟨rfl, g2, g3⟩ | ⟨rfl, g2, g3⟩ | ⟨rfl, g2, g3⟩ | ⟨rfl, g2, g3⟩ | ⟨rfl, g2, g3⟩ | ⟨rfl, g2, g3⟩ | ⟨rfl, g2, g3⟩ <;> rcases nk_rg hM h6 hc' ho' with ⟨rfl, k2, k3⟩ | ⟨rfl, k2, k3⟩ | ⟨rfl, k2, k3⟩ | ⟨rfl, k2, k3⟩ | ⟨rfl, k2, k3⟩ | ⟨rfl, k2, k3⟩ | ⟨rfl, k2, k3⟩ <;> simp only [nk_len] at h2 h4 <;> omega
theorem nk_Ap {D : va_G} {Y : Nat → ClassId} {B M b : Nat} {L : Int} {n6 n9 : Nat} (hM : B + 130 ≤ M) (h6 : n6 ≤ 1) (hb : b < B) (hL : 0 ≤ L ∧ L ≤ 2048) : nl_Ap (nk_G D Y B M b L n6 n9) := by
  refine ⟨fun c o c' o' h1 h2 h3 h4 e => ?_, fun c o k c' o' k' h1 h2 h3 h4 h5 h6' h7 h8 e => ?_, fun c o c' o' k' h1 h2 h3 h4 h5 h6' e => ?_, fun c o h1 h2 => ?_, fun c o k h1 h2 h3 h4 => ?_, fun h9 => ⟨Nat.not_le.mpr hb, hL⟩, rfl, rfl, rfl, rfl, rfl, rfl, h6⟩
  · exact nk_dis hM h6 h1 h2 h3 h4 (Nat.le_refl _) (Nat.le_add_right _ _) (Nat.le_refl _) (Nat.le_add_right _ _) e
  · have i1 := nk_in (B := B) (M := M) (b := b) (o := o) h1 h3 h4
    have i2 := nk_in (B := B) (M := M) (b := b) (o := o') h5 h7 h8
    obtain ⟨rfl, rfl⟩ := nk_dis hM h6 h1 h2 h5 h6' (Nat.le_of_lt i1.1) i1.2 (Nat.le_of_lt i2.1) i2.2 e
    exact ⟨rfl, rfl, nk_same (B := B) (M := M) (b := b) (o := o) h1 h3 h4 h7 h8 e⟩
  · have i2 := nk_in (B := B) (M := M) (b := b) (o := o') h3 h5 h6'
    obtain ⟨rfl, rfl⟩ := nk_dis hM h6 h1 h2 h3 h4 (Nat.le_refl _) (Nat.le_add_right _ _) (Nat.le_of_lt i2.1) i2.2 e
    have e : nk_o B M c o = nk_a B M b c o k' := e
    omega
  · show B ≤ nk_o B M c o
    rcases nk_rg hM h6 h1 h2 with ⟨rfl, g2, g3⟩ | ⟨rfl, g2, g3⟩ | ⟨rfl, g2, g3⟩ | ⟨rfl, g2, g3⟩ | ⟨rfl, g2, g3⟩ | ⟨rfl, g2, g3⟩ | ⟨rfl, g2, g3⟩ <;> omega
  · show B ≤ nk_a B M b c o k
    have i1 := nk_in (B := B) (M := M) (b := b) (o := o) h1 h3 h4
    rcases nk_rg hM h6 h1 h2 with ⟨rfl, g2, g3⟩ | ⟨rfl, g2, g3⟩ | ⟨rfl, g2, g3⟩ | ⟨rfl, g2, g3⟩ | ⟨rfl, g2, g3⟩ | ⟨rfl, g2, g3⟩ | ⟨rfl, g2, g3⟩ <;> omega
