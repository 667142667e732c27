/-! Heaps by objects; what every spec uses. -/
abbrev nl_O : Type := Nat → Nat → Int
def so (h : nl_H) (c o : Nat) (V : nl_O) : nl_H := fun c' o' => if c' = c ∧ o' = o then V else h c' o'
def vu (V : nl_O) (k i : Nat) (x : Int) : nl_O := fun k' i' => if k' = k ∧ i' = i then x else V k' i'
theorem so_at {h : nl_H} {c o : Nat} {V : nl_O} : so h c o V c o = V := by
  unfold so; rw [if_pos ⟨rfl, rfl⟩]
theorem so_ne {h : nl_H} {c o : Nat} {V : nl_O} {c' o' : Nat} (n : ¬ (c' = c ∧ o' = o)) : so h c o V c' o' = h c' o' := by
  unfold so; rw [if_neg n]
theorem so_so {h : nl_H} {c o : Nat} {V W : nl_O} : so (so h c o V) c o W = so h c o W := by
  funext c' o'
  unfold so
  split <;> rfl
theorem so_self {h : nl_H} {c o : Nat} : so h c o (h c o) = h := by
  funext c' o'
  unfold so
  split
  · rename_i q; rw [q.1, q.2]
  · rfl
theorem up_so {h : nl_H} {c o k i : Nat} {x : Int} : nl_up h c o k i x = so h c o (vu (h c o) k i x) := by
  funext c' o' k' i'
  unfold nl_up so vu
  by_cases q : c' = c ∧ o' = o
  · rw [if_pos q]
    obtain ⟨rfl, rfl⟩ := q
    by_cases z : k' = k ∧ i' = i
    · rw [if_pos z, if_pos ⟨rfl, rfl, z⟩]
    · rw [if_neg z, if_neg (fun y => z ⟨y.2.2.1, y.2.2.2⟩)]
  · rw [if_neg q, if_neg (fun y => q ⟨y.1, y.2.1⟩)]
theorem vu_at {V : nl_O} {k i : Nat} {x : Int} : vu V k i x k i = x := by
  unfold vu; rw [if_pos ⟨rfl, rfl⟩]
theorem vu_ne {V : nl_O} {k i : Nat} {x : Int} {k' i' : Nat} (n : ¬ (k' = k ∧ i' = i)) : vu V k i x k' i' = V k' i' := by
  unfold vu; rw [if_neg n]
theorem vu_k {V : nl_O} {k i : Nat} {x : Int} {k' i' : Nat} (n : k' ≠ k) : vu V k i x k' i' = V k' i' := vu_ne fun q => n q.1
theorem nz_nat {i : Nat} (h : i < 2147483648) : nl_nz (i : Int) = i := nx_of (by omega) (by omega)
def nl_inR (x : Int) : Prop := -2147483648 ≤ x ∧ x < 2147483648
theorem nl_suc {n d : Nat} (h : d + 1 ≤ n) : ∃ k, n = k + 1 ∧ d ≤ k := ⟨n - 1, by omega, by omega⟩
/-- a valley that stands: N bounds the nights -/
def vok (N : Int) (V : nl_O) : Prop :=
  (2 ≤ V 0 0 ∧ V 0 0 ≤ 7) ∧ (0 ≤ V 1 0 ∧ V 1 0 ≤ N) ∧ (0 ≤ V 2 0 ∧ V 2 0 ≤ 7 * N) ∧
  (∀ i : Nat, (i : Int) < V 0 0 → (0 ≤ V 3 i ∧ V 3 i ≤ 20) ∧ (0 ≤ V 4 i ∧ V 4 i ≤ 3) ∧ (0 ≤ V 5 i ∧ V 5 i ≤ 40) ∧ (0 ≤ V 6 i ∧ V 6 i ≤ 99) ∧ (0 ≤ V 7 i ∧ V 7 i ≤ 40) ∧ (0 ≤ V 8 i ∧ V 8 i < V 0 0) ∧ (0 ≤ V 9 i ∧ V 9 i ≤ N)) ∧
  (∀ i k : Nat, (i : Int) < V 0 0 → (k : Int) < V 0 0 → 0 ≤ V 10 (i * 7 + k) ∧ V 10 (i * 7 + k) ≤ N)
/-- no two houses have one hour -/
def vinj (V : nl_O) : Prop := ∀ i j : Nat, (i : Int) < V 0 0 → (j : Int) < V 0 0 → V 8 i = V 8 j → i = j
