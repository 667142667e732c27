/-! The text that NightLots() writes and lays. -/
def nt_x (j : Nat) : Int := (nj_bs.getD j 0).toInt
def nt_V (i : Nat) : nl_O := fun k j => if k = 0 then (if j < i then nt_x j else 0) else if k = 1 ∧ j = 0 then (i : Int) else 0
theorem nt_0 : nt_V 0 = nk_h0 5 0 := by
  funext k j
  show (if k = 0 then (if j < 0 then nt_x j else 0) else if k = 1 ∧ j = 0 then ((0 : Nat) : Int) else 0) = (0 : Int)
  rw [if_neg (Nat.not_lt_zero j)]
  by_cases q : k = 0
  · rw [if_pos q]
  · rw [if_neg q]
    by_cases q2 : k = 1 ∧ j = 0
    · rw [if_pos q2]; rfl
    · rw [if_neg q2]
theorem nt_s (i : Nat) : vu (vu (nt_V i) 0 i (nt_x i)) 1 0 ((i : Int) + 1) = nt_V (i + 1) := by
  funext k j
  unfold vu nt_V
  by_cases q : k = 1 ∧ j = 0
  · rw [if_pos q, if_neg (by omega), if_pos q]; rfl
  · rw [if_neg q]
    by_cases q2 : k = 0
    · rw [if_pos q2]
      by_cases q3 : j = i
      · rw [if_pos ⟨q2, q3⟩, if_pos q2, if_pos (by omega), q3]
      · rw [if_neg (by omega), if_pos q2]
        by_cases q4 : j < i
        · rw [if_pos q4, if_pos (by omega)]
        · rw [if_neg q4, if_neg (by omega)]
    · rw [if_neg (by omega), if_neg q2, if_neg q, if_neg q2, if_neg q]
theorem nt_in : ∀ j, j < 59 → 32 ≤ nt_x j ∧ nt_x j ≤ 126 ∧ nj_ch j = Int32.ofInt (nt_x j) := by decide +kernel
def nt_h (i : Nat) : nl_H := so nk_h0 5 0 (nt_V i)
theorem nt_write {LS : Int} {n i : Nat} (hn : 2 ≤ n) (hi : i < 59) : nl_c LS n m_X5_write [vO 5 0, vI (nt_x i)] (nt_h i) = some ((i : Int) + 1, nt_h (i + 1)) := by
  have b := nt_in i hi
  have c := pu_write (LS := LS) hn (h := nt_h i) (x := nt_x i) (L := i) ⟨by omega, by omega⟩ (by unfold nt_h; rw [so_at]; rfl) (by omega)
  rw [if_pos ⟨b.1, b.2.1⟩, if_pos (by omega)] at c
  rw [c]
  unfold nt_h
  rw [so_at, so_so, nt_s]
