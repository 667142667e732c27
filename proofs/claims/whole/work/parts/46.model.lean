/-! The model's valley, in the class's layout; its small methods. -/
/-- the model's object seen as a valley -/
def mv (M : nl_O) : nl_O := fun k i =>
  if k = 0 then M 0 i else if k = 1 then M 4 i else if k = 2 then M 5 i else if k = 3 then M 10 i else if k = 4 then M 1 i else if k = 5 then M 2 i
  else if k = 6 then M 3 i else if k = 7 then M 7 i else if k = 8 then M 6 i else if k = 9 then M 8 i else if k = 10 then M 9 i else 0
theorem sp_in {LS : Int} {n : Nat} (hn : 1 ≤ n) {h : nl_H} {x a b : Int} (hx : nl_inR x) (ha : nl_inR a) (hb : nl_inR b) : nl_c LS n m_X6_in [vI x, vI a, vI b] h = some (if a ≤ x ∧ x ≤ b then 1 else 0, h) := by
  obtain ⟨n, rfl, hn1⟩ := nl_suc hn
  obtain ⟨hx1, hx2⟩ := hx
  obtain ⟨ha1, ha2⟩ := ha
  obtain ⟨hb1, hb2⟩ := hb
  refine cl_X6_in (.ret ?_)
  rw [sg_X6_in_0]
  simp (disch := omega) only [nx_of]
  by_cases h1 : a ≤ x <;> by_cases h2 : x ≤ b <;> simp (disch := omega) only [if_pos, if_neg]
