/-! Equations of the abstract machine, cut to cut. -/
set_option maxRecDepth 20000 in
theorem sg_X4_settle_0 (LS : Int) (den : nl_D) (h : nl_H) (o : Nat) : nl_ex LS cd_X4_settle den ct_X4_settle 0 400 0 [some (vO 4 o), some (vO 1 0), none] [] h =
  (some (.inl (25, [some (vO 4 o), some (vO 1 0), some (vI 0)], nl_up (nl_up (nl_up h 4 o 0 0 (if nl_nz 7 < nl_nz (h 1 0 6 0) then 7 else h 1 0 6 0)) 4 o 1 0 0) 4 o 2 0 0))) := rfl
set_option maxRecDepth 20000 in
theorem sg_X4_settle_25 (LS : Int) (den : nl_D) (h : nl_H) (o : Nat) (y2 : Int) : nl_ex LS cd_X4_settle den ct_X4_settle 0 400 25 [some (vO 4 o), some (vO 1 0), some (vI y2)] [] h =
  (if nl_nz 7 ≤ nl_nz y2 then
    some (.inl (108, [some (vO 4 o), some (vO 1 0), some (vI 0)], h))
  else
    if 0 ≤ nl_nz y2 ∧ nl_nz y2 < 7 then if 0 ≤ nl_nz y2 ∧ nl_nz y2 < 7 then if 0 ≤ nl_nz y2 ∧ nl_nz y2 < 7 then if 0 ≤ nl_nz y2 ∧ nl_nz y2 < 7 then if 0 ≤ nl_nz y2 ∧ nl_nz y2 < 7 then if 0 ≤ nl_nz y2 ∧ nl_nz y2 < 7 then if 0 ≤ nl_nz y2 ∧ nl_nz y2 < 7 then if 0 ≤ nl_nz y2 ∧ nl_nz y2 < 7 then if 0 ≤ nl_nz y2 ∧ nl_nz y2 < 7 then if 0 ≤ nl_nz y2 ∧ nl_nz y2 < 7 then if 0 ≤ nl_nz y2 ∧ nl_nz y2 < 7 then some (.inl (25, [some (vO 4 o), some (vO 1 0), some (vI (y2 + 1))], nl_up (nl_up (nl_up (nl_up (nl_up (nl_up (nl_up h 4 o 3 (nl_nz y2).toNat (h 1 0 0 (nl_nz y2).toNat)) 4 o 4 (nl_nz y2).toNat ((nl_up h 4 o 3 (nl_nz y2).toNat (h 1 0 0 (nl_nz y2).toNat)) 1 0 1 (nl_nz y2).toNat)) 4 o 5 (nl_nz y2).toNat ((nl_up (nl_up h 4 o 3 (nl_nz y2).toNat (h 1 0 0 (nl_nz y2).toNat)) 4 o 4 (nl_nz y2).toNat ((nl_up h 4 o 3 (nl_nz y2).toNat (h 1 0 0 (nl_nz y2).toNat)) 1 0 1 (nl_nz y2).toNat)) 1 0 2 (nl_nz y2).toNat)) 4 o 6 (nl_nz y2).toNat ((nl_up (nl_up (nl_up h 4 o 3 (nl_nz y2).toNat (h 1 0 0 (nl_nz y2).toNat)) 4 o 4 (nl_nz y2).toNat ((nl_up h 4 o 3 (nl_nz y2).toNat (h 1 0 0 (nl_nz y2).toNat)) 1 0 1 (nl_nz y2).toNat)) 4 o 5 (nl_nz y2).toNat ((nl_up (nl_up h 4 o 3 (nl_nz y2).toNat (h 1 0 0 (nl_nz y2).toNat)) 4 o 4 (nl_nz y2).toNat ((nl_up h 4 o 3 (nl_nz y2).toNat (h 1 0 0 (nl_nz y2).toNat)) 1 0 1 (nl_nz y2).toNat)) 1 0 2 (nl_nz y2).toNat)) 1 0 3 (nl_nz y2).toNat)) 4 o 7 (nl_nz y2).toNat 0) 4 o 8 (nl_nz y2).toNat y2) 4 o 9 (nl_nz y2).toNat 0)) else none else none else none else none else none else none else none else none else none else none else none) := rfl
set_option maxRecDepth 20000 in
theorem sg_X4_settle_108 (LS : Int) (den : nl_D) (h : nl_H) (o : Nat) (y2 : Int) : nl_ex LS cd_X4_settle den ct_X4_settle 0 400 108 [some (vO 4 o), some (vO 1 0), some (vI y2)] [] h =
  (if nl_nz 49 ≤ nl_nz y2 then
    some (.inr (0, h))
  else
    if 0 ≤ nl_nz y2 ∧ nl_nz y2 < 49 then some (.inl (108, [some (vO 4 o), some (vO 1 0), some (vI (y2 + 1))], nl_up h 4 o 10 (nl_nz y2).toNat 0)) else none) := rfl
set_option maxRecDepth 20000 in
theorem sg_X4_copyFrom_0 (LS : Int) (den : nl_D) (h : nl_H) (o : Nat) (v : Nat) : nl_ex LS cd_X4_copyFrom den ct_X4_copyFrom 0 400 0 [some (vO 4 o), some (vO 4 v), none] [] h =
  (some (.inl (26, [some (vO 4 o), some (vO 4 v), some (vI 0)], nl_up (nl_up (nl_up h 4 o 0 0 (h 4 v 0 0)) 4 o 1 0 ((nl_up h 4 o 0 0 (h 4 v 0 0)) 4 v 1 0)) 4 o 2 0 ((nl_up (nl_up h 4 o 0 0 (h 4 v 0 0)) 4 o 1 0 ((nl_up h 4 o 0 0 (h 4 v 0 0)) 4 v 1 0)) 4 v 2 0)))) := rfl
set_option maxRecDepth 20000 in
theorem sg_X4_copyFrom_26 (LS : Int) (den : nl_D) (h : nl_H) (o : Nat) (v : Nat) (y2 : Int) : nl_ex LS cd_X4_copyFrom den ct_X4_copyFrom 0 400 26 [some (vO 4 o), some (vO 4 v), some (vI y2)] [] h =
  (if nl_nz 7 ≤ nl_nz y2 then
    some (.inl (124, [some (vO 4 o), some (vO 4 v), some (vI 0)], h))
  else
    if 0 ≤ nl_nz y2 ∧ nl_nz y2 < 7 then if 0 ≤ nl_nz y2 ∧ nl_nz y2 < 7 then if 0 ≤ nl_nz y2 ∧ nl_nz y2 < 7 then if 0 ≤ nl_nz y2 ∧ nl_nz y2 < 7 then if 0 ≤ nl_nz y2 ∧ nl_nz y2 < 7 then if 0 ≤ nl_nz y2 ∧ nl_nz y2 < 7 then if 0 ≤ nl_nz y2 ∧ nl_nz y2 < 7 then if 0 ≤ nl_nz y2 ∧ nl_nz y2 < 7 then if 0 ≤ nl_nz y2 ∧ nl_nz y2 < 7 then if 0 ≤ nl_nz y2 ∧ nl_nz y2 < 7 then if 0 ≤ nl_nz y2 ∧ nl_nz y2 < 7 then if 0 ≤ nl_nz y2 ∧ nl_nz y2 < 7 then if 0 ≤ nl_nz y2 ∧ nl_nz y2 < 7 then if 0 ≤ nl_nz y2 ∧ nl_nz y2 < 7 then some (.inl (26, [some (vO 4 o), some (vO 4 v), some (vI (y2 + 1))], nl_up (nl_up (nl_up (nl_up (nl_up (nl_up (nl_up h 4 o 3 (nl_nz y2).toNat (h 4 v 3 (nl_nz y2).toNat)) 4 o 4 (nl_nz y2).toNat ((nl_up h 4 o 3 (nl_nz y2).toNat (h 4 v 3 (nl_nz y2).toNat)) 4 v 4 (nl_nz y2).toNat)) 4 o 5 (nl_nz y2).toNat ((nl_up (nl_up h 4 o 3 (nl_nz y2).toNat (h 4 v 3 (nl_nz y2).toNat)) 4 o 4 (nl_nz y2).toNat ((nl_up h 4 o 3 (nl_nz y2).toNat (h 4 v 3 (nl_nz y2).toNat)) 4 v 4 (nl_nz y2).toNat)) 4 v 5 (nl_nz y2).toNat)) 4 o 6 (nl_nz y2).toNat ((nl_up (nl_up (nl_up h 4 o 3 (nl_nz y2).toNat (h 4 v 3 (nl_nz y2).toNat)) 4 o 4 (nl_nz y2).toNat ((nl_up h 4 o 3 (nl_nz y2).toNat (h 4 v 3 (nl_nz y2).toNat)) 4 v 4 (nl_nz y2).toNat)) 4 o 5 (nl_nz y2).toNat ((nl_up (nl_up h 4 o 3 (nl_nz y2).toNat (h 4 v 3 (nl_nz y2).toNat)) 4 o 4 (nl_nz y2).toNat ((nl_up h 4 o 3 (nl_nz y2).toNat (h 4 v 3 (nl_nz y2).toNat)) 4 v 4 (nl_nz y2).toNat)) 4 v 5 (nl_nz y2).toNat)) 4 v 6 (nl_nz y2).toNat)) 4 o 7 (nl_nz y2).toNat ((nl_up (nl_up (nl_up (nl_up h 4 o 3 (nl_nz y2).toNat (h 4 v 3 (nl_nz y2).toNat)) 4 o 4 (nl_nz y2).toNat ((nl_up h 4 o 3 (nl_nz y2).toNat (h 4 v 3 (nl_nz y2).toNat)) 4 v 4 (nl_nz y2).toNat)) 4 o 5 (nl_nz y2).toNat ((nl_up (nl_up h 4 o 3 (nl_nz y2).toNat (h 4 v 3 (nl_nz y2).toNat)) 4 o 4 (nl_nz y2).toNat ((nl_up h 4 o 3 (nl_nz y2).toNat (h 4 v 3 (nl_nz y2).toNat)) 4 v 4 (nl_nz y2).toNat)) 4 v 5 (nl_nz y2).toNat)) 4 o 6 (nl_nz y2).toNat ((nl_up (nl_up (nl_up h 4 o 3 (nl_nz y2).toNat (h 4 v 3 (nl_nz y2).toNat)) 4 o 4 (nl_nz y2).toNat ((nl_up h 4 o 3 (nl_nz y2).toNat (h 4 v 3 (nl_nz y2).toNat)) 4 v 4 (nl_nz y2).toNat)) 4 o 5 (nl_nz y2).toNat ((nl_up (nl_up h 4 o 3 (nl_nz y2).toNat (h 4 v 3 (nl_nz y2).toNat)) 4 o 4 (nl_nz y2).toNat ((nl_up h 4 o 3 (nl_nz y2).toNat (h 4 v 3 (nl_nz y2).toNat)) 4 v 4 (nl_nz y2).toNat)) 4 v 5 (nl_nz y2).toNat)) 4 v 6 (nl_nz y2).toNat)) 4 v 7 (nl_nz y2).toNat)) 4 o 8 (nl_nz y2).toNat ((nl_up (nl_up (nl_up (nl_up (nl_up h 4 o 3 (nl_nz y2).toNat (h 4 v 3 (nl_nz y2).toNat)) 4 o 4 (nl_nz y2).toNat ((nl_up h 4 o 3 (nl_nz y2).toNat (h 4 v 3 (nl_nz y2).toNat)) 4 v 4 (nl_nz y2).toNat)) 4 o 5 (nl_nz y2).toNat ((nl_up (nl_up h 4 o 3 (nl_nz y2).toNat (h 4 v 3 (nl_nz y2).toNat)) 4 o 4 (nl_nz y2).toNat ((nl_up h 4 o 3 (nl_nz y2).toNat (h 4 v 3 (nl_nz y2).toNat)) 4 v 4 (nl_nz y2).toNat)) 4 v 5 (nl_nz y2).toNat)) 4 o 6 (nl_nz y2).toNat ((nl_up (nl_up (nl_up h 4 o 3 (nl_nz y2).toNat (h 4 v 3 (nl_nz y2).toNat)) 4 o 4 (nl_nz y2).toNat ((nl_up h 4 o 3 (nl_nz y2).toNat (h 4 v 3 (nl_nz y2).toNat)) 4 v 4 (nl_nz y2).toNat)) 4 o 5 (nl_nz y2).toNat ((nl_up (nl_up h 4 o 3 (nl_nz y2).toNat (h 4 v 3 (nl_nz y2).toNat)) 4 o 4 (nl_nz y2).toNat ((nl_up h 4 o 3 (nl_nz y2).toNat (h 4 v 3 (nl_nz y2).toNat)) 4 v 4 (nl_nz y2).toNat)) 4 v 5 (nl_nz y2).toNat)) 4 v 6 (nl_nz y2).toNat)) 4 o 7 (nl_nz y2).toNat ((nl_up (nl_up (nl_up (nl_up h 4 o 3 (nl_nz y2).toNat (h 4 v 3 (nl_nz y2).toNat)) 4 o 4 (nl_nz y2).toNat ((nl_up h 4 o 3 (nl_nz y2).toNat (h 4 v 3 (nl_nz y2).toNat)) 4 v 4 (nl_nz y2).toNat)) 4 o 5 (nl_nz y2).toNat ((nl_up (nl_up h 4 o 3 (nl_nz y2).toNat (h 4 v 3 (nl_nz y2).toNat)) 4 o 4 (nl_nz y2).toNat ((nl_up h 4 o 3 (nl_nz y2).toNat (h 4 v 3 (nl_nz y2).toNat)) 4 v 4 (nl_nz y2).toNat)) 4 v 5 (nl_nz y2).toNat)) 4 o 6 (nl_nz y2).toNat ((nl_up (nl_up (nl_up h 4 o 3 (nl_nz y2).toNat (h 4 v 3 (nl_nz y2).toNat)) 4 o 4 (nl_nz y2).toNat ((nl_up h 4 o 3 (nl_nz y2).toNat (h 4 v 3 (nl_nz y2).toNat)) 4 v 4 (nl_nz y2).toNat)) 4 o 5 (nl_nz y2).toNat ((nl_up (nl_up h 4 o 3 (nl_nz y2).toNat (h 4 v 3 (nl_nz y2).toNat)) 4 o 4 (nl_nz y2).toNat ((nl_up h 4 o 3 (nl_nz y2).toNat (h 4 v 3 (nl_nz y2).toNat)) 4 v 4 (nl_nz y2).toNat)) 4 v 5 (nl_nz y2).toNat)) 4 v 6 (nl_nz y2).toNat)) 4 v 7 (nl_nz y2).toNat)) 4 v 8 (nl_nz y2).toNat)) 4 o 9 (nl_nz y2).toNat ((nl_up (nl_up (nl_up (nl_up (nl_up (nl_up h 4 o 3 (nl_nz y2).toNat (h 4 v 3 (nl_nz y2).toNat)) 4 o 4 (nl_nz y2).toNat ((nl_up h 4 o 3 (nl_nz y2).toNat (h 4 v 3 (nl_nz y2).toNat)) 4 v 4 (nl_nz y2).toNat)) 4 o 5 (nl_nz y2).toNat ((nl_up (nl_up h 4 o 3 (nl_nz y2).toNat (h 4 v 3 (nl_nz y2).toNat)) 4 o 4 (nl_nz y2).toNat ((nl_up h 4 o 3 (nl_nz y2).toNat (h 4 v 3 (nl_nz y2).toNat)) 4 v 4 (nl_nz y2).toNat)) 4 v 5 (nl_nz y2).toNat)) 4 o 6 (nl_nz y2).toNat ((nl_up (nl_up (nl_up h 4 o 3 (nl_nz y2).toNat (h 4 v 3 (nl_nz y2).toNat)) 4 o 4 (nl_nz y2).toNat ((nl_up h 4 o 3 (nl_nz y2).toNat (h 4 v 3 (nl_nz y2).toNat)) 4 v 4 (nl_nz y2).toNat)) 4 o 5 (nl_nz y2).toNat ((nl_up (nl_up h 4 o 3 (nl_nz y2).toNat (h 4 v 3 (nl_nz y2).toNat)) 4 o 4 (nl_nz y2).toNat ((nl_up h 4 o 3 (nl_nz y2).toNat (h 4 v 3 (nl_nz y2).toNat)) 4 v 4 (nl_nz y2).toNat)) 4 v 5 (nl_nz y2).toNat)) 4 v 6 (nl_nz y2).toNat)) 4 o 7 (nl_nz y2).toNat ((nl_up (nl_up (nl_up (nl_up h 4 o 3 (nl_nz y2).toNat (h 4 v 3 (nl_nz y2).toNat)) 4 o 4 (nl_nz y2).toNat ((nl_up h 4 o 3 (nl_nz y2).toNat (h 4 v 3 (nl_nz y2).toNat)) 4 v 4 (nl_nz y2).toNat)) 4 o 5 (nl_nz y2).toNat ((nl_up (nl_up h 4 o 3 (nl_nz y2).toNat (h 4 v 3 (nl_nz y2).toNat)) 4 o 4 (nl_nz y2).toNat ((nl_up h 4 o 3 (nl_nz y2).toNat (h 4 v 3 (nl_nz y2).toNat)) 4 v 4 (nl_nz y2).toNat)) 4 v 5 (nl_nz y2).toNat)) 4 o 6 (nl_nz y2).toNat ((nl_up (nl_up (nl_up h 4 o 3 (nl_nz y2).toNat (h 4 v 3 (nl_nz y2).toNat)) 4 o 4 (nl_nz y2).toNat ((nl_up h 4 o 3 (nl_nz y2).toNat (h 4 v 3 (nl_nz y2).toNat)) 4 v 4 (nl_nz y2).toNat)) 4 o 5 (nl_nz y2).toNat ((nl_up (nl_up h 4 o 3 (nl_nz y2).toNat (h 4 v 3 (nl_nz y2).toNat)) 4 o 4 (nl_nz y2).toNat ((nl_up h 4 o 3 (nl_nz y2).toNat (h 4 v 3 (nl_nz y2).toNat)) 4 v 4 (nl_nz y2).toNat)) 4 v 5 (nl_nz y2).toNat)) 4 v 6 (nl_nz y2).toNat)) 4 v 7 (nl_nz y2).toNat)) 4 o 8 (nl_nz y2).toNat ((nl_up (nl_up (nl_up (nl_up (nl_up h 4 o 3 (nl_nz y2).toNat (h 4 v 3 (nl_nz y2).toNat)) 4 o 4 (nl_nz y2).toNat ((nl_up h 4 o 3 (nl_nz y2).toNat (h 4 v 3 (nl_nz y2).toNat)) 4 v 4 (nl_nz y2).toNat)) 4 o 5 (nl_nz y2).toNat ((nl_up (nl_up h 4 o 3 (nl_nz y2).toNat (h 4 v 3 (nl_nz y2).toNat)) 4 o 4 (nl_nz y2).toNat ((nl_up h 4 o 3 (nl_nz y2).toNat (h 4 v 3 (nl_nz y2).toNat)) 4 v 4 (nl_nz y2).toNat)) 4 v 5 (nl_nz y2).toNat)) 4 o 6 (nl_nz y2).toNat ((nl_up (nl_up (nl_up h 4 o 3 (nl_nz y2).toNat (h 4 v 3 (nl_nz y2).toNat)) 4 o 4 (nl_nz y2).toNat ((nl_up h 4 o 3 (nl_nz y2).toNat (h 4 v 3 (nl_nz y2).toNat)) 4 v 4 (nl_nz y2).toNat)) 4 o 5 (nl_nz y2).toNat ((nl_up (nl_up h 4 o 3 (nl_nz y2).toNat (h 4 v 3 (nl_nz y2).toNat)) 4 o 4 (nl_nz y2).toNat ((nl_up h 4 o 3 (nl_nz y2).toNat (h 4 v 3 (nl_nz y2).toNat)) 4 v 4 (nl_nz y2).toNat)) 4 v 5 (nl_nz y2).toNat)) 4 v 6 (nl_nz y2).toNat)) 4 o 7 (nl_nz y2).toNat ((nl_up (nl_up (nl_up (nl_up h 4 o 3 (nl_nz y2).toNat (h 4 v 3 (nl_nz y2).toNat)) 4 o 4 (nl_nz y2).toNat ((nl_up h 4 o 3 (nl_nz y2).toNat (h 4 v 3 (nl_nz y2).toNat)) 4 v 4 (nl_nz y2).toNat)) 4 o 5 (nl_nz y2).toNat ((nl_up (nl_up h 4 o 3 (nl_nz y2).toNat (h 4 v 3 (nl_nz y2).toNat)) 4 o 4 (nl_nz y2).toNat ((nl_up h 4 o 3 (nl_nz y2).toNat (h 4 v 3 (nl_nz y2).toNat)) 4 v 4 (nl_nz y2).toNat)) 4 v 5 (nl_nz y2).toNat)) 4 o 6 (nl_nz y2).toNat ((nl_up (nl_up (nl_up h 4 o 3 (nl_nz y2).toNat (h 4 v 3 (nl_nz y2).toNat)) 4 o 4 (nl_nz y2).toNat ((nl_up h 4 o 3 (nl_nz y2).toNat (h 4 v 3 (nl_nz y2).toNat)) 4 v 4 (nl_nz y2).toNat)) 4 o 5 (nl_nz y2).toNat ((nl_up (nl_up h 4 o 3 (nl_nz y2).toNat (h 4 v 3 (nl_nz y2).toNat)) 4 o 4 (nl_nz y2).toNat ((nl_up h 4 o 3 (nl_nz y2).toNat (h 4 v 3 (nl_nz y2).toNat)) 4 v 4 (nl_nz y2).toNat)) 4 v 5 (nl_nz y2).toNat)) 4 v 6 (nl_nz y2).toNat)) 4 v 7 (nl_nz y2).toNat)) 4 v 8 (nl_nz y2).toNat)) 4 v 9 (nl_nz y2).toNat))) else none else none else none else none else none else none else none else none else none else none else none else none else none else none) := rfl
set_option maxRecDepth 20000 in
theorem sg_X4_copyFrom_124 (LS : Int) (den : nl_D) (h : nl_H) (o : Nat) (v : Nat) (y2 : Int) : nl_ex LS cd_X4_copyFrom den ct_X4_copyFrom 0 400 124 [some (vO 4 o), some (vO 4 v), some (vI y2)] [] h =
  (if nl_nz 49 ≤ nl_nz y2 then
    some (.inr (0, h))
  else
    if 0 ≤ nl_nz y2 ∧ nl_nz y2 < 49 then if 0 ≤ nl_nz y2 ∧ nl_nz y2 < 49 then some (.inl (124, [some (vO 4 o), some (vO 4 v), some (vI (y2 + 1))], nl_up h 4 o 10 (nl_nz y2).toNat (h 4 v 10 (nl_nz y2).toNat))) else none else none) := rfl
set_option maxRecDepth 20000 in
theorem sg_X4_isHouse_0 (LS : Int) (den : nl_D) (h : nl_H) (o : Nat) (x1 : Int) : nl_ex LS cd_X4_isHouse den ct_X4_isHouse 3 400 0 [some (vO 4 o), some (vI x1)] [] h =
  (if nl_nz x1 < 0 then
    some (.inr (0, h))
  else
    if nl_nz (h 4 o 0 0) ≤ nl_nz x1 then
      some (.inr (0, h))
    else
      some (.inr (1, h))) := rfl
set_option maxRecDepth 20000 in
theorem sg_X4_isHour_0 (LS : Int) (den : nl_D) (h : nl_H) (o : Nat) (x1 : Int) : nl_ex LS cd_X4_isHour den ct_X4_isHour 3 400 0 [some (vO 4 o), some (vI x1)] [] h =
  (if nl_nz x1 < 0 then
    some (.inr (0, h))
  else
    if nl_nz (h 4 o 0 0) ≤ nl_nz x1 then
      some (.inr (0, h))
    else
      some (.inr (1, h))) := rfl
set_option maxRecDepth 20000 in
theorem sg_X4_houseWith_0 (LS : Int) (den : nl_D) (h : nl_H) (o : Nat) (x1 : Int) : nl_ex LS cd_X4_houseWith den ct_X4_houseWith 1 400 0 [some (vO 4 o), some (vI x1), none] [] h =
  (some (.inl (2, [some (vO 4 o), some (vI x1), some (vI 0)], h))) := rfl
set_option maxRecDepth 20000 in
theorem sg_X4_houseWith_2 (LS : Int) (den : nl_D) (h : nl_H) (o : Nat) (y1 : Int) (y2 : Int) : nl_ex LS cd_X4_houseWith den ct_X4_houseWith 1 400 2 [some (vO 4 o), some (vI y1), some (vI y2)] [] h =
  (if nl_nz (h 4 o 0 0) ≤ nl_nz y2 then
    some (.inr ((-1), h))
  else
    if 0 ≤ nl_nz y2 ∧ nl_nz y2 < 7 then
      if nl_nz (h 4 o 8 (nl_nz y2).toNat) = nl_nz y1 then
        some (.inr (y2, h))
      else
        some (.inl (2, [some (vO 4 o), some (vI y1), some (vI (y2 + 1))], h))
    else none) := rfl
set_option maxRecDepth 20000 in
theorem sg_X4_timesHad_0 (LS : Int) (den : nl_D) (h : nl_H) (o : Nat) (x1 : Int) (x2 : Int) : nl_ex LS cd_X4_timesHad den ct_X4_timesHad 1 400 0 [some (vO 4 o), some (vI x1), some (vI x2)] [] h =
  (if 0 ≤ nl_nz ((x1 * 7) + x2) ∧ nl_nz ((x1 * 7) + x2) < 49 then some (.inr (h 4 o 10 (nl_nz ((x1 * 7) + x2)).toNat, h)) else none) := rfl
set_option maxRecDepth 20000 in
theorem sg_X4_heaviness_0 (LS : Int) (den : nl_D) (h : nl_H) (o : Nat) (x1 : Int) (x2 : Int) : nl_ex LS cd_X4_heaviness den ct_X4_heaviness 1 400 0 [some (vO 4 o), some (vI x1), some (vI x2), none] [] h =
  (if 0 ≤ nl_nz x2 ∧ nl_nz x2 < 7 then
    if 0 ≤ nl_nz x1 ∧ nl_nz x1 < 7 then
      if nl_nz (h 4 o 4 (nl_nz x1).toNat) = 1 then
        some (.inr (2 * (h 4 o 3 (nl_nz x2).toNat), h))
      else
        if nl_nz (h 4 o 4 (nl_nz x1).toNat) = 1 + 1 then
          (den m_X4_hourHadMost [vO 4 o, vI x1] h).bind fun r1 =>
            if nl_nz x2 = nl_nz r1.1 then
              if nl_nz 2 = 0 then none else
                some (.inr ((nl_nz (h 4 o 3 (nl_nz x2).toNat)).tdiv (nl_nz 2), r1.2))
            else
              some (.inr (h 4 o 3 (nl_nz x2).toNat, r1.2))
        else
          if nl_nz (h 4 o 4 (nl_nz x1).toNat) = 1 + 1 + 1 then
            if nl_nz x2 = 0 then
              some (.inr (if nl_nz ((h 4 o 3 (nl_nz x2).toNat) - 3) < nl_nz 0 then 0 else (h 4 o 3 (nl_nz x2).toNat) - 3, h))
            else
              if nl_nz x2 = nl_nz ((h 4 o 0 0) - 1) then
                some (.inr (if nl_nz ((h 4 o 3 (nl_nz x2).toNat) - 3) < nl_nz 0 then 0 else (h 4 o 3 (nl_nz x2).toNat) - 3, h))
              else
                some (.inr (h 4 o 3 (nl_nz x2).toNat, h))
          else
            some (.inr (h 4 o 3 (nl_nz x2).toNat, h))
    else none
  else none) := rfl
set_option maxRecDepth 20000 in
theorem sg_X4_hourHadMost_0 (LS : Int) (den : nl_D) (h : nl_H) (o : Nat) (x1 : Int) : nl_ex LS cd_X4_hourHadMost den ct_X4_hourHadMost 1 400 0 [some (vO 4 o), some (vI x1), none, none, none, none] [] h =
  (some (.inl (7, [some (vO 4 o), some (vI x1), some (vI 0), some (vI ((-1))), some (vI 0), none], h))) := rfl
set_option maxRecDepth 20000 in
theorem sg_X4_hourHadMost_7 (LS : Int) (den : nl_D) (h : nl_H) (o : Nat) (y1 : Int) (y2 : Int) (y3 : Int) (y4 : Int) (w5 : Option nl_V) : nl_ex LS cd_X4_hourHadMost den ct_X4_hourHadMost 1 400 7 [some (vO 4 o), some (vI y1), some (vI y2), some (vI y3), some (vI y4), w5] [] h =
  (if nl_nz (h 4 o 0 0) ≤ nl_nz y4 then
    some (.inr (y3, h))
  else
    if 0 ≤ nl_nz ((y1 * 7) + y4) ∧ nl_nz ((y1 * 7) + y4) < 49 then
      if nl_nz (h 4 o 10 (nl_nz ((y1 * 7) + y4)).toNat) ≤ nl_nz y2 then
        some (.inl (7, [some (vO 4 o), some (vI y1), some (vI y2), some (vI y3), some (vI (y4 + 1)), some (vI (h 4 o 10 (nl_nz ((y1 * 7) + y4)).toNat))], h))
      else
        some (.inl (7, [some (vO 4 o), some (vI y1), some (vI (h 4 o 10 (nl_nz ((y1 * 7) + y4)).toNat)), some (vI y4), some (vI (y4 + 1)), some (vI (h 4 o 10 (nl_nz ((y1 * 7) + y4)).toNat))], h))
    else none) := rfl
set_option maxRecDepth 20000 in
theorem sg_X4_wouldKeep_0 (LS : Int) (den : nl_D) (h : nl_H) (o : Nat) (x1 : Int) (x2 : Int) (x3 : Int) : nl_ex LS cd_X4_wouldKeep den ct_X4_wouldKeep 3 400 0 [some (vO 4 o), some (vI x1), some (vI x2), some (vI x3)] [] h =
  ((den m_X4_heaviness [vO 4 o, vI x1, vI x2] h).bind fun r1 =>
    if 0 ≤ nl_nz x1 ∧ nl_nz x1 < 7 then
      if nl_nz ((r1.2 4 o 5 (nl_nz x1).toNat) - x3) < nl_nz r1.1 then
        some (.inr (0, r1.2))
      else
        some (.inr (1, r1.2))
    else none) := rfl
set_option maxRecDepth 20000 in
theorem sg_X4_isGapAt_0 (LS : Int) (den : nl_D) (h : nl_H) (o : Nat) (x1 : Int) : nl_ex LS cd_X4_isGapAt den ct_X4_isGapAt 3 400 0 [some (vO 4 o), some (vI x1), none] [] h =
  ((den m_X4_houseWith [vO 4 o, vI x1] h).bind fun r1 =>
    if nl_nz r1.1 = nl_nz ((-1)) then
      some (.inr (0, r1.2))
    else
      if 0 ≤ nl_nz r1.1 ∧ nl_nz r1.1 < 7 then
        (den m_X4_wouldKeep [vO 4 o, vI r1.1, vI x1, vI (r1.2 4 o 7 (nl_nz r1.1).toNat)] r1.2).bind fun r2 =>
          if nl_nz r2.1 = 0 then
            some (.inr (1, r2.2))
          else
            some (.inr (0, r2.2))
      else none) := rfl
set_option maxRecDepth 20000 in
theorem sg_X4_seeThrough_0 (LS : Int) (den : nl_D) (h : nl_H) (o : Nat) (x1 : Int) : nl_ex LS cd_X4_seeThrough den ct_X4_seeThrough 3 400 0 [some (vO 4 o), some (vI x1), none, none] [] h =
  (if 0 ≤ nl_nz x1 ∧ nl_nz x1 < 7 then
    (den m_X4_isHour [vO 4 o, vI (h 4 o 8 (nl_nz x1).toNat)] h).bind fun r1 =>
      if nl_nz r1.1 = 0 then
        some (.inr (1, r1.2))
      else
        if 0 ≤ nl_nz x1 ∧ nl_nz x1 < 7 then
          (den m_X4_wouldKeep [vO 4 o, vI x1, vI (h 4 o 8 (nl_nz x1).toNat), vI (r1.2 4 o 7 (nl_nz x1).toNat)] r1.2).bind fun r2 =>
            if nl_nz r2.1 = 0 then
              if 0 ≤ nl_nz x1 ∧ nl_nz x1 < 7 then
                if 0 ≤ nl_nz x1 ∧ nl_nz x1 < 7 then
                  if 0 ≤ nl_nz x1 ∧ nl_nz x1 < 7 then
                    if 0 ≤ nl_nz x1 ∧ nl_nz x1 < 7 then
                      if 0 ≤ nl_nz ((x1 * 7) + (h 4 o 8 (nl_nz x1).toNat)) ∧ nl_nz ((x1 * 7) + (h 4 o 8 (nl_nz x1).toNat)) < 49 then
                        if 0 ≤ nl_nz ((x1 * 7) + (h 4 o 8 (nl_nz x1).toNat)) ∧ nl_nz ((x1 * 7) + (h 4 o 8 (nl_nz x1).toNat)) < 49 then
                          if nl_nz ((nl_up (nl_up (nl_up r2.2 4 o 7 (nl_nz x1).toNat (if nl_nz ((r2.2 4 o 7 (nl_nz x1).toNat) - 3) < nl_nz 0 then 0 else (r2.2 4 o 7 (nl_nz x1).toNat) - 3)) 4 o 9 (nl_nz x1).toNat (((nl_up r2.2 4 o 7 (nl_nz x1).toNat (if nl_nz ((r2.2 4 o 7 (nl_nz x1).toNat) - 3) < nl_nz 0 then 0 else (r2.2 4 o 7 (nl_nz x1).toNat) - 3)) 4 o 9 (nl_nz x1).toNat) + 1)) 4 o 10 (nl_nz ((x1 * 7) + (h 4 o 8 (nl_nz x1).toNat))).toNat (((nl_up (nl_up r2.2 4 o 7 (nl_nz x1).toNat (if nl_nz ((r2.2 4 o 7 (nl_nz x1).toNat) - 3) < nl_nz 0 then 0 else (r2.2 4 o 7 (nl_nz x1).toNat) - 3)) 4 o 9 (nl_nz x1).toNat (((nl_up r2.2 4 o 7 (nl_nz x1).toNat (if nl_nz ((r2.2 4 o 7 (nl_nz x1).toNat) - 3) < nl_nz 0 then 0 else (r2.2 4 o 7 (nl_nz x1).toNat) - 3)) 4 o 9 (nl_nz x1).toNat) + 1)) 4 o 10 (nl_nz ((x1 * 7) + (h 4 o 8 (nl_nz x1).toNat))).toNat) + 1)) 4 o 0 0) ≤ nl_nz ((h 4 o 8 (nl_nz x1).toNat) + 1) then
                            if 0 ≤ nl_nz x1 ∧ nl_nz x1 < 7 then if r2.1 = 0 ∨ r2.1 = 1 then some (.inr (r2.1, nl_up (nl_up (nl_up (nl_up r2.2 4 o 7 (nl_nz x1).toNat (if nl_nz ((r2.2 4 o 7 (nl_nz x1).toNat) - 3) < nl_nz 0 then 0 else (r2.2 4 o 7 (nl_nz x1).toNat) - 3)) 4 o 9 (nl_nz x1).toNat (((nl_up r2.2 4 o 7 (nl_nz x1).toNat (if nl_nz ((r2.2 4 o 7 (nl_nz x1).toNat) - 3) < nl_nz 0 then 0 else (r2.2 4 o 7 (nl_nz x1).toNat) - 3)) 4 o 9 (nl_nz x1).toNat) + 1)) 4 o 10 (nl_nz ((x1 * 7) + (h 4 o 8 (nl_nz x1).toNat))).toNat (((nl_up (nl_up r2.2 4 o 7 (nl_nz x1).toNat (if nl_nz ((r2.2 4 o 7 (nl_nz x1).toNat) - 3) < nl_nz 0 then 0 else (r2.2 4 o 7 (nl_nz x1).toNat) - 3)) 4 o 9 (nl_nz x1).toNat (((nl_up r2.2 4 o 7 (nl_nz x1).toNat (if nl_nz ((r2.2 4 o 7 (nl_nz x1).toNat) - 3) < nl_nz 0 then 0 else (r2.2 4 o 7 (nl_nz x1).toNat) - 3)) 4 o 9 (nl_nz x1).toNat) + 1)) 4 o 10 (nl_nz ((x1 * 7) + (h 4 o 8 (nl_nz x1).toNat))).toNat) + 1)) 4 o 8 (nl_nz x1).toNat 0)) else none else none
                          else
                            if 0 ≤ nl_nz x1 ∧ nl_nz x1 < 7 then if r2.1 = 0 ∨ r2.1 = 1 then some (.inr (r2.1, nl_up (nl_up (nl_up (nl_up r2.2 4 o 7 (nl_nz x1).toNat (if nl_nz ((r2.2 4 o 7 (nl_nz x1).toNat) - 3) < nl_nz 0 then 0 else (r2.2 4 o 7 (nl_nz x1).toNat) - 3)) 4 o 9 (nl_nz x1).toNat (((nl_up r2.2 4 o 7 (nl_nz x1).toNat (if nl_nz ((r2.2 4 o 7 (nl_nz x1).toNat) - 3) < nl_nz 0 then 0 else (r2.2 4 o 7 (nl_nz x1).toNat) - 3)) 4 o 9 (nl_nz x1).toNat) + 1)) 4 o 10 (nl_nz ((x1 * 7) + (h 4 o 8 (nl_nz x1).toNat))).toNat (((nl_up (nl_up r2.2 4 o 7 (nl_nz x1).toNat (if nl_nz ((r2.2 4 o 7 (nl_nz x1).toNat) - 3) < nl_nz 0 then 0 else (r2.2 4 o 7 (nl_nz x1).toNat) - 3)) 4 o 9 (nl_nz x1).toNat (((nl_up r2.2 4 o 7 (nl_nz x1).toNat (if nl_nz ((r2.2 4 o 7 (nl_nz x1).toNat) - 3) < nl_nz 0 then 0 else (r2.2 4 o 7 (nl_nz x1).toNat) - 3)) 4 o 9 (nl_nz x1).toNat) + 1)) 4 o 10 (nl_nz ((x1 * 7) + (h 4 o 8 (nl_nz x1).toNat))).toNat) + 1)) 4 o 8 (nl_nz x1).toNat ((h 4 o 8 (nl_nz x1).toNat) + 1))) else none else none
                        else none
                      else none
                    else none
                  else none
                else none
              else none
            else
              if 0 ≤ nl_nz x1 ∧ nl_nz x1 < 7 then
                if 0 ≤ nl_nz x1 ∧ nl_nz x1 < 7 then
                  if 0 ≤ nl_nz ((x1 * 7) + (h 4 o 8 (nl_nz x1).toNat)) ∧ nl_nz ((x1 * 7) + (h 4 o 8 (nl_nz x1).toNat)) < 49 then
                    if 0 ≤ nl_nz ((x1 * 7) + (h 4 o 8 (nl_nz x1).toNat)) ∧ nl_nz ((x1 * 7) + (h 4 o 8 (nl_nz x1).toNat)) < 49 then
                      if nl_nz ((nl_up (nl_up r2.2 4 o 7 (nl_nz x1).toNat (if nl_nz 40 < nl_nz ((r2.2 4 o 7 (nl_nz x1).toNat) + 2) then 40 else (r2.2 4 o 7 (nl_nz x1).toNat) + 2)) 4 o 10 (nl_nz ((x1 * 7) + (h 4 o 8 (nl_nz x1).toNat))).toNat (((nl_up r2.2 4 o 7 (nl_nz x1).toNat (if nl_nz 40 < nl_nz ((r2.2 4 o 7 (nl_nz x1).toNat) + 2) then 40 else (r2.2 4 o 7 (nl_nz x1).toNat) + 2)) 4 o 10 (nl_nz ((x1 * 7) + (h 4 o 8 (nl_nz x1).toNat))).toNat) + 1)) 4 o 0 0) ≤ nl_nz ((h 4 o 8 (nl_nz x1).toNat) + 1) then
                        if 0 ≤ nl_nz x1 ∧ nl_nz x1 < 7 then if r2.1 = 0 ∨ r2.1 = 1 then some (.inr (r2.1, nl_up (nl_up (nl_up r2.2 4 o 7 (nl_nz x1).toNat (if nl_nz 40 < nl_nz ((r2.2 4 o 7 (nl_nz x1).toNat) + 2) then 40 else (r2.2 4 o 7 (nl_nz x1).toNat) + 2)) 4 o 10 (nl_nz ((x1 * 7) + (h 4 o 8 (nl_nz x1).toNat))).toNat (((nl_up r2.2 4 o 7 (nl_nz x1).toNat (if nl_nz 40 < nl_nz ((r2.2 4 o 7 (nl_nz x1).toNat) + 2) then 40 else (r2.2 4 o 7 (nl_nz x1).toNat) + 2)) 4 o 10 (nl_nz ((x1 * 7) + (h 4 o 8 (nl_nz x1).toNat))).toNat) + 1)) 4 o 8 (nl_nz x1).toNat 0)) else none else none
                      else
                        if 0 ≤ nl_nz x1 ∧ nl_nz x1 < 7 then if r2.1 = 0 ∨ r2.1 = 1 then some (.inr (r2.1, nl_up (nl_up (nl_up r2.2 4 o 7 (nl_nz x1).toNat (if nl_nz 40 < nl_nz ((r2.2 4 o 7 (nl_nz x1).toNat) + 2) then 40 else (r2.2 4 o 7 (nl_nz x1).toNat) + 2)) 4 o 10 (nl_nz ((x1 * 7) + (h 4 o 8 (nl_nz x1).toNat))).toNat (((nl_up r2.2 4 o 7 (nl_nz x1).toNat (if nl_nz 40 < nl_nz ((r2.2 4 o 7 (nl_nz x1).toNat) + 2) then 40 else (r2.2 4 o 7 (nl_nz x1).toNat) + 2)) 4 o 10 (nl_nz ((x1 * 7) + (h 4 o 8 (nl_nz x1).toNat))).toNat) + 1)) 4 o 8 (nl_nz x1).toNat ((h 4 o 8 (nl_nz x1).toNat) + 1))) else none else none
                    else none
                  else none
                else none
              else none
        else none
  else none) := rfl
set_option maxRecDepth 20000 in
theorem sg_X4_letNightsPass_0 (LS : Int) (den : nl_D) (h : nl_H) (o : Nat) (x1 : Int) : nl_ex LS cd_X4_letNightsPass den ct_X4_letNightsPass 1 400 0 [some (vO 4 o), some (vI x1), none, none, none] [] h =
  (some (.inl (4, [some (vO 4 o), some (vI x1), some (vI 0), some (vI 0), none], h))) := rfl
set_option maxRecDepth 20000 in
theorem sg_X4_letNightsPass_4 (LS : Int) (den : nl_D) (h : nl_H) (o : Nat) (y1 : Int) (y2 : Int) (y3 : Int) (w4 : Option nl_V) : nl_ex LS cd_X4_letNightsPass den ct_X4_letNightsPass 1 400 4 [some (vO 4 o), some (vI y1), some (vI y2), some (vI y3), w4] [] h =
  (if nl_nz y1 ≤ nl_nz y3 then
    some (.inr (y2, nl_up h 4 o 2 0 ((h 4 o 2 0) + y2)))
  else
    some (.inl (12, [some (vO 4 o), some (vI y1), some (vI y2), some (vI y3), some (vI 0)], h))) := rfl
set_option maxRecDepth 20000 in
theorem sg_X4_letNightsPass_12 (LS : Int) (den : nl_D) (h : nl_H) (o : Nat) (y1 : Int) (y2 : Int) (y3 : Int) (y4 : Int) : nl_ex LS cd_X4_letNightsPass den ct_X4_letNightsPass 1 400 12 [some (vO 4 o), some (vI y1), some (vI y2), some (vI y3), some (vI y4)] [] h =
  (if nl_nz (h 4 o 0 0) ≤ nl_nz y4 then
    some (.inl (4, [some (vO 4 o), some (vI y1), some (vI y2), some (vI (y3 + 1)), some (vI y4)], nl_up h 4 o 1 0 ((h 4 o 1 0) + 1)))
  else
    (den m_X4_seeThrough [vO 4 o, vI y4] h).bind fun r1 =>
      if nl_nz r1.1 = 0 then
        some (.inl (12, [some (vO 4 o), some (vI y1), some (vI (y2 + 1)), some (vI y3), some (vI (y4 + 1))], r1.2))
      else
        some (.inl (12, [some (vO 4 o), some (vI y1), some (vI (y2 + 0)), some (vI y3), some (vI (y4 + 1))], r1.2))) := rfl
set_option maxRecDepth 20000 in
theorem sg_X4_trade_0 (LS : Int) (den : nl_D) (h : nl_H) (o : Nat) (x1 : Int) (x2 : Int) : nl_ex LS cd_X4_trade den ct_X4_trade 0 400 0 [some (vO 4 o), some (vI x1), some (vI x2), none] [] h =
  (if 0 ≤ nl_nz x1 ∧ nl_nz x1 < 7 then if 0 ≤ nl_nz x2 ∧ nl_nz x2 < 7 then if 0 ≤ nl_nz x1 ∧ nl_nz x1 < 7 then if 0 ≤ nl_nz x2 ∧ nl_nz x2 < 7 then some (.inr (0, nl_up (nl_up h 4 o 8 (nl_nz x1).toNat (h 4 o 8 (nl_nz x2).toNat)) 4 o 8 (nl_nz x2).toNat (h 4 o 8 (nl_nz x1).toNat))) else none else none else none else none) := rfl
set_option maxRecDepth 20000 in
theorem sg_X4_giveRest_0 (LS : Int) (den : nl_D) (h : nl_H) (o : Nat) (x1 : Int) : nl_ex LS cd_X4_giveRest den ct_X4_giveRest 0 400 0 [some (vO 4 o), some (vI x1)] [] h =
  (if 0 ≤ nl_nz x1 ∧ nl_nz x1 < 7 then if 0 ≤ nl_nz x1 ∧ nl_nz x1 < 7 then some (.inr (0, nl_up h 4 o 7 (nl_nz x1).toNat (if nl_nz ((h 4 o 7 (nl_nz x1).toNat) - 5) < nl_nz 0 then 0 else (h 4 o 7 (nl_nz x1).toNat) - 5))) else none else none) := rfl
set_option maxRecDepth 20000 in
theorem sg_X4_setBurden_0 (LS : Int) (den : nl_D) (h : nl_H) (o : Nat) (x1 : Int) (x2 : Int) : nl_ex LS cd_X4_setBurden den ct_X4_setBurden 0 400 0 [some (vO 4 o), some (vI x1), some (vI x2)] [] h =
  ((den m_X4_isHour [vO 4 o, vI x1] h).bind fun r1 =>
    if nl_nz r1.1 = 0 then
      some (.inr (0, r1.2))
    else
      if 0 ≤ nl_nz x1 ∧ nl_nz x1 < 7 then some (.inr (0, nl_up r1.2 4 o 3 (nl_nz x1).toNat x2)) else none) := rfl
set_option maxRecDepth 20000 in
theorem sg_X4_tiredTogether_0 (LS : Int) (den : nl_D) (h : nl_H) (o : Nat) : nl_ex LS cd_X4_tiredTogether den ct_X4_tiredTogether 1 400 0 [some (vO 4 o), none, none] [] h =
  (some (.inl (4, [some (vO 4 o), some (vI 0), some (vI 0)], h))) := rfl
set_option maxRecDepth 20000 in
theorem sg_X4_tiredTogether_4 (LS : Int) (den : nl_D) (h : nl_H) (o : Nat) (y1 : Int) (y2 : Int) : nl_ex LS cd_X4_tiredTogether den ct_X4_tiredTogether 1 400 4 [some (vO 4 o), some (vI y1), some (vI y2)] [] h =
  (if nl_nz (h 4 o 0 0) ≤ nl_nz y2 then
    some (.inr (y1, h))
  else
    if 0 ≤ nl_nz y2 ∧ nl_nz y2 < 7 then some (.inl (4, [some (vO 4 o), some (vI (y1 + (h 4 o 7 (nl_nz y2).toNat))), some (vI (y2 + 1))], h)) else none) := rfl
set_option maxRecDepth 20000 in
theorem sg_X4_handingOver_0 (LS : Int) (den : nl_D) (h : nl_H) (o : Nat) : nl_ex LS cd_X4_handingOver den ct_X4_handingOver 1 400 0 [some (vO 4 o), none, none, none, none] [] h =
  (some (.inl (4, [some (vO 4 o), some (vI 0), some (vI 1), none, none], h))) := rfl
set_option maxRecDepth 20000 in
theorem sg_X4_handingOver_4 (LS : Int) (den : nl_D) (h : nl_H) (o : Nat) (y1 : Int) (y2 : Int) (w3 : Option nl_V) (w4 : Option nl_V) : nl_ex LS cd_X4_handingOver den ct_X4_handingOver 1 400 4 [some (vO 4 o), some (vI y1), some (vI y2), w3, w4] [] h =
  (if nl_nz (h 4 o 0 0) ≤ nl_nz y2 then
    some (.inr (y1, h))
  else
    (den m_X4_houseWith [vO 4 o, vI (y2 - 1)] h).bind fun r1 =>
      (den m_X4_houseWith [vO 4 o, vI y2] r1.2).bind fun r2 =>
        if nl_nz r1.1 = nl_nz ((-1)) then
          some (.inl (4, [some (vO 4 o), some (vI y1), some (vI (y2 + 1)), some (vI r1.1), some (vI r2.1)], r2.2))
        else
          if nl_nz r2.1 = nl_nz ((-1)) then
            some (.inl (4, [some (vO 4 o), some (vI y1), some (vI (y2 + 1)), some (vI r1.1), some (vI r2.1)], r2.2))
          else
            if 0 ≤ nl_nz r2.1 ∧ nl_nz r2.1 < 7 then if 0 ≤ nl_nz r1.1 ∧ nl_nz r1.1 < 7 then some (.inl (4, [some (vO 4 o), some (vI (y1 + (if 0 ≤ nl_nz ((r2.2 4 o 6 (nl_nz r2.1).toNat) - (r2.2 4 o 6 (nl_nz r1.1).toNat)) then (r2.2 4 o 6 (nl_nz r2.1).toNat) - (r2.2 4 o 6 (nl_nz r1.1).toNat) else -((r2.2 4 o 6 (nl_nz r2.1).toNat) - (r2.2 4 o 6 (nl_nz r1.1).toNat))))), some (vI (y2 + 1)), some (vI r1.1), some (vI r2.1)], r2.2)) else none else none) := rfl
set_option maxRecDepth 20000 in
theorem sg_X4_lengthOfRoad_0 (LS : Int) (den : nl_D) (h : nl_H) (o : Nat) : nl_ex LS cd_X4_lengthOfRoad den ct_X4_lengthOfRoad 1 400 0 [some (vO 4 o), none, none, none] [] h =
  (some (.inl (7, [some (vO 4 o), some (vI 99), some (vI 0), some (vI 0)], h))) := rfl
set_option maxRecDepth 20000 in
theorem sg_X4_lengthOfRoad_7 (LS : Int) (den : nl_D) (h : nl_H) (o : Nat) (y1 : Int) (y2 : Int) (y3 : Int) : nl_ex LS cd_X4_lengthOfRoad den ct_X4_lengthOfRoad 1 400 7 [some (vO 4 o), some (vI y1), some (vI y2), some (vI y3)] [] h =
  (if nl_nz (h 4 o 0 0) ≤ nl_nz y3 then
    some (.inr (if nl_nz (y2 - y1) < nl_nz 0 then 0 else y2 - y1, h))
  else
    if 0 ≤ nl_nz y3 ∧ nl_nz y3 < 7 then if 0 ≤ nl_nz y3 ∧ nl_nz y3 < 7 then some (.inl (7, [some (vO 4 o), some (vI (if nl_nz (h 4 o 6 (nl_nz y3).toNat) < nl_nz y1 then h 4 o 6 (nl_nz y3).toNat else y1)), some (vI (if nl_nz y2 < nl_nz (h 4 o 6 (nl_nz y3).toNat) then h 4 o 6 (nl_nz y3).toNat else y2)), some (vI (y3 + 1))], h)) else none else none) := rfl
set_option maxRecDepth 20000 in
theorem sg_X4_stir_0 (LS : Int) (den : nl_D) (h : nl_H) (o : Nat) (x1 : Int) : nl_ex LS cd_X4_stir den ct_X4_stir 0 400 0 [some (vO 4 o), some (vI x1), none, none] [] h =
  (if nl_nz (h 4 o 0 0) < nl_nz 1 then
    some (.inr (0, h))
  else
    if 0 ≤ nl_nz x1 then
      if nl_nz (h 4 o 0 0) = 0 then none else
        if nl_nz 8 = 0 then none else
          if nl_nz (h 4 o 0 0) = 0 then none else
            some (.inl (30, [some (vO 4 o), some (vI x1), some (vI ((nl_nz x1).tmod (nl_nz (h 4 o 0 0)))), some (vI ((nl_nz ((nl_nz x1).tdiv (nl_nz 8))).tmod (nl_nz (h 4 o 0 0))))], h))
    else
      some (.inr (0, h))) := rfl
set_option maxRecDepth 20000 in
theorem sg_X4_stir_30 (LS : Int) (den : nl_D) (h : nl_H) (o : Nat) (y1 : Int) (y2 : Int) (y3 : Int) : nl_ex LS cd_X4_stir den ct_X4_stir 0 400 30 [some (vO 4 o), some (vI y1), some (vI y2), some (vI y3)] [] h =
  (if nl_nz 64 = 0 then none else
    if nl_nz 4 = 0 then none else
      if nl_nz ((nl_nz ((nl_nz y1).tdiv (nl_nz 64))).tmod (nl_nz 4)) = 0 then
        (den m_X4_trade [vO 4 o, vI y2, vI y3] h).bind fun r1 =>
          some (.inr (0, r1.2))
      else
        if nl_nz ((nl_nz ((nl_nz y1).tdiv (nl_nz 64))).tmod (nl_nz 4)) = 0 + 1 then
          (den m_X4_giveRest [vO 4 o, vI y2] h).bind fun r2 =>
            some (.inr (0, r2.2))
        else
          if nl_nz ((nl_nz ((nl_nz y1).tdiv (nl_nz 64))).tmod (nl_nz 4)) = 0 + 1 + 1 then
            if 0 ≤ nl_nz y2 ∧ nl_nz y2 < 7 then
              if nl_nz 256 = 0 then none else
                if nl_nz 21 = 0 then none else
                  (den m_X4_setBurden [vO 4 o, vI (h 4 o 8 (nl_nz y2).toNat), vI ((nl_nz ((nl_nz y1).tdiv (nl_nz 256))).tmod (nl_nz 21))] h).bind fun r3 =>
                    some (.inr (0, r3.2))
            else none
          else
            some (.inr (0, h))) := rfl
