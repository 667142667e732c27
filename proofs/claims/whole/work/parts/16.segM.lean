/-! Equations of the abstract machine, cut to cut. -/
set_option maxRecDepth 20000 in
theorem sg_X6_in_0 (LS : Int) (den : nl_D) (h : nl_H) (x1 : Int) (x2 : Int) (x3 : Int) : nl_ex LS cd_X6_in den ct_X6_in 3 400 0 [some (vI x1), some (vI x2), some (vI x3)] [] h =
  (if nl_nz x1 < nl_nz x2 then
    some (.inr (0, h))
  else
    if nl_nz x3 < nl_nz x1 then
      some (.inr (0, h))
    else
      some (.inr (1, h))) := rfl
set_option maxRecDepth 20000 in
theorem sg_X6_has_0 (LS : Int) (den : nl_D) (h : nl_H) (x1 : Int) (x2 : Int) : nl_ex LS cd_X6_has den ct_X6_has 3 400 0 [some (vI x1), some (vI x2)] [] h =
  (if 0 ≤ nl_nz x2 ∧ nl_nz x2 < 32 then
    if 0 ≤ nl_nz (nl_nz x1 / 2 ^ (nl_nz x2).toNat) ∧ 0 ≤ nl_nz 1 then
      if nl_nz ((((nl_nz (nl_nz x1 / 2 ^ (nl_nz x2).toNat)).toNat &&& (nl_nz 1).toNat : Nat) : Int)) = nl_nz 1 then
        some (.inr (1, h))
      else
        some (.inr (0, h))
    else none
  else none) := rfl
set_option maxRecDepth 20000 in
theorem sg_X6_bits_0 (LS : Int) (den : nl_D) (h : nl_H) (x1 : Int) : nl_ex LS cd_X6_bits den ct_X6_bits 1 400 0 [some (vI x1), none, none] [] h =
  (some (.inl (4, [some (vI x1), some (vI 0), some (vI 0)], h))) := rfl
set_option maxRecDepth 20000 in
theorem sg_X6_bits_4 (LS : Int) (den : nl_D) (h : nl_H) (y0 : Int) (y1 : Int) (y2 : Int) : nl_ex LS cd_X6_bits den ct_X6_bits 1 400 4 [some (vI y0), some (vI y1), some (vI y2)] [] h =
  (if nl_nz 7 ≤ nl_nz y2 then
    some (.inr (y1, h))
  else
    if 0 ≤ nl_nz y2 ∧ nl_nz y2 < 32 then if 0 ≤ nl_nz (nl_nz y0 / 2 ^ (nl_nz y2).toNat) ∧ 0 ≤ nl_nz 1 then some (.inl (4, [some (vI y0), some (vI (y1 + ((((nl_nz (nl_nz y0 / 2 ^ (nl_nz y2).toNat)).toNat &&& (nl_nz 1).toNat : Nat) : Int)))), some (vI (y2 + 1))], h)) else none else none) := rfl
set_option maxRecDepth 20000 in
theorem sg_X6_lesser_0 (LS : Int) (den : nl_D) (h : nl_H) (x1 : Int) (x2 : Int) : nl_ex LS cd_X6_lesser den ct_X6_lesser 1 400 0 [some (vI x1), some (vI x2)] [] h =
  (if nl_nz x2 ≤ nl_nz x1 then
    some (.inr (x2, h))
  else
    some (.inr (x1, h))) := rfl
set_option maxRecDepth 20000 in
theorem sg_X6_greater_0 (LS : Int) (den : nl_D) (h : nl_H) (x1 : Int) (x2 : Int) : nl_ex LS cd_X6_greater den ct_X6_greater 1 400 0 [some (vI x1), some (vI x2)] [] h =
  (if nl_nz x1 ≤ nl_nz x2 then
    some (.inr (x2, h))
  else
    some (.inr (x1, h))) := rfl
set_option maxRecDepth 20000 in
theorem sg_X6_firstHouse_0 (LS : Int) (den : nl_D) (h : nl_H) (x1 : Int) (x2 : Int) (x3 : Int) (x4 : Int) : nl_ex LS cd_X6_firstHouse den ct_X6_firstHouse 0 400 0 [some (vO 6 0), some (vI x1), some (vI x2), some (vI x3), some (vI x4)] [] h =
  (if 0 ≤ nl_nz (h 6 0 0 0) ∧ nl_nz (h 6 0 0 0) < 7 then if 0 ≤ nl_nz ((nl_up h 6 0 1 (nl_nz (h 6 0 0 0)).toNat x1) 6 0 0 0) ∧ nl_nz ((nl_up h 6 0 1 (nl_nz (h 6 0 0 0)).toNat x1) 6 0 0 0) < 7 then if 0 ≤ nl_nz ((nl_up (nl_up h 6 0 1 (nl_nz (h 6 0 0 0)).toNat x1) 6 0 2 (nl_nz ((nl_up h 6 0 1 (nl_nz (h 6 0 0 0)).toNat x1) 6 0 0 0)).toNat x2) 6 0 0 0) ∧ nl_nz ((nl_up (nl_up h 6 0 1 (nl_nz (h 6 0 0 0)).toNat x1) 6 0 2 (nl_nz ((nl_up h 6 0 1 (nl_nz (h 6 0 0 0)).toNat x1) 6 0 0 0)).toNat x2) 6 0 0 0) < 7 then if 0 ≤ nl_nz ((nl_up (nl_up (nl_up h 6 0 1 (nl_nz (h 6 0 0 0)).toNat x1) 6 0 2 (nl_nz ((nl_up h 6 0 1 (nl_nz (h 6 0 0 0)).toNat x1) 6 0 0 0)).toNat x2) 6 0 3 (nl_nz ((nl_up (nl_up h 6 0 1 (nl_nz (h 6 0 0 0)).toNat x1) 6 0 2 (nl_nz ((nl_up h 6 0 1 (nl_nz (h 6 0 0 0)).toNat x1) 6 0 0 0)).toNat x2) 6 0 0 0)).toNat x3) 6 0 0 0) ∧ nl_nz ((nl_up (nl_up (nl_up h 6 0 1 (nl_nz (h 6 0 0 0)).toNat x1) 6 0 2 (nl_nz ((nl_up h 6 0 1 (nl_nz (h 6 0 0 0)).toNat x1) 6 0 0 0)).toNat x2) 6 0 3 (nl_nz ((nl_up (nl_up h 6 0 1 (nl_nz (h 6 0 0 0)).toNat x1) 6 0 2 (nl_nz ((nl_up h 6 0 1 (nl_nz (h 6 0 0 0)).toNat x1) 6 0 0 0)).toNat x2) 6 0 0 0)).toNat x3) 6 0 0 0) < 7 then some (.inr (0, nl_up (nl_up (nl_up (nl_up (nl_up h 6 0 1 (nl_nz (h 6 0 0 0)).toNat x1) 6 0 2 (nl_nz ((nl_up h 6 0 1 (nl_nz (h 6 0 0 0)).toNat x1) 6 0 0 0)).toNat x2) 6 0 3 (nl_nz ((nl_up (nl_up h 6 0 1 (nl_nz (h 6 0 0 0)).toNat x1) 6 0 2 (nl_nz ((nl_up h 6 0 1 (nl_nz (h 6 0 0 0)).toNat x1) 6 0 0 0)).toNat x2) 6 0 0 0)).toNat x3) 6 0 10 (nl_nz ((nl_up (nl_up (nl_up h 6 0 1 (nl_nz (h 6 0 0 0)).toNat x1) 6 0 2 (nl_nz ((nl_up h 6 0 1 (nl_nz (h 6 0 0 0)).toNat x1) 6 0 0 0)).toNat x2) 6 0 3 (nl_nz ((nl_up (nl_up h 6 0 1 (nl_nz (h 6 0 0 0)).toNat x1) 6 0 2 (nl_nz ((nl_up h 6 0 1 (nl_nz (h 6 0 0 0)).toNat x1) 6 0 0 0)).toNat x2) 6 0 0 0)).toNat x3) 6 0 0 0)).toNat x4) 6 0 0 0 (((nl_up (nl_up (nl_up (nl_up h 6 0 1 (nl_nz (h 6 0 0 0)).toNat x1) 6 0 2 (nl_nz ((nl_up h 6 0 1 (nl_nz (h 6 0 0 0)).toNat x1) 6 0 0 0)).toNat x2) 6 0 3 (nl_nz ((nl_up (nl_up h 6 0 1 (nl_nz (h 6 0 0 0)).toNat x1) 6 0 2 (nl_nz ((nl_up h 6 0 1 (nl_nz (h 6 0 0 0)).toNat x1) 6 0 0 0)).toNat x2) 6 0 0 0)).toNat x3) 6 0 10 (nl_nz ((nl_up (nl_up (nl_up h 6 0 1 (nl_nz (h 6 0 0 0)).toNat x1) 6 0 2 (nl_nz ((nl_up h 6 0 1 (nl_nz (h 6 0 0 0)).toNat x1) 6 0 0 0)).toNat x2) 6 0 3 (nl_nz ((nl_up (nl_up h 6 0 1 (nl_nz (h 6 0 0 0)).toNat x1) 6 0 2 (nl_nz ((nl_up h 6 0 1 (nl_nz (h 6 0 0 0)).toNat x1) 6 0 0 0)).toNat x2) 6 0 0 0)).toNat x3) 6 0 0 0)).toNat x4) 6 0 0 0) + 1))) else none else none else none else none) := rfl
set_option maxRecDepth 20000 in
theorem sg_X6_begin_0 (LS : Int) (den : nl_D) (h : nl_H)  : nl_ex LS cd_X6_begin den ct_X6_begin 0 400 0 [some (vO 6 0), none] [] h =
  (some (.inl (12, [some (vO 6 0), some (vI 0)], nl_up (nl_up h 6 0 4 0 0) 6 0 5 0 0))) := rfl
set_option maxRecDepth 20000 in
theorem sg_X6_begin_12 (LS : Int) (den : nl_D) (h : nl_H) (y1 : Int) : nl_ex LS cd_X6_begin den ct_X6_begin 0 400 12 [some (vO 6 0), some (vI y1)] [] h =
  (if nl_nz 7 ≤ nl_nz y1 then
    some (.inl (47, [some (vO 6 0), some (vI 0)], h))
  else
    if 0 ≤ nl_nz y1 ∧ nl_nz y1 < 7 then if 0 ≤ nl_nz y1 ∧ nl_nz y1 < 7 then if 0 ≤ nl_nz y1 ∧ nl_nz y1 < 7 then some (.inl (12, [some (vO 6 0), some (vI (y1 + 1))], nl_up (nl_up (nl_up h 6 0 6 (nl_nz y1).toNat y1) 6 0 7 (nl_nz y1).toNat 0) 6 0 8 (nl_nz y1).toNat 0)) else none else none else none) := rfl
set_option maxRecDepth 20000 in
theorem sg_X6_begin_47 (LS : Int) (den : nl_D) (h : nl_H) (y1 : Int) : nl_ex LS cd_X6_begin den ct_X6_begin 0 400 47 [some (vO 6 0), some (vI y1)] [] h =
  (if nl_nz 49 ≤ nl_nz y1 then
    some (.inr (0, h))
  else
    if 0 ≤ nl_nz y1 ∧ nl_nz y1 < 49 then some (.inl (47, [some (vO 6 0), some (vI (y1 + 1))], nl_up h 6 0 9 (nl_nz y1).toNat 0)) else none) := rfl
set_option maxRecDepth 20000 in
theorem sg_X6_isOne_0 (LS : Int) (den : nl_D) (h : nl_H) (x1 : Int) : nl_ex LS cd_X6_isOne den ct_X6_isOne 3 400 0 [some (vO 6 0), some (vI x1)] [] h =
  ((den m_X6_in [vI x1, vI 0, vI ((h 6 0 0 0) - 1)] h).bind fun r1 =>
    if r1.1 = 0 ∨ r1.1 = 1 then some (.inr (r1.1, r1.2)) else none) := rfl
set_option maxRecDepth 20000 in
theorem sg_X6_write_0 (LS : Int) (den : nl_D) (h : nl_H) (x1 : Int) : nl_ex LS cd_X6_write den ct_X6_write 1 400 0 [some (vO 6 0), some (vI x1)] [] h =
  ((den m_X6_in [vI x1, vI 32, vI 126] h).bind fun r1 =>
    if nl_nz r1.1 = 0 then
      some (.inr ((-1), r1.2))
    else
      if nl_nz (r1.2 6 0 16 0) = nl_nz 200 then
        some (.inr ((-3), r1.2))
      else
        if 0 ≤ nl_nz (r1.2 6 0 16 0) ∧ nl_nz (r1.2 6 0 16 0) < 200 then some (.inr ((nl_up (nl_up r1.2 6 0 15 (nl_nz (r1.2 6 0 16 0)).toNat x1) 6 0 16 0 (((nl_up r1.2 6 0 15 (nl_nz (r1.2 6 0 16 0)).toNat x1) 6 0 16 0) + 1)) 6 0 16 0, nl_up (nl_up r1.2 6 0 15 (nl_nz (r1.2 6 0 16 0)).toNat x1) 6 0 16 0 (((nl_up r1.2 6 0 15 (nl_nz (r1.2 6 0 16 0)).toNat x1) 6 0 16 0) + 1))) else none) := rfl
set_option maxRecDepth 20000 in
theorem sg_X6_wipe_0 (LS : Int) (den : nl_D) (h : nl_H)  : nl_ex LS cd_X6_wipe den ct_X6_wipe 1 400 0 [some (vO 6 0), none] [] h =
  (some (.inr (h 6 0 16 0, nl_up h 6 0 16 0 0))) := rfl
set_option maxRecDepth 20000 in
theorem sg_X6_here_0 (LS : Int) (den : nl_D) (h : nl_H)  : nl_ex LS cd_X6_here den ct_X6_here 1 400 0 [some (vO 6 0)] [] h =
  (if nl_nz (h 6 0 16 0) ≤ nl_nz (h 6 0 17 0) then
    some (.inr (0, h))
  else
    if 0 ≤ nl_nz (h 6 0 17 0) ∧ nl_nz (h 6 0 17 0) < 200 then some (.inr (h 6 0 15 (nl_nz (h 6 0 17 0)).toNat, h)) else none) := rfl
set_option maxRecDepth 20000 in
theorem sg_X6_isFigure_0 (LS : Int) (den : nl_D) (h : nl_H)  : nl_ex LS cd_X6_isFigure den ct_X6_isFigure 3 400 0 [some (vO 6 0)] [] h =
  ((den m_X6_here [vO 6 0] h).bind fun r1 =>
    (den m_X6_in [vI r1.1, vI 48, vI 57] r1.2).bind fun r2 =>
      if r2.1 = 0 ∨ r2.1 = 1 then some (.inr (r2.1, r2.2)) else none) := rfl
set_option maxRecDepth 20000 in
theorem sg_X6_number_0 (LS : Int) (den : nl_D) (h : nl_H) (x1 : Int) (x2 : Int) (x3 : Int) : nl_ex LS cd_X6_number den ct_X6_number 3 400 0 [some (vO 6 0), some (vI x1), some (vI x2), some (vI x3), none] [] h =
  ((den m_X6_isFigure [vO 6 0] h).bind fun r1 =>
    if nl_nz r1.1 = 0 then
      some (.inr (0, r1.2))
    else
      (den m_X6_here [vO 6 0] r1.2).bind fun r2 =>
        (den m_X6_isFigure [vO 6 0] (nl_up r2.2 6 0 17 0 ((r2.2 6 0 17 0) + 1))).bind fun r3 =>
          if nl_nz r3.1 = 0 then
            (den m_X6_here [vO 6 0] (nl_up r3.2 6 0 22 0 (r2.1 - 48))).bind fun r4 =>
              if nl_nz r4.1 = nl_nz x3 then
                (den m_X6_in [vI (r2.1 - 48), vI x1, vI x2] r4.2).bind fun r5 =>
                  if nl_nz r5.1 = 0 then
                    some (.inr (0, r5.2))
                  else
                    some (.inr (1, nl_up r5.2 6 0 17 0 ((r5.2 6 0 17 0) + 1)))
              else
                some (.inr (0, r4.2))
          else
            (den m_X6_here [vO 6 0] r3.2).bind fun r6 =>
              (den m_X6_here [vO 6 0] (nl_up (nl_up r6.2 6 0 17 0 ((r6.2 6 0 17 0) + 1)) 6 0 22 0 (((10 * (r2.1 - 48)) + r6.1) - 48))).bind fun r7 =>
                if nl_nz r7.1 = nl_nz x3 then
                  (den m_X6_in [vI (((10 * (r2.1 - 48)) + r6.1) - 48), vI x1, vI x2] r7.2).bind fun r8 =>
                    if nl_nz r8.1 = 0 then
                      some (.inr (0, r8.2))
                    else
                      some (.inr (1, nl_up r8.2 6 0 17 0 ((r8.2 6 0 17 0) + 1)))
                else
                  some (.inr (0, r7.2))) := rfl
set_option maxRecDepth 20000 in
theorem sg_X6_readsHour_0 (LS : Int) (den : nl_D) (h : nl_H)  : nl_ex LS cd_X6_readsHour den ct_X6_readsHour 3 400 0 [some (vO 6 0)] [] h =
  (if nl_nz (h 6 0 18 0) = nl_nz 7 then
    some (.inr (0, h))
  else
    (den m_X6_number [vO 6 0, vI 0, vI 20, vI 59] h).bind fun r1 =>
      if nl_nz r1.1 = 0 then
        some (.inr (0, r1.2))
      else
        if 0 ≤ nl_nz (r1.2 6 0 18 0) ∧ nl_nz (r1.2 6 0 18 0) < 7 then some (.inr (1, nl_up (nl_up r1.2 6 0 20 (nl_nz (r1.2 6 0 18 0)).toNat (r1.2 6 0 22 0)) 6 0 18 0 (((nl_up r1.2 6 0 20 (nl_nz (r1.2 6 0 18 0)).toNat (r1.2 6 0 22 0)) 6 0 18 0) + 1))) else none) := rfl
set_option maxRecDepth 20000 in
theorem sg_X6_readsHouse_0 (LS : Int) (den : nl_D) (h : nl_H)  : nl_ex LS cd_X6_readsHouse den ct_X6_readsHouse 3 400 0 [some (vO 6 0), none] [] h =
  (if nl_nz (h 6 0 19 0) = nl_nz (h 6 0 18 0) then
    some (.inr (0, h))
  else
    (den m_X6_number [vO 6 0, vI 0, vI 3, vI 44] h).bind fun r1 =>
      if nl_nz r1.1 = 0 then
        some (.inr (0, r1.2))
      else
        if 0 ≤ nl_nz (3 * (r1.2 6 0 19 0)) ∧ nl_nz (3 * (r1.2 6 0 19 0)) < 21 then
          (den m_X6_number [vO 6 0, vI 0, vI 40, vI 44] (nl_up r1.2 6 0 21 (nl_nz (3 * (r1.2 6 0 19 0))).toNat (r1.2 6 0 22 0))).bind fun r2 =>
            if nl_nz r2.1 = 0 then
              some (.inr (0, r2.2))
            else
              if 0 ≤ nl_nz ((3 * (r1.2 6 0 19 0)) + 1) ∧ nl_nz ((3 * (r1.2 6 0 19 0)) + 1) < 21 then
                (den m_X6_number [vO 6 0, vI 0, vI 99, vI 59] (nl_up r2.2 6 0 21 (nl_nz ((3 * (r1.2 6 0 19 0)) + 1)).toNat (r2.2 6 0 22 0))).bind fun r3 =>
                  if nl_nz r3.1 = 0 then
                    some (.inr (0, r3.2))
                  else
                    if 0 ≤ nl_nz ((3 * (r1.2 6 0 19 0)) + 2) ∧ nl_nz ((3 * (r1.2 6 0 19 0)) + 2) < 21 then some (.inr (1, nl_up (nl_up r3.2 6 0 21 (nl_nz ((3 * (r1.2 6 0 19 0)) + 2)).toNat (r3.2 6 0 22 0)) 6 0 19 0 (((nl_up r3.2 6 0 21 (nl_nz ((3 * (r1.2 6 0 19 0)) + 2)).toNat (r3.2 6 0 22 0)) 6 0 19 0) + 1))) else none
              else none
        else none) := rfl
set_option maxRecDepth 20000 in
theorem sg_X6_readsItem_0 (LS : Int) (den : nl_D) (h : nl_H)  : nl_ex LS cd_X6_readsItem den ct_X6_readsItem 3 400 0 [some (vO 6 0), none] [] h =
  ((den m_X6_here [vO 6 0] h).bind fun r1 =>
    if nl_nz r1.1 = nl_nz 110 then
      (den m_X6_readsHour [vO 6 0] (nl_up r1.2 6 0 17 0 ((r1.2 6 0 17 0) + 1))).bind fun r2 =>
        if r2.1 = 0 ∨ r2.1 = 1 then some (.inr (r2.1, r2.2)) else none
    else
      if nl_nz r1.1 = nl_nz 104 then
        (den m_X6_readsHouse [vO 6 0] (nl_up r1.2 6 0 17 0 ((r1.2 6 0 17 0) + 1))).bind fun r3 =>
          if nl_nz r3.1 = 0 then
            some (.inr (0, r3.2))
          else
            some (.inr (1, r3.2))
      else
        some (.inr (0, nl_up r1.2 6 0 17 0 ((r1.2 6 0 17 0) + 1)))) := rfl
set_option maxRecDepth 20000 in
theorem sg_X6_fault_0 (LS : Int) (den : nl_D) (h : nl_H)  : nl_ex LS cd_X6_fault den ct_X6_fault 1 400 0 [some (vO 6 0), none] [] h =
  (some (.inl (15, [some (vO 6 0), none], nl_up (nl_up (nl_up h 6 0 17 0 0) 6 0 18 0 0) 6 0 19 0 0))) := rfl
set_option maxRecDepth 20000 in
theorem sg_X6_fault_15 (LS : Int) (den : nl_D) (h : nl_H) (w1 : Option nl_V) : nl_ex LS cd_X6_fault den ct_X6_fault 1 400 15 [some (vO 6 0), w1] [] h =
  (if nl_nz (h 6 0 16 0) ≤ nl_nz (h 6 0 17 0) then
    some (.inr ((-4), h))
  else
    (den m_X6_readsItem [vO 6 0] h).bind fun r1 =>
      if nl_nz r1.1 = 0 then
        some (.inr (h 6 0 17 0, r1.2))
      else
        some (.inl (15, [some (vO 6 0), some (vI (h 6 0 17 0))], r1.2))) := rfl
set_option maxRecDepth 20000 in
theorem sg_X6_lay_0 (LS : Int) (den : nl_D) (h : nl_H)  : nl_ex LS cd_X6_lay den ct_X6_lay 1 400 0 [some (vO 6 0), none] [] h =
  ((den m_X6_fault [vO 6 0] h).bind fun r1 =>
    if nl_nz r1.1 = nl_nz ((-4)) then
      if nl_nz (r1.2 6 0 18 0) < nl_nz 2 then
        some (.inr ((-2), r1.2))
      else
        if nl_nz (r1.2 6 0 19 0) = nl_nz (r1.2 6 0 18 0) then
          some (.inl (38, [some (vO 6 0), some (vI 0)], nl_up r1.2 6 0 0 0 0))
        else
          some (.inr ((-2), r1.2))
    else
      some (.inr ((-2), r1.2))) := rfl
set_option maxRecDepth 20000 in
theorem sg_X6_lay_38 (LS : Int) (den : nl_D) (h : nl_H) (y1 : Int) : nl_ex LS cd_X6_lay den ct_X6_lay 1 400 38 [some (vO 6 0), some (vI y1)] [] h =
  (if nl_nz (h 6 0 19 0) ≤ nl_nz y1 then
    (den m_X6_begin [vO 6 0] h).bind fun r1 =>
      some (.inr ((nl_up (nl_up (nl_up r1.2 6 0 11 0 0) 6 0 24 0 0) 6 0 29 0 0) 6 0 0 0, nl_up (nl_up (nl_up r1.2 6 0 11 0 0) 6 0 24 0 0) 6 0 29 0 0))
  else
    if 0 ≤ nl_nz (3 * y1) ∧ nl_nz (3 * y1) < 21 then
      if 0 ≤ nl_nz ((3 * y1) + 1) ∧ nl_nz ((3 * y1) + 1) < 21 then
        if 0 ≤ nl_nz ((3 * y1) + 2) ∧ nl_nz ((3 * y1) + 2) < 21 then
          if 0 ≤ nl_nz y1 ∧ nl_nz y1 < 7 then
            (den m_X6_firstHouse [vO 6 0, vI (h 6 0 21 (nl_nz (3 * y1)).toNat), vI (h 6 0 21 (nl_nz ((3 * y1) + 1)).toNat), vI (h 6 0 21 (nl_nz ((3 * y1) + 2)).toNat), vI (h 6 0 20 (nl_nz y1).toNat)] h).bind fun r2 =>
              some (.inl (38, [some (vO 6 0), some (vI (y1 + 1))], r2.2))
          else none
        else none
      else none
    else none) := rfl
set_option maxRecDepth 20000 in
theorem sg_X6_mostOften_0 (LS : Int) (den : nl_D) (h : nl_H) (x1 : Int) : nl_ex LS cd_X6_mostOften den ct_X6_mostOften 1 400 0 [some (vO 6 0), some (vI x1), none, none, none, none] [] h =
  (some (.inl (8, [some (vO 6 0), some (vI x1), some (vI ((-4))), some (vI 0), some (vI 0), none], h))) := rfl
set_option maxRecDepth 20000 in
theorem sg_X6_mostOften_8 (LS : Int) (den : nl_D) (h : nl_H) (y1 : Int) (y2 : Int) (y3 : Int) (y4 : Int) (w5 : Option nl_V) : nl_ex LS cd_X6_mostOften den ct_X6_mostOften 1 400 8 [some (vO 6 0), some (vI y1), some (vI y2), some (vI y3), some (vI y4), w5] [] h =
  (if nl_nz (h 6 0 0 0) ≤ nl_nz y4 then
    some (.inr (y2, h))
  else
    if 0 ≤ nl_nz ((7 * y1) + y4) ∧ nl_nz ((7 * y1) + y4) < 49 then
      if nl_nz (h 6 0 9 (nl_nz ((7 * y1) + y4)).toNat) ≤ nl_nz y3 then
        (den m_X6_greater [vI y3, vI (h 6 0 9 (nl_nz ((7 * y1) + y4)).toNat)] h).bind fun r1 =>
          some (.inl (8, [some (vO 6 0), some (vI y1), some (vI y2), some (vI r1.1), some (vI (y4 + 1)), some (vI (h 6 0 9 (nl_nz ((7 * y1) + y4)).toNat))], r1.2))
      else
        (den m_X6_greater [vI y3, vI (h 6 0 9 (nl_nz ((7 * y1) + y4)).toNat)] h).bind fun r2 =>
          some (.inl (8, [some (vO 6 0), some (vI y1), some (vI y4), some (vI r2.1), some (vI (y4 + 1)), some (vI (h 6 0 9 (nl_nz ((7 * y1) + y4)).toNat))], r2.2))
    else none) := rfl
set_option maxRecDepth 20000 in
theorem sg_X6_weight_0 (LS : Int) (den : nl_D) (h : nl_H) (x1 : Int) (x2 : Int) : nl_ex LS cd_X6_weight den ct_X6_weight 1 400 0 [some (vO 6 0), some (vI x1), some (vI x2), none] [] h =
  (if 0 ≤ nl_nz x2 ∧ nl_nz x2 < 7 then
    if 0 ≤ nl_nz x1 ∧ nl_nz x1 < 7 then
      if nl_nz (h 6 0 1 (nl_nz x1).toNat) = 1 then
        some (.inr (2 * (h 6 0 10 (nl_nz x2).toNat), h))
      else
        if nl_nz (h 6 0 1 (nl_nz x1).toNat) = 1 + 1 then
          (den m_X6_mostOften [vO 6 0, vI x1] h).bind fun r1 =>
            if nl_nz r1.1 = nl_nz x2 then
              if nl_nz 2 = 0 then none else
                some (.inr ((nl_nz (h 6 0 10 (nl_nz x2).toNat)).tdiv (nl_nz 2), r1.2))
            else
              some (.inr (h 6 0 10 (nl_nz x2).toNat, r1.2))
        else
          if nl_nz (h 6 0 1 (nl_nz x1).toNat) = 1 + 1 + 1 then
            if nl_nz x2 = 0 then
              (den m_X6_greater [vI 0, vI ((h 6 0 10 (nl_nz x2).toNat) - 3)] h).bind fun r2 =>
                some (.inr (r2.1, r2.2))
            else
              if nl_nz x2 = nl_nz ((h 6 0 0 0) - 1) then
                (den m_X6_greater [vI 0, vI ((h 6 0 10 (nl_nz x2).toNat) - 3)] h).bind fun r3 =>
                  some (.inr (r3.1, r3.2))
              else
                some (.inr (h 6 0 10 (nl_nz x2).toNat, h))
          else
            some (.inr (h 6 0 10 (nl_nz x2).toNat, h))
    else none
  else none) := rfl
set_option maxRecDepth 20000 in
theorem sg_X6_keeps_0 (LS : Int) (den : nl_D) (h : nl_H) (x1 : Int) (x2 : Int) : nl_ex LS cd_X6_keeps den ct_X6_keeps 3 400 0 [some (vO 6 0), some (vI x1), some (vI x2)] [] h =
  ((den m_X6_weight [vO 6 0, vI x1, vI x2] h).bind fun r1 =>
    if 0 ≤ nl_nz x1 ∧ nl_nz x1 < 7 then
      if 0 ≤ nl_nz x1 ∧ nl_nz x1 < 7 then
        if nl_nz ((r1.2 6 0 2 (nl_nz x1).toNat) - (r1.2 6 0 7 (nl_nz x1).toNat)) < nl_nz r1.1 then
          some (.inr (0, r1.2))
        else
          some (.inr (1, r1.2))
      else none
    else none) := rfl
set_option maxRecDepth 20000 in
theorem sg_X6_gapSet_0 (LS : Int) (den : nl_D) (h : nl_H)  : nl_ex LS cd_X6_gapSet den ct_X6_gapSet 1 400 0 [some (vO 6 0), none, none] [] h =
  (some (.inl (4, [some (vO 6 0), some (vI 0), some (vI 0)], h))) := rfl
set_option maxRecDepth 20000 in
theorem sg_X6_gapSet_4 (LS : Int) (den : nl_D) (h : nl_H) (y1 : Int) (y2 : Int) : nl_ex LS cd_X6_gapSet den ct_X6_gapSet 1 400 4 [some (vO 6 0), some (vI y1), some (vI y2)] [] h =
  (if nl_nz (h 6 0 0 0) ≤ nl_nz y2 then
    some (.inr (y1, h))
  else
    if 0 ≤ nl_nz y2 ∧ nl_nz y2 < 7 then
      (den m_X6_keeps [vO 6 0, vI y2, vI (h 6 0 6 (nl_nz y2).toNat)] h).bind fun r1 =>
        if nl_nz r1.1 = 0 then
          if 0 ≤ nl_nz y2 ∧ nl_nz y2 < 7 then if 0 ≤ nl_nz (r1.2 6 0 6 (nl_nz y2).toNat) ∧ nl_nz (r1.2 6 0 6 (nl_nz y2).toNat) < 32 then if 0 ≤ nl_nz y1 ∧ 0 ≤ nl_nz (1 * 2 ^ (nl_nz (r1.2 6 0 6 (nl_nz y2).toNat)).toNat) then some (.inl (4, [some (vO 6 0), some (vI ((((nl_nz y1).toNat ||| (nl_nz (1 * 2 ^ (nl_nz (r1.2 6 0 6 (nl_nz y2).toNat)).toNat)).toNat : Nat) : Int))), some (vI (y2 + 1))], r1.2)) else none else none else none
        else
          if 0 ≤ nl_nz y1 ∧ 0 ≤ nl_nz 0 then some (.inl (4, [some (vO 6 0), some (vI ((((nl_nz y1).toNat ||| (nl_nz 0).toNat : Nat) : Int))), some (vI (y2 + 1))], r1.2)) else none
    else none) := rfl
set_option maxRecDepth 20000 in
theorem sg_X6_passes_0 (LS : Int) (den : nl_D) (h : nl_H)  : nl_ex LS cd_X6_passes den ct_X6_passes 1 400 0 [some (vO 6 0), none, none, none] [] h =
  (some (.inl (4, [some (vO 6 0), some (vI 0), some (vI 0), none], h))) := rfl
set_option maxRecDepth 20000 in
theorem sg_X6_passes_4 (LS : Int) (den : nl_D) (h : nl_H) (y1 : Int) (y2 : Int) (w3 : Option nl_V) : nl_ex LS cd_X6_passes den ct_X6_passes 1 400 4 [some (vO 6 0), some (vI y1), some (vI y2), w3] [] h =
  (if nl_nz (h 6 0 0 0) ≤ nl_nz y2 then
    some (.inr (y1, nl_up (nl_up h 6 0 4 0 ((h 6 0 4 0) + 1)) 6 0 5 0 (((nl_up h 6 0 4 0 ((h 6 0 4 0) + 1)) 6 0 5 0) + y1)))
  else
    if 0 ≤ nl_nz y2 ∧ nl_nz y2 < 7 then
      (den m_X6_keeps [vO 6 0, vI y2, vI (h 6 0 6 (nl_nz y2).toNat)] h).bind fun r1 =>
        if nl_nz r1.1 = 0 then
          if 0 ≤ nl_nz y2 ∧ nl_nz y2 < 7 then
            (den m_X6_greater [vI 0, vI ((r1.2 6 0 7 (nl_nz y2).toNat) - 3)] r1.2).bind fun r2 =>
              if 0 ≤ nl_nz y2 ∧ nl_nz y2 < 7 then
                if 0 ≤ nl_nz y2 ∧ nl_nz y2 < 7 then
                  if 0 ≤ nl_nz y2 ∧ nl_nz y2 < 7 then
                    if 0 ≤ nl_nz ((7 * y2) + (h 6 0 6 (nl_nz y2).toNat)) ∧ nl_nz ((7 * y2) + (h 6 0 6 (nl_nz y2).toNat)) < 49 then
                      if 0 ≤ nl_nz ((7 * y2) + (h 6 0 6 (nl_nz y2).toNat)) ∧ nl_nz ((7 * y2) + (h 6 0 6 (nl_nz y2).toNat)) < 49 then
                        if nl_nz ((nl_up (nl_up (nl_up r2.2 6 0 7 (nl_nz y2).toNat r2.1) 6 0 8 (nl_nz y2).toNat (((nl_up r2.2 6 0 7 (nl_nz y2).toNat r2.1) 6 0 8 (nl_nz y2).toNat) + 1)) 6 0 9 (nl_nz ((7 * y2) + (h 6 0 6 (nl_nz y2).toNat))).toNat (((nl_up (nl_up r2.2 6 0 7 (nl_nz y2).toNat r2.1) 6 0 8 (nl_nz y2).toNat (((nl_up r2.2 6 0 7 (nl_nz y2).toNat r2.1) 6 0 8 (nl_nz y2).toNat) + 1)) 6 0 9 (nl_nz ((7 * y2) + (h 6 0 6 (nl_nz y2).toNat))).toNat) + 1)) 6 0 0 0) ≤ nl_nz ((h 6 0 6 (nl_nz y2).toNat) + 1) then
                          if 0 ≤ nl_nz y2 ∧ nl_nz y2 < 7 then some (.inl (4, [some (vO 6 0), some (vI (y1 + 1)), some (vI (y2 + 1)), some (vI (h 6 0 6 (nl_nz y2).toNat))], nl_up (nl_up (nl_up (nl_up r2.2 6 0 7 (nl_nz y2).toNat r2.1) 6 0 8 (nl_nz y2).toNat (((nl_up r2.2 6 0 7 (nl_nz y2).toNat r2.1) 6 0 8 (nl_nz y2).toNat) + 1)) 6 0 9 (nl_nz ((7 * y2) + (h 6 0 6 (nl_nz y2).toNat))).toNat (((nl_up (nl_up r2.2 6 0 7 (nl_nz y2).toNat r2.1) 6 0 8 (nl_nz y2).toNat (((nl_up r2.2 6 0 7 (nl_nz y2).toNat r2.1) 6 0 8 (nl_nz y2).toNat) + 1)) 6 0 9 (nl_nz ((7 * y2) + (h 6 0 6 (nl_nz y2).toNat))).toNat) + 1)) 6 0 6 (nl_nz y2).toNat 0)) else none
                        else
                          if 0 ≤ nl_nz y2 ∧ nl_nz y2 < 7 then some (.inl (4, [some (vO 6 0), some (vI (y1 + 1)), some (vI (y2 + 1)), some (vI (h 6 0 6 (nl_nz y2).toNat))], nl_up (nl_up (nl_up (nl_up r2.2 6 0 7 (nl_nz y2).toNat r2.1) 6 0 8 (nl_nz y2).toNat (((nl_up r2.2 6 0 7 (nl_nz y2).toNat r2.1) 6 0 8 (nl_nz y2).toNat) + 1)) 6 0 9 (nl_nz ((7 * y2) + (h 6 0 6 (nl_nz y2).toNat))).toNat (((nl_up (nl_up r2.2 6 0 7 (nl_nz y2).toNat r2.1) 6 0 8 (nl_nz y2).toNat (((nl_up r2.2 6 0 7 (nl_nz y2).toNat r2.1) 6 0 8 (nl_nz y2).toNat) + 1)) 6 0 9 (nl_nz ((7 * y2) + (h 6 0 6 (nl_nz y2).toNat))).toNat) + 1)) 6 0 6 (nl_nz y2).toNat ((h 6 0 6 (nl_nz y2).toNat) + 1))) else none
                      else none
                    else none
                  else none
                else none
              else none
          else none
        else
          if 0 ≤ nl_nz y2 ∧ nl_nz y2 < 7 then
            (den m_X6_lesser [vI 40, vI ((r1.2 6 0 7 (nl_nz y2).toNat) + 2)] r1.2).bind fun r3 =>
              if 0 ≤ nl_nz y2 ∧ nl_nz y2 < 7 then
                if 0 ≤ nl_nz ((7 * y2) + (h 6 0 6 (nl_nz y2).toNat)) ∧ nl_nz ((7 * y2) + (h 6 0 6 (nl_nz y2).toNat)) < 49 then
                  if 0 ≤ nl_nz ((7 * y2) + (h 6 0 6 (nl_nz y2).toNat)) ∧ nl_nz ((7 * y2) + (h 6 0 6 (nl_nz y2).toNat)) < 49 then
                    if nl_nz ((nl_up (nl_up r3.2 6 0 7 (nl_nz y2).toNat r3.1) 6 0 9 (nl_nz ((7 * y2) + (h 6 0 6 (nl_nz y2).toNat))).toNat (((nl_up r3.2 6 0 7 (nl_nz y2).toNat r3.1) 6 0 9 (nl_nz ((7 * y2) + (h 6 0 6 (nl_nz y2).toNat))).toNat) + 1)) 6 0 0 0) ≤ nl_nz ((h 6 0 6 (nl_nz y2).toNat) + 1) then
                      if 0 ≤ nl_nz y2 ∧ nl_nz y2 < 7 then some (.inl (4, [some (vO 6 0), some (vI y1), some (vI (y2 + 1)), some (vI (h 6 0 6 (nl_nz y2).toNat))], nl_up (nl_up (nl_up r3.2 6 0 7 (nl_nz y2).toNat r3.1) 6 0 9 (nl_nz ((7 * y2) + (h 6 0 6 (nl_nz y2).toNat))).toNat (((nl_up r3.2 6 0 7 (nl_nz y2).toNat r3.1) 6 0 9 (nl_nz ((7 * y2) + (h 6 0 6 (nl_nz y2).toNat))).toNat) + 1)) 6 0 6 (nl_nz y2).toNat 0)) else none
                    else
                      if 0 ≤ nl_nz y2 ∧ nl_nz y2 < 7 then some (.inl (4, [some (vO 6 0), some (vI y1), some (vI (y2 + 1)), some (vI (h 6 0 6 (nl_nz y2).toNat))], nl_up (nl_up (nl_up r3.2 6 0 7 (nl_nz y2).toNat r3.1) 6 0 9 (nl_nz ((7 * y2) + (h 6 0 6 (nl_nz y2).toNat))).toNat (((nl_up r3.2 6 0 7 (nl_nz y2).toNat r3.1) 6 0 9 (nl_nz ((7 * y2) + (h 6 0 6 (nl_nz y2).toNat))).toNat) + 1)) 6 0 6 (nl_nz y2).toNat ((h 6 0 6 (nl_nz y2).toNat) + 1))) else none
                  else none
                else none
              else none
          else none
    else none) := rfl
set_option maxRecDepth 20000 in
theorem sg_X6_goesOn_0 (LS : Int) (den : nl_D) (h : nl_H) (x1 : Int) : nl_ex LS cd_X6_goesOn den ct_X6_goesOn 1 400 0 [some (vO 6 0), some (vI x1), none, none] [] h =
  (some (.inl (4, [some (vO 6 0), some (vI x1), some (vI 0), some (vI 0)], h))) := rfl
set_option maxRecDepth 20000 in
theorem sg_X6_goesOn_4 (LS : Int) (den : nl_D) (h : nl_H) (y1 : Int) (y2 : Int) (y3 : Int) : nl_ex LS cd_X6_goesOn den ct_X6_goesOn 1 400 4 [some (vO 6 0), some (vI y1), some (vI y2), some (vI y3)] [] h =
  (if nl_nz y1 ≤ nl_nz y3 then
    some (.inr (y2, h))
  else
    (den m_X6_passes [vO 6 0] h).bind fun r1 =>
      some (.inl (4, [some (vO 6 0), some (vI y1), some (vI (y2 + r1.1)), some (vI (y3 + 1))], r1.2))) := rfl
set_option maxRecDepth 20000 in
theorem sg_X6_house_0 (LS : Int) (den : nl_D) (h : nl_H) (x1 : Int) (x2 : Int) : nl_ex LS cd_X6_house den ct_X6_house 1 400 0 [some (vO 6 0), some (vI x1), some (vI x2)] [] h =
  ((den m_X6_isOne [vO 6 0, vI x1] h).bind fun r1 =>
    if nl_nz r1.1 = 0 then
      some (.inr ((-1), r1.2))
    else
      (den m_X6_in [vI x2, vI 0, vI 5] r1.2).bind fun r2 =>
        if nl_nz r2.1 = 0 then
          some (.inr ((-1), r2.2))
        else
          if nl_nz x2 = 0 then
            if 0 ≤ nl_nz x1 ∧ nl_nz x1 < 7 then some (.inr (r2.2 6 0 1 (nl_nz x1).toNat, r2.2)) else none
          else
            if nl_nz x2 = 0 + 1 then
              if 0 ≤ nl_nz x1 ∧ nl_nz x1 < 7 then some (.inr (r2.2 6 0 2 (nl_nz x1).toNat, r2.2)) else none
            else
              if nl_nz x2 = 0 + 1 + 1 then
                if 0 ≤ nl_nz x1 ∧ nl_nz x1 < 7 then some (.inr (r2.2 6 0 3 (nl_nz x1).toNat, r2.2)) else none
              else
                if nl_nz x2 = 0 + 1 + 1 + 1 then
                  if 0 ≤ nl_nz x1 ∧ nl_nz x1 < 7 then some (.inr (r2.2 6 0 7 (nl_nz x1).toNat, r2.2)) else none
                else
                  if nl_nz x2 = 0 + 1 + 1 + 1 + 1 then
                    if 0 ≤ nl_nz x1 ∧ nl_nz x1 < 7 then some (.inr (r2.2 6 0 6 (nl_nz x1).toNat, r2.2)) else none
                  else
                    if 0 ≤ nl_nz x1 ∧ nl_nz x1 < 7 then some (.inr (r2.2 6 0 8 (nl_nz x1).toNat, r2.2)) else none) := rfl
set_option maxRecDepth 20000 in
theorem sg_X6_whoHas_0 (LS : Int) (den : nl_D) (h : nl_H) (x1 : Int) : nl_ex LS cd_X6_whoHas den ct_X6_whoHas 1 400 0 [some (vO 6 0), some (vI x1), none] [] h =
  (some (.inl (2, [some (vO 6 0), some (vI x1), some (vI 0)], h))) := rfl
set_option maxRecDepth 20000 in
theorem sg_X6_whoHas_2 (LS : Int) (den : nl_D) (h : nl_H) (y1 : Int) (y2 : Int) : nl_ex LS cd_X6_whoHas den ct_X6_whoHas 1 400 2 [some (vO 6 0), some (vI y1), some (vI y2)] [] h =
  (if 0 ≤ nl_nz y2 ∧ nl_nz y2 < 7 then
    if nl_nz (h 6 0 6 (nl_nz y2).toNat) = nl_nz y1 then
      some (.inr (y2, h))
    else
      some (.inl (2, [some (vO 6 0), some (vI y1), some (vI (y2 + 1))], h))
  else none) := rfl
set_option maxRecDepth 20000 in
theorem sg_X6_hour_0 (LS : Int) (den : nl_D) (h : nl_H) (x1 : Int) (x2 : Int) : nl_ex LS cd_X6_hour den ct_X6_hour 1 400 0 [some (vO 6 0), some (vI x1), some (vI x2)] [] h =
  ((den m_X6_isOne [vO 6 0, vI x1] h).bind fun r1 =>
    if nl_nz r1.1 = 0 then
      some (.inr ((-1), r1.2))
    else
      (den m_X6_in [vI x2, vI 0, vI 1] r1.2).bind fun r2 =>
        if nl_nz r2.1 = 0 then
          some (.inr ((-1), r2.2))
        else
          if nl_nz x2 = 0 then
            if 0 ≤ nl_nz x1 ∧ nl_nz x1 < 7 then some (.inr (r2.2 6 0 10 (nl_nz x1).toNat, r2.2)) else none
          else
            (den m_X6_whoHas [vO 6 0, vI x1] r2.2).bind fun r3 =>
              some (.inr (r3.1, r3.2))) := rfl
set_option maxRecDepth 20000 in
theorem sg_X6_heavy_0 (LS : Int) (den : nl_D) (h : nl_H) (x1 : Int) (x2 : Int) : nl_ex LS cd_X6_heavy den ct_X6_heavy 1 400 0 [some (vO 6 0), some (vI x1), some (vI x2)] [] h =
  ((den m_X6_isOne [vO 6 0, vI x1] h).bind fun r1 =>
    if nl_nz r1.1 = 0 then
      some (.inr ((-1), r1.2))
    else
      (den m_X6_isOne [vO 6 0, vI x2] r1.2).bind fun r2 =>
        if nl_nz r2.1 = 0 then
          some (.inr ((-1), r2.2))
        else
          (den m_X6_weight [vO 6 0, vI x1, vI x2] r2.2).bind fun r3 =>
            some (.inr (r3.1, r3.2))) := rfl
set_option maxRecDepth 20000 in
theorem sg_X6_had_0 (LS : Int) (den : nl_D) (h : nl_H) (x1 : Int) (x2 : Int) : nl_ex LS cd_X6_had den ct_X6_had 1 400 0 [some (vO 6 0), some (vI x1), some (vI x2)] [] h =
  ((den m_X6_isOne [vO 6 0, vI x1] h).bind fun r1 =>
    if nl_nz r1.1 = 0 then
      some (.inr ((-1), r1.2))
    else
      (den m_X6_isOne [vO 6 0, vI x2] r1.2).bind fun r2 =>
        if nl_nz r2.1 = 0 then
          some (.inr ((-1), r2.2))
        else
          if 0 ≤ nl_nz ((7 * x1) + x2) ∧ nl_nz ((7 * x1) + x2) < 49 then some (.inr (r2.2 6 0 9 (nl_nz ((7 * x1) + x2)).toNat, r2.2)) else none) := rfl
set_option maxRecDepth 20000 in
theorem sg_X6_lays_0 (LS : Int) (den : nl_D) (h : nl_H) (k : Nat) (x1 : Int) : nl_ex LS cd_X6_lays den ct_X6_lays 0 400 0 [some (vO 6 0), some (vA 6 0 k), some (vI x1), none] [] h =
  (if 0 ≤ nl_nz x1 ∧ nl_nz x1 < nl_al LS 6 0 k then if 0 ≤ nl_nz (x1 + 1) ∧ nl_nz (x1 + 1) < nl_al LS 6 0 k then some (.inl (18, [some (vO 6 0), some (vA 6 0 k), some (vI x1), some (vI 0)], nl_up (nl_up h 6 0 k (nl_nz x1).toNat (h 6 0 4 0)) 6 0 k (nl_nz (x1 + 1)).toNat ((nl_up h 6 0 k (nl_nz x1).toNat (h 6 0 4 0)) 6 0 5 0))) else none else none) := rfl
set_option maxRecDepth 20000 in
theorem sg_X6_lays_18 (LS : Int) (den : nl_D) (h : nl_H) (k : Nat) (y2 : Int) (y3 : Int) : nl_ex LS cd_X6_lays den ct_X6_lays 0 400 18 [some (vO 6 0), some (vA 6 0 k), some (vI y2), some (vI y3)] [] h =
  (if nl_nz 7 ≤ nl_nz y3 then
    some (.inl (87, [some (vO 6 0), some (vA 6 0 k), some (vI y2), some (vI 0)], h))
  else
    if 0 ≤ nl_nz y3 ∧ nl_nz y3 < 7 then if 0 ≤ nl_nz ((y2 + 2) + y3) ∧ nl_nz ((y2 + 2) + y3) < nl_al LS 6 0 k then if 0 ≤ nl_nz y3 ∧ nl_nz y3 < 7 then if 0 ≤ nl_nz ((y2 + 9) + y3) ∧ nl_nz ((y2 + 9) + y3) < nl_al LS 6 0 k then if 0 ≤ nl_nz y3 ∧ nl_nz y3 < 7 then if 0 ≤ nl_nz ((y2 + 16) + y3) ∧ nl_nz ((y2 + 16) + y3) < nl_al LS 6 0 k then if 0 ≤ nl_nz y3 ∧ nl_nz y3 < 7 then if 0 ≤ nl_nz ((y2 + 23) + y3) ∧ nl_nz ((y2 + 23) + y3) < nl_al LS 6 0 k then some (.inl (18, [some (vO 6 0), some (vA 6 0 k), some (vI y2), some (vI (y3 + 1))], nl_up (nl_up (nl_up (nl_up h 6 0 k (nl_nz ((y2 + 2) + y3)).toNat (h 6 0 6 (nl_nz y3).toNat)) 6 0 k (nl_nz ((y2 + 9) + y3)).toNat ((nl_up h 6 0 k (nl_nz ((y2 + 2) + y3)).toNat (h 6 0 6 (nl_nz y3).toNat)) 6 0 7 (nl_nz y3).toNat)) 6 0 k (nl_nz ((y2 + 16) + y3)).toNat ((nl_up (nl_up h 6 0 k (nl_nz ((y2 + 2) + y3)).toNat (h 6 0 6 (nl_nz y3).toNat)) 6 0 k (nl_nz ((y2 + 9) + y3)).toNat ((nl_up h 6 0 k (nl_nz ((y2 + 2) + y3)).toNat (h 6 0 6 (nl_nz y3).toNat)) 6 0 7 (nl_nz y3).toNat)) 6 0 8 (nl_nz y3).toNat)) 6 0 k (nl_nz ((y2 + 23) + y3)).toNat ((nl_up (nl_up (nl_up h 6 0 k (nl_nz ((y2 + 2) + y3)).toNat (h 6 0 6 (nl_nz y3).toNat)) 6 0 k (nl_nz ((y2 + 9) + y3)).toNat ((nl_up h 6 0 k (nl_nz ((y2 + 2) + y3)).toNat (h 6 0 6 (nl_nz y3).toNat)) 6 0 7 (nl_nz y3).toNat)) 6 0 k (nl_nz ((y2 + 16) + y3)).toNat ((nl_up (nl_up h 6 0 k (nl_nz ((y2 + 2) + y3)).toNat (h 6 0 6 (nl_nz y3).toNat)) 6 0 k (nl_nz ((y2 + 9) + y3)).toNat ((nl_up h 6 0 k (nl_nz ((y2 + 2) + y3)).toNat (h 6 0 6 (nl_nz y3).toNat)) 6 0 7 (nl_nz y3).toNat)) 6 0 8 (nl_nz y3).toNat)) 6 0 10 (nl_nz y3).toNat))) else none else none else none else none else none else none else none else none) := rfl
set_option maxRecDepth 20000 in
theorem sg_X6_lays_87 (LS : Int) (den : nl_D) (h : nl_H) (k : Nat) (y2 : Int) (y3 : Int) : nl_ex LS cd_X6_lays den ct_X6_lays 0 400 87 [some (vO 6 0), some (vA 6 0 k), some (vI y2), some (vI y3)] [] h =
  (if nl_nz 49 ≤ nl_nz y3 then
    some (.inr (0, h))
  else
    if 0 ≤ nl_nz y3 ∧ nl_nz y3 < 49 then if 0 ≤ nl_nz ((y2 + 30) + y3) ∧ nl_nz ((y2 + 30) + y3) < nl_al LS 6 0 k then some (.inl (87, [some (vO 6 0), some (vA 6 0 k), some (vI y2), some (vI (y3 + 1))], nl_up h 6 0 k (nl_nz ((y2 + 30) + y3)).toNat (h 6 0 9 (nl_nz y3).toNat))) else none else none) := rfl
set_option maxRecDepth 20000 in
theorem sg_X6_takes_0 (LS : Int) (den : nl_D) (h : nl_H) (k : Nat) (x1 : Int) : nl_ex LS cd_X6_takes den ct_X6_takes 0 400 0 [some (vO 6 0), some (vA 6 0 k), some (vI x1), none] [] h =
  (if 0 ≤ nl_nz x1 ∧ nl_nz x1 < nl_al LS 6 0 k then if 0 ≤ nl_nz (x1 + 1) ∧ nl_nz (x1 + 1) < nl_al LS 6 0 k then some (.inl (18, [some (vO 6 0), some (vA 6 0 k), some (vI x1), some (vI 0)], nl_up (nl_up h 6 0 4 0 (h 6 0 k (nl_nz x1).toNat)) 6 0 5 0 ((nl_up h 6 0 4 0 (h 6 0 k (nl_nz x1).toNat)) 6 0 k (nl_nz (x1 + 1)).toNat))) else none else none) := rfl
set_option maxRecDepth 20000 in
theorem sg_X6_takes_18 (LS : Int) (den : nl_D) (h : nl_H) (k : Nat) (y2 : Int) (y3 : Int) : nl_ex LS cd_X6_takes den ct_X6_takes 0 400 18 [some (vO 6 0), some (vA 6 0 k), some (vI y2), some (vI y3)] [] h =
  (if nl_nz 7 ≤ nl_nz y3 then
    some (.inl (87, [some (vO 6 0), some (vA 6 0 k), some (vI y2), some (vI 0)], h))
  else
    if 0 ≤ nl_nz ((y2 + 2) + y3) ∧ nl_nz ((y2 + 2) + y3) < nl_al LS 6 0 k then if 0 ≤ nl_nz y3 ∧ nl_nz y3 < 7 then if 0 ≤ nl_nz ((y2 + 9) + y3) ∧ nl_nz ((y2 + 9) + y3) < nl_al LS 6 0 k then if 0 ≤ nl_nz y3 ∧ nl_nz y3 < 7 then if 0 ≤ nl_nz ((y2 + 16) + y3) ∧ nl_nz ((y2 + 16) + y3) < nl_al LS 6 0 k then if 0 ≤ nl_nz y3 ∧ nl_nz y3 < 7 then if 0 ≤ nl_nz ((y2 + 23) + y3) ∧ nl_nz ((y2 + 23) + y3) < nl_al LS 6 0 k then if 0 ≤ nl_nz y3 ∧ nl_nz y3 < 7 then some (.inl (18, [some (vO 6 0), some (vA 6 0 k), some (vI y2), some (vI (y3 + 1))], nl_up (nl_up (nl_up (nl_up h 6 0 6 (nl_nz y3).toNat (h 6 0 k (nl_nz ((y2 + 2) + y3)).toNat)) 6 0 7 (nl_nz y3).toNat ((nl_up h 6 0 6 (nl_nz y3).toNat (h 6 0 k (nl_nz ((y2 + 2) + y3)).toNat)) 6 0 k (nl_nz ((y2 + 9) + y3)).toNat)) 6 0 8 (nl_nz y3).toNat ((nl_up (nl_up h 6 0 6 (nl_nz y3).toNat (h 6 0 k (nl_nz ((y2 + 2) + y3)).toNat)) 6 0 7 (nl_nz y3).toNat ((nl_up h 6 0 6 (nl_nz y3).toNat (h 6 0 k (nl_nz ((y2 + 2) + y3)).toNat)) 6 0 k (nl_nz ((y2 + 9) + y3)).toNat)) 6 0 k (nl_nz ((y2 + 16) + y3)).toNat)) 6 0 10 (nl_nz y3).toNat ((nl_up (nl_up (nl_up h 6 0 6 (nl_nz y3).toNat (h 6 0 k (nl_nz ((y2 + 2) + y3)).toNat)) 6 0 7 (nl_nz y3).toNat ((nl_up h 6 0 6 (nl_nz y3).toNat (h 6 0 k (nl_nz ((y2 + 2) + y3)).toNat)) 6 0 k (nl_nz ((y2 + 9) + y3)).toNat)) 6 0 8 (nl_nz y3).toNat ((nl_up (nl_up h 6 0 6 (nl_nz y3).toNat (h 6 0 k (nl_nz ((y2 + 2) + y3)).toNat)) 6 0 7 (nl_nz y3).toNat ((nl_up h 6 0 6 (nl_nz y3).toNat (h 6 0 k (nl_nz ((y2 + 2) + y3)).toNat)) 6 0 k (nl_nz ((y2 + 9) + y3)).toNat)) 6 0 k (nl_nz ((y2 + 16) + y3)).toNat)) 6 0 k (nl_nz ((y2 + 23) + y3)).toNat))) else none else none else none else none else none else none else none else none) := rfl
set_option maxRecDepth 20000 in
theorem sg_X6_takes_87 (LS : Int) (den : nl_D) (h : nl_H) (k : Nat) (y2 : Int) (y3 : Int) : nl_ex LS cd_X6_takes den ct_X6_takes 0 400 87 [some (vO 6 0), some (vA 6 0 k), some (vI y2), some (vI y3)] [] h =
  (if nl_nz 49 ≤ nl_nz y3 then
    some (.inr (0, h))
  else
    if 0 ≤ nl_nz ((y2 + 30) + y3) ∧ nl_nz ((y2 + 30) + y3) < nl_al LS 6 0 k then if 0 ≤ nl_nz y3 ∧ nl_nz y3 < 49 then some (.inl (87, [some (vO 6 0), some (vA 6 0 k), some (vI y2), some (vI (y3 + 1))], nl_up h 6 0 9 (nl_nz y3).toNat (h 6 0 k (nl_nz ((y2 + 30) + y3)).toNat))) else none else none) := rfl
set_option maxRecDepth 20000 in
theorem sg_X6_notes_0 (LS : Int) (den : nl_D) (h : nl_H)  : nl_ex LS cd_X6_notes den ct_X6_notes 0 400 0 [some (vO 6 0), none] [] h =
  (if nl_nz (h 6 0 24 0) = nl_nz 8 then
    some (.inl (11, [some (vO 6 0), some (vI 0)], h))
  else
    (den m_X6_lays [vO 6 0, vA 6 0 23, vI (79 * (h 6 0 24 0))] h).bind fun r1 =>
      some (.inr (0, nl_up r1.2 6 0 24 0 ((r1.2 6 0 24 0) + 1)))) := rfl
set_option maxRecDepth 20000 in
theorem sg_X6_notes_11 (LS : Int) (den : nl_D) (h : nl_H) (y1 : Int) : nl_ex LS cd_X6_notes den ct_X6_notes 0 400 11 [some (vO 6 0), some (vI y1)] [] h =
  (if nl_nz 553 ≤ nl_nz y1 then
    (den m_X6_lays [vO 6 0, vA 6 0 23, vI (79 * ((nl_up h 6 0 24 0 ((h 6 0 24 0) - 1)) 6 0 24 0))] (nl_up h 6 0 24 0 ((h 6 0 24 0) - 1))).bind fun r1 =>
      some (.inr (0, nl_up r1.2 6 0 24 0 ((r1.2 6 0 24 0) + 1)))
  else
    if 0 ≤ nl_nz (y1 + 79) ∧ nl_nz (y1 + 79) < 632 then if 0 ≤ nl_nz y1 ∧ nl_nz y1 < 632 then some (.inl (11, [some (vO 6 0), some (vI (y1 + 1))], nl_up h 6 0 23 (nl_nz y1).toNat (h 6 0 23 (nl_nz (y1 + 79)).toNat))) else none else none) := rfl
set_option maxRecDepth 20000 in
theorem sg_X6_pass_0 (LS : Int) (den : nl_D) (h : nl_H) (x1 : Int) : nl_ex LS cd_X6_pass den ct_X6_pass 1 400 0 [some (vO 6 0), some (vI x1)] [] h =
  ((den m_X6_in [vI x1, vI 1, vI 20] h).bind fun r1 =>
    if nl_nz r1.1 = 0 then
      some (.inr ((-1), r1.2))
    else
      if nl_nz ((r1.2 6 0 4 0) + x1) ≤ nl_nz 999 then
        (den m_X6_notes [vO 6 0] r1.2).bind fun r2 =>
          (den m_X6_goesOn [vO 6 0, vI x1] r2.2).bind fun r3 =>
            some (.inr (r3.1, r3.2))
      else
        some (.inr ((-2), r1.2))) := rfl
set_option maxRecDepth 20000 in
theorem sg_X6_trades_0 (LS : Int) (den : nl_D) (h : nl_H) (x1 : Int) (x2 : Int) : nl_ex LS cd_X6_trades den ct_X6_trades 0 400 0 [some (vO 6 0), some (vI x1), some (vI x2), none] [] h =
  (if 0 ≤ nl_nz x1 ∧ nl_nz x1 < 7 then if 0 ≤ nl_nz x2 ∧ nl_nz x2 < 7 then if 0 ≤ nl_nz x1 ∧ nl_nz x1 < 7 then if 0 ≤ nl_nz x2 ∧ nl_nz x2 < 7 then some (.inr (0, nl_up (nl_up h 6 0 6 (nl_nz x1).toNat (h 6 0 6 (nl_nz x2).toNat)) 6 0 6 (nl_nz x2).toNat (h 6 0 6 (nl_nz x1).toNat))) else none else none else none else none) := rfl
set_option maxRecDepth 20000 in
theorem sg_X6_swap_0 (LS : Int) (den : nl_D) (h : nl_H) (x1 : Int) (x2 : Int) : nl_ex LS cd_X6_swap den ct_X6_swap 1 400 0 [some (vO 6 0), some (vI x1), some (vI x2)] [] h =
  ((den m_X6_isOne [vO 6 0, vI x1] h).bind fun r1 =>
    if nl_nz r1.1 = 0 then
      some (.inr ((-1), r1.2))
    else
      (den m_X6_isOne [vO 6 0, vI x2] r1.2).bind fun r2 =>
        if nl_nz r2.1 = 0 then
          some (.inr ((-1), r2.2))
        else
          if nl_nz x1 = nl_nz x2 then
            some (.inr ((-1), r2.2))
          else
            (den m_X6_notes [vO 6 0] r2.2).bind fun r3 =>
              (den m_X6_trades [vO 6 0, vI x1, vI x2] r3.2).bind fun r4 =>
                if 0 ≤ nl_nz x1 ∧ nl_nz x1 < 7 then some (.inr (r4.2 6 0 6 (nl_nz x1).toNat, r4.2)) else none) := rfl
set_option maxRecDepth 20000 in
theorem sg_X6_rests_0 (LS : Int) (den : nl_D) (h : nl_H) (x1 : Int) : nl_ex LS cd_X6_rests den ct_X6_rests 0 400 0 [some (vO 6 0), some (vI x1)] [] h =
  (if 0 ≤ nl_nz x1 ∧ nl_nz x1 < 7 then
    (den m_X6_greater [vI 0, vI ((h 6 0 7 (nl_nz x1).toNat) - 5)] h).bind fun r1 =>
      if 0 ≤ nl_nz x1 ∧ nl_nz x1 < 7 then some (.inr (0, nl_up r1.2 6 0 7 (nl_nz x1).toNat r1.1)) else none
  else none) := rfl
set_option maxRecDepth 20000 in
theorem sg_X6_rest_0 (LS : Int) (den : nl_D) (h : nl_H) (x1 : Int) : nl_ex LS cd_X6_rest den ct_X6_rest 1 400 0 [some (vO 6 0), some (vI x1)] [] h =
  ((den m_X6_isOne [vO 6 0, vI x1] h).bind fun r1 =>
    if nl_nz r1.1 = 0 then
      some (.inr ((-1), r1.2))
    else
      if 0 ≤ nl_nz x1 ∧ nl_nz x1 < 7 then
        if nl_nz (r1.2 6 0 7 (nl_nz x1).toNat) = 0 then
          some (.inr ((-2), r1.2))
        else
          (den m_X6_notes [vO 6 0] r1.2).bind fun r2 =>
            (den m_X6_rests [vO 6 0, vI x1] r2.2).bind fun r3 =>
              if 0 ≤ nl_nz x1 ∧ nl_nz x1 < 7 then some (.inr (r3.2 6 0 7 (nl_nz x1).toNat, r3.2)) else none
      else none) := rfl
set_option maxRecDepth 20000 in
theorem sg_X6_burden_0 (LS : Int) (den : nl_D) (h : nl_H) (x1 : Int) (x2 : Int) : nl_ex LS cd_X6_burden den ct_X6_burden 1 400 0 [some (vO 6 0), some (vI x1), some (vI x2), none] [] h =
  ((den m_X6_isOne [vO 6 0, vI x1] h).bind fun r1 =>
    if nl_nz r1.1 = 0 then
      some (.inr ((-1), r1.2))
    else
      (den m_X6_in [vI x2, vI 0, vI 20] r1.2).bind fun r2 =>
        if nl_nz r2.1 = 0 then
          some (.inr ((-1), r2.2))
        else
          if 0 ≤ nl_nz x1 ∧ nl_nz x1 < 7 then
            if nl_nz (r2.2 6 0 10 (nl_nz x1).toNat) = nl_nz x2 then
              some (.inr ((-2), r2.2))
            else
              (den m_X6_notes [vO 6 0] r2.2).bind fun r3 =>
                if 0 ≤ nl_nz x1 ∧ nl_nz x1 < 7 then some (.inr (r2.2 6 0 10 (nl_nz x1).toNat, nl_up r3.2 6 0 10 (nl_nz x1).toNat x2)) else none
          else none) := rfl
set_option maxRecDepth 20000 in
theorem sg_X6_undo_0 (LS : Int) (den : nl_D) (h : nl_H)  : nl_ex LS cd_X6_undo den ct_X6_undo 1 400 0 [some (vO 6 0)] [] h =
  (if nl_nz (h 6 0 24 0) = 0 then
    some (.inr ((-2), h))
  else
    (den m_X6_takes [vO 6 0, vA 6 0 23, vI (79 * ((nl_up h 6 0 24 0 ((h 6 0 24 0) - 1)) 6 0 24 0))] (nl_up h 6 0 24 0 ((h 6 0 24 0) - 1))).bind fun r1 =>
      some (.inr (r1.2 6 0 24 0, r1.2))) := rfl
set_option maxRecDepth 20000 in
theorem sg_X6_start_0 (LS : Int) (den : nl_D) (h : nl_H)  : nl_ex LS cd_X6_start den ct_X6_start 0 400 0 [some (vO 6 0)] [] h =
  ((den m_X6_lays [vO 6 0, vA 6 0 25, vI 0] h).bind fun r1 =>
    some (.inr (0, r1.2))) := rfl
set_option maxRecDepth 20000 in
theorem sg_X6_putBack_0 (LS : Int) (den : nl_D) (h : nl_H)  : nl_ex LS cd_X6_putBack den ct_X6_putBack 0 400 0 [some (vO 6 0)] [] h =
  ((den m_X6_takes [vO 6 0, vA 6 0 25, vI 0] h).bind fun r1 =>
    some (.inr (0, r1.2))) := rfl
set_option maxRecDepth 20000 in
theorem sg_X6_behind_0 (LS : Int) (den : nl_D) (h : nl_H) (x1 : Int) (x2 : Int) (x3 : Int) : nl_ex LS cd_X6_behind den ct_X6_behind 1 400 0 [some (vO 6 0), some (vI x1), some (vI x2), some (vI x3), none] [] h =
  ((den m_X6_in [vI x1, vI 0, vI 40] h).bind fun r1 =>
    if nl_nz r1.1 = 0 then
      some (.inr ((-1), r1.2))
    else
      (den m_X6_isOne [vO 6 0, vI x2] r1.2).bind fun r2 =>
        if nl_nz r2.1 = 0 then
          some (.inr ((-1), r2.2))
        else
          (den m_X6_in [vI x3, vI 0, vI 1] r2.2).bind fun r3 =>
            if nl_nz r3.1 = 0 then
              some (.inr ((-1), r3.2))
            else
              (den m_X6_start [vO 6 0] r3.2).bind fun r4 =>
                (den m_X6_goesOn [vO 6 0, vI x1] r4.2).bind fun r5 =>
                  if nl_nz x3 = 0 then
                    if 0 ≤ nl_nz x2 ∧ nl_nz x2 < 7 then
                      (den m_X6_putBack [vO 6 0] r5.2).bind fun r6 =>
                        some (.inr (r5.2 6 0 7 (nl_nz x2).toNat, r6.2))
                    else none
                  else
                    if 0 ≤ nl_nz x2 ∧ nl_nz x2 < 7 then
                      (den m_X6_putBack [vO 6 0] r5.2).bind fun r7 =>
                        some (.inr (r5.2 6 0 6 (nl_nz x2).toNat, r7.2))
                    else none) := rfl
set_option maxRecDepth 20000 in
theorem sg_X6_gaps_0 (LS : Int) (den : nl_D) (h : nl_H)  : nl_ex LS cd_X6_gaps den ct_X6_gaps 1 400 0 [some (vO 6 0)] [] h =
  ((den m_X6_gapSet [vO 6 0] h).bind fun r1 =>
    some (.inr (r1.1, r1.2))) := rfl
set_option maxRecDepth 20000 in
theorem sg_X6_first_0 (LS : Int) (den : nl_D) (h : nl_H) (x1 : Int) : nl_ex LS cd_X6_first den ct_X6_first 1 400 0 [some (vO 6 0), some (vI x1), none, none, none] [] h =
  ((den m_X6_isOne [vO 6 0, vI x1] h).bind fun r1 =>
    if nl_nz r1.1 = 0 then
      some (.inr ((-1), r1.2))
    else
      (den m_X6_start [vO 6 0] r1.2).bind fun r2 =>
        if 0 ≤ nl_nz x1 ∧ nl_nz x1 < 7 then some (.inl (23, [some (vO 6 0), some (vI x1), some (vI (r2.2 6 0 8 (nl_nz x1).toNat)), some (vI 0), none], r2.2)) else none) := rfl
set_option maxRecDepth 20000 in
theorem sg_X6_first_23 (LS : Int) (den : nl_D) (h : nl_H) (y1 : Int) (y2 : Int) (y3 : Int) : nl_ex LS cd_X6_first den ct_X6_first 1 400 23 [some (vO 6 0), some (vI y1), some (vI y2), some (vI y3), none] [] h =
  (if nl_nz 40 ≤ nl_nz y3 then
    if 0 ≤ nl_nz y1 ∧ nl_nz y1 < 7 then
      if nl_nz (h 6 0 8 (nl_nz y1).toNat) ≤ nl_nz y2 then
        (den m_X6_putBack [vO 6 0] h).bind fun r1 =>
          if nl_nz 0 = 0 then
            some (.inr ((-4), r1.2))
          else
            some (.inr (y3, r1.2))
      else
        (den m_X6_putBack [vO 6 0] h).bind fun r2 =>
          if nl_nz 1 = 0 then
            some (.inr ((-4), r2.2))
          else
            some (.inr (y3, r2.2))
    else none
  else
    if 0 ≤ nl_nz y1 ∧ nl_nz y1 < 7 then
      if nl_nz (h 6 0 8 (nl_nz y1).toNat) = nl_nz y2 then
        (den m_X6_passes [vO 6 0] h).bind fun r3 =>
          some (.inl (23, [some (vO 6 0), some (vI y1), some (vI y2), some (vI (y3 + 1)), none], r3.2))
      else
        if 0 ≤ nl_nz y1 ∧ nl_nz y1 < 7 then
          if nl_nz (h 6 0 8 (nl_nz y1).toNat) ≤ nl_nz y2 then
            (den m_X6_putBack [vO 6 0] h).bind fun r4 =>
              if nl_nz 0 = 0 then
                some (.inr ((-4), r4.2))
              else
                some (.inr (y3, r4.2))
          else
            (den m_X6_putBack [vO 6 0] h).bind fun r5 =>
              if nl_nz 1 = 0 then
                some (.inr ((-4), r5.2))
              else
                some (.inr (y3, r5.2))
        else none
    else none) := rfl
set_option maxRecDepth 20000 in
theorem sg_X6_firstRow_0 (LS : Int) (den : nl_D) (h : nl_H)  : nl_ex LS cd_X6_firstRow den ct_X6_firstRow 0 400 0 [some (vO 6 0), none] [] h =
  (some (.inl (2, [some (vO 6 0), some (vI 0)], h))) := rfl
set_option maxRecDepth 20000 in
theorem sg_X6_firstRow_2 (LS : Int) (den : nl_D) (h : nl_H) (y1 : Int) : nl_ex LS cd_X6_firstRow den ct_X6_firstRow 0 400 2 [some (vO 6 0), some (vI y1)] [] h =
  (if nl_nz (h 6 0 0 0) ≤ nl_nz y1 then
    some (.inr (0, h))
  else
    if 0 ≤ nl_nz y1 ∧ nl_nz y1 < 7 then some (.inl (2, [some (vO 6 0), some (vI (y1 + 1))], nl_up h 6 0 26 (nl_nz y1).toNat y1)) else none) := rfl
set_option maxRecDepth 20000 in
theorem sg_X6_nextRow_0 (LS : Int) (den : nl_D) (h : nl_H)  : nl_ex LS cd_X6_nextRow den ct_X6_nextRow 3 400 0 [some (vO 6 0), none, none, none, none, none, none] [] h =
  (some (.inl (7, [some (vO 6 0), some (vI ((h 6 0 0 0) - 2)), none, none, none, none, none], h))) := rfl
set_option maxRecDepth 20000 in
theorem sg_X6_nextRow_7 (LS : Int) (den : nl_D) (h : nl_H) (y1 : Int) : nl_ex LS cd_X6_nextRow den ct_X6_nextRow 3 400 7 [some (vO 6 0), some (vI y1), none, none, none, none, none] [] h =
  (if nl_nz y1 < 0 then
    if 0 ≤ nl_nz y1 then
      some (.inl (47, [some (vO 6 0), some (vI y1), some (vI ((h 6 0 0 0) - 1)), none, none, none, none], h))
    else
      some (.inr (0, h))
  else
    if 0 ≤ nl_nz y1 ∧ nl_nz y1 < 7 then
      if 0 ≤ nl_nz (y1 + 1) ∧ nl_nz (y1 + 1) < 7 then
        if nl_nz (h 6 0 26 (nl_nz y1).toNat) ≤ nl_nz (h 6 0 26 (nl_nz (y1 + 1)).toNat) then
          if 0 ≤ nl_nz y1 then
            some (.inl (47, [some (vO 6 0), some (vI y1), some (vI ((h 6 0 0 0) - 1)), none, none, none, none], h))
          else
            some (.inr (0, h))
        else
          some (.inl (7, [some (vO 6 0), some (vI (y1 + (-1))), none, none, none, none, none], h))
      else none
    else none) := rfl
set_option maxRecDepth 20000 in
theorem sg_X6_nextRow_47 (LS : Int) (den : nl_D) (h : nl_H) (y1 : Int) (y2 : Int) : nl_ex LS cd_X6_nextRow den ct_X6_nextRow 3 400 47 [some (vO 6 0), some (vI y1), some (vI y2), none, none, none, none] [] h =
  (if 0 ≤ nl_nz y2 ∧ nl_nz y2 < 7 then
    if 0 ≤ nl_nz y1 ∧ nl_nz y1 < 7 then
      if nl_nz (h 6 0 26 (nl_nz y1).toNat) ≤ nl_nz (h 6 0 26 (nl_nz y2).toNat) then
        if 0 ≤ nl_nz y1 ∧ nl_nz y1 < 7 then if 0 ≤ nl_nz y2 ∧ nl_nz y2 < 7 then if 0 ≤ nl_nz y1 ∧ nl_nz y1 < 7 then if 0 ≤ nl_nz y2 ∧ nl_nz y2 < 7 then some (.inl (107, [some (vO 6 0), some (vI y1), some (vI y2), some (vI (h 6 0 26 (nl_nz y1).toNat)), some (vI (((nl_up (nl_up h 6 0 26 (nl_nz y1).toNat (h 6 0 26 (nl_nz y2).toNat)) 6 0 26 (nl_nz y2).toNat (h 6 0 26 (nl_nz y1).toNat)) 6 0 0 0) - 1)), some (vI (y1 + 1)), none], nl_up (nl_up h 6 0 26 (nl_nz y1).toNat (h 6 0 26 (nl_nz y2).toNat)) 6 0 26 (nl_nz y2).toNat (h 6 0 26 (nl_nz y1).toNat))) else none else none else none else none
      else
        some (.inl (47, [some (vO 6 0), some (vI y1), some (vI (y2 + (-1))), none, none, none, none], h))
    else none
  else none) := rfl
set_option maxRecDepth 20000 in
theorem sg_X6_nextRow_107 (LS : Int) (den : nl_D) (h : nl_H) (y1 : Int) (y2 : Int) (y3 : Int) (y4 : Int) (y5 : Int) (w6 : Option nl_V) : nl_ex LS cd_X6_nextRow den ct_X6_nextRow 3 400 107 [some (vO 6 0), some (vI y1), some (vI y2), some (vI y3), some (vI y4), some (vI y5), w6] [] h =
  (if nl_nz y4 ≤ nl_nz y5 then
    some (.inr (1, h))
  else
    if 0 ≤ nl_nz y5 ∧ nl_nz y5 < 7 then if 0 ≤ nl_nz y4 ∧ nl_nz y4 < 7 then if 0 ≤ nl_nz y5 ∧ nl_nz y5 < 7 then if 0 ≤ nl_nz y4 ∧ nl_nz y4 < 7 then some (.inl (107, [some (vO 6 0), some (vI y1), some (vI y2), some (vI y3), some (vI (y4 + (-1))), some (vI (y5 + 1)), some (vI (h 6 0 26 (nl_nz y5).toNat))], nl_up (nl_up h 6 0 26 (nl_nz y5).toNat (h 6 0 26 (nl_nz y4).toNat)) 6 0 26 (nl_nz y4).toNat (h 6 0 26 (nl_nz y5).toNat))) else none else none else none else none) := rfl
set_option maxRecDepth 20000 in
theorem sg_X6_gapsBy_0 (LS : Int) (den : nl_D) (h : nl_H)  : nl_ex LS cd_X6_gapsBy den ct_X6_gapsBy 1 400 0 [some (vO 6 0), none, none] [] h =
  (some (.inl (4, [some (vO 6 0), some (vI 0), some (vI 0)], h))) := rfl
set_option maxRecDepth 20000 in
theorem sg_X6_gapsBy_4 (LS : Int) (den : nl_D) (h : nl_H) (y1 : Int) (y2 : Int) : nl_ex LS cd_X6_gapsBy den ct_X6_gapsBy 1 400 4 [some (vO 6 0), some (vI y1), some (vI y2)] [] h =
  (if nl_nz (h 6 0 0 0) ≤ nl_nz y2 then
    some (.inr (y1, h))
  else
    if 0 ≤ nl_nz y2 ∧ nl_nz y2 < 7 then
      (den m_X6_keeps [vO 6 0, vI y2, vI (h 6 0 26 (nl_nz y2).toNat)] h).bind fun r1 =>
        if nl_nz r1.1 = 0 then
          some (.inl (4, [some (vO 6 0), some (vI (y1 + 1)), some (vI (y2 + 1))], r1.2))
        else
          some (.inl (4, [some (vO 6 0), some (vI (y1 + 0)), some (vI (y2 + 1))], r1.2))
    else none) := rfl
set_option maxRecDepth 20000 in
theorem sg_X6_keptWeight_0 (LS : Int) (den : nl_D) (h : nl_H)  : nl_ex LS cd_X6_keptWeight den ct_X6_keptWeight 1 400 0 [some (vO 6 0), none, none] [] h =
  (some (.inl (4, [some (vO 6 0), some (vI 0), some (vI 0)], h))) := rfl
set_option maxRecDepth 20000 in
theorem sg_X6_keptWeight_4 (LS : Int) (den : nl_D) (h : nl_H) (y1 : Int) (y2 : Int) : nl_ex LS cd_X6_keptWeight den ct_X6_keptWeight 1 400 4 [some (vO 6 0), some (vI y1), some (vI y2)] [] h =
  (if nl_nz (h 6 0 0 0) ≤ nl_nz y2 then
    some (.inr (y1, h))
  else
    if 0 ≤ nl_nz y2 ∧ nl_nz y2 < 7 then
      (den m_X6_keeps [vO 6 0, vI y2, vI (h 6 0 26 (nl_nz y2).toNat)] h).bind fun r1 =>
        if nl_nz r1.1 = 0 then
          some (.inl (4, [some (vO 6 0), some (vI (y1 + 0)), some (vI (y2 + 1))], r1.2))
        else
          if 0 ≤ nl_nz y2 ∧ nl_nz y2 < 7 then
            (den m_X6_weight [vO 6 0, vI y2, vI (r1.2 6 0 26 (nl_nz y2).toNat)] r1.2).bind fun r2 =>
              some (.inl (4, [some (vO 6 0), some (vI (y1 + r2.1)), some (vI (y2 + 1))], r2.2))
          else none
    else none) := rfl
set_option maxRecDepth 20000 in
theorem sg_X6_even_0 (LS : Int) (den : nl_D) (h : nl_H) (x1 : Int) : nl_ex LS cd_X6_even den ct_X6_even 1 400 0 [some (vO 6 0), some (vI x1), none, none, none, none, none, none] [] h =
  ((den m_X6_in [vI x1, vI ((-1)), vI ((h 6 0 0 0) - 1)] h).bind fun r1 =>
    if nl_nz r1.1 = 0 then
      some (.inr ((-1), r1.2))
    else
      (den m_X6_firstRow [vO 6 0] r1.2).bind fun r2 =>
        some (.inl (29, [some (vO 6 0), some (vI x1), some (vI 1048576), some (vI ((-4))), some (vI 1), none, none, none], r2.2))) := rfl
set_option maxRecDepth 20000 in
theorem sg_X6_even_29 (LS : Int) (den : nl_D) (h : nl_H) (y1 : Int) (y2 : Int) (y3 : Int) (y4 : Int) (w5 : Option nl_V) (w6 : Option nl_V) (w7 : Option nl_V) : nl_ex LS cd_X6_even den ct_X6_even 1 400 29 [some (vO 6 0), some (vI y1), some (vI y2), some (vI y3), some (vI y4), w5, w6, w7] [] h =
  (if nl_nz y4 = 0 then
    if 0 ≤ nl_nz y1 then
      if 0 ≤ nl_nz y1 ∧ nl_nz y1 < 7 then some (.inr (h 6 0 27 (nl_nz y1).toNat, h)) else none
    else
      some (.inr (y2, h))
  else
    (den m_X6_gapsBy [vO 6 0] h).bind fun r1 =>
      (den m_X6_keptWeight [vO 6 0] r1.2).bind fun r2 =>
        if nl_nz r1.1 < nl_nz y2 then
          some (.inl (73, [some (vO 6 0), some (vI y1), some (vI r1.1), some (vI r2.1), some (vI y4), some (vI r1.1), some (vI r2.1), some (vI 0)], r2.2))
        else
          if nl_nz r1.1 = nl_nz y2 then
            if nl_nz r2.1 ≤ nl_nz y3 then
              (den m_X6_nextRow [vO 6 0] r2.2).bind fun r3 =>
                some (.inl (29, [some (vO 6 0), some (vI y1), some (vI y2), some (vI y3), some (vI r3.1), some (vI r1.1), some (vI r2.1), w7], r3.2))
            else
              some (.inl (73, [some (vO 6 0), some (vI y1), some (vI r1.1), some (vI r2.1), some (vI y4), some (vI r1.1), some (vI r2.1), some (vI 0)], r2.2))
          else
            (den m_X6_nextRow [vO 6 0] r2.2).bind fun r4 =>
              some (.inl (29, [some (vO 6 0), some (vI y1), some (vI y2), some (vI y3), some (vI r4.1), some (vI r1.1), some (vI r2.1), w7], r4.2))) := rfl
set_option maxRecDepth 20000 in
theorem sg_X6_even_73 (LS : Int) (den : nl_D) (h : nl_H) (y1 : Int) (y2 : Int) (y3 : Int) (y4 : Int) (y5 : Int) (y6 : Int) (y7 : Int) : nl_ex LS cd_X6_even den ct_X6_even 1 400 73 [some (vO 6 0), some (vI y1), some (vI y2), some (vI y3), some (vI y4), some (vI y5), some (vI y6), some (vI y7)] [] h =
  (if nl_nz (h 6 0 0 0) ≤ nl_nz y7 then
    (den m_X6_nextRow [vO 6 0] h).bind fun r1 =>
      some (.inl (29, [some (vO 6 0), some (vI y1), some (vI y2), some (vI y3), some (vI r1.1), some (vI y5), some (vI y6), some (vI y7)], r1.2))
  else
    if 0 ≤ nl_nz y7 ∧ nl_nz y7 < 7 then if 0 ≤ nl_nz y7 ∧ nl_nz y7 < 7 then some (.inl (73, [some (vO 6 0), some (vI y1), some (vI y2), some (vI y3), some (vI y4), some (vI y5), some (vI y6), some (vI (y7 + 1))], nl_up h 6 0 27 (nl_nz y7).toNat (h 6 0 26 (nl_nz y7).toNat))) else none else none) := rfl
set_option maxRecDepth 20000 in
theorem sg_X6_swapsTo_0 (LS : Int) (den : nl_D) (h : nl_H)  : nl_ex LS cd_X6_swapsTo den ct_X6_swapsTo 1 400 0 [some (vO 6 0), none, none, none, none] [] h =
  (some (.inl (9, [some (vO 6 0), some (vI (h 6 0 0 0)), some (vI 0), some (vI 0), none], h))) := rfl
set_option maxRecDepth 20000 in
theorem sg_X6_swapsTo_9 (LS : Int) (den : nl_D) (h : nl_H) (y1 : Int) (y2 : Int) (y3 : Int) (w4 : Option nl_V) : nl_ex LS cd_X6_swapsTo den ct_X6_swapsTo 1 400 9 [some (vO 6 0), some (vI y1), some (vI y2), some (vI y3), w4] [] h =
  (if nl_nz (h 6 0 0 0) ≤ nl_nz y3 then
    some (.inr (y1, h))
  else
    (den m_X6_has [vI y2, vI y3] h).bind fun r1 =>
      if nl_nz r1.1 = 0 then
        some (.inl (36, [some (vO 6 0), some (vI (y1 - 1)), some (vI y2), some (vI y3), some (vI y3)], r1.2))
      else
        some (.inl (36, [some (vO 6 0), some (vI (y1 - 0)), some (vI y2), some (vI y3), some (vI y3)], r1.2))) := rfl
set_option maxRecDepth 20000 in
theorem sg_X6_swapsTo_36 (LS : Int) (den : nl_D) (h : nl_H) (y1 : Int) (y2 : Int) (y3 : Int) (y4 : Int) : nl_ex LS cd_X6_swapsTo den ct_X6_swapsTo 1 400 36 [some (vO 6 0), some (vI y1), some (vI y2), some (vI y3), some (vI y4)] [] h =
  ((den m_X6_has [vI y2, vI y4] h).bind fun r1 =>
    if nl_nz r1.1 = 0 then
      if 0 ≤ nl_nz y4 ∧ nl_nz y4 < 32 then
        if 0 ≤ nl_nz y2 ∧ 0 ≤ nl_nz (1 * 2 ^ (nl_nz y4).toNat) then
          if 0 ≤ nl_nz y4 ∧ nl_nz y4 < 7 then
            (den m_X6_whoHas [vO 6 0, vI (r1.2 6 0 26 (nl_nz y4).toNat)] r1.2).bind fun r2 =>
              some (.inl (36, [some (vO 6 0), some (vI y1), some (vI ((((nl_nz y2).toNat ||| (nl_nz (1 * 2 ^ (nl_nz y4).toNat)).toNat : Nat) : Int))), some (vI y3), some (vI r2.1)], r2.2))
          else none
        else none
      else none
    else
      some (.inl (9, [some (vO 6 0), some (vI y1), some (vI y2), some (vI (y3 + 1)), some (vI y4)], r1.2))) := rfl
set_option maxRecDepth 20000 in
theorem sg_X6_swaps_0 (LS : Int) (den : nl_D) (h : nl_H)  : nl_ex LS cd_X6_swaps den ct_X6_swaps 1 400 0 [some (vO 6 0), none, none] [] h =
  ((den m_X6_firstRow [vO 6 0] h).bind fun r1 =>
    some (.inl (9, [some (vO 6 0), some (vI 1048576), some (vI 1)], r1.2))) := rfl
set_option maxRecDepth 20000 in
theorem sg_X6_swaps_9 (LS : Int) (den : nl_D) (h : nl_H) (y1 : Int) (y2 : Int) : nl_ex LS cd_X6_swaps den ct_X6_swaps 1 400 9 [some (vO 6 0), some (vI y1), some (vI y2)] [] h =
  (if nl_nz y2 = 0 then
    if nl_nz y1 = nl_nz 1048576 then
      some (.inr ((-4), h))
    else
      some (.inr (y1, h))
  else
    (den m_X6_gapsBy [vO 6 0] h).bind fun r1 =>
      if nl_nz r1.1 = 0 then
        (den m_X6_swapsTo [vO 6 0] r1.2).bind fun r2 =>
          (den m_X6_lesser [vI y1, vI r2.1] r2.2).bind fun r3 =>
            (den m_X6_nextRow [vO 6 0] r3.2).bind fun r4 =>
              some (.inl (9, [some (vO 6 0), some (vI r3.1), some (vI r4.1)], r4.2))
      else
        (den m_X6_nextRow [vO 6 0] r1.2).bind fun r5 =>
          some (.inl (9, [some (vO 6 0), some (vI y1), some (vI r5.1)], r5.2))) := rfl
set_option maxRecDepth 20000 in
theorem sg_X6_off_0 (LS : Int) (den : nl_D) (h : nl_H) (x1 : Int) (x2 : Int) : nl_ex LS cd_X6_off den ct_X6_off 1 400 0 [some (vI x1), some (vI x2)] [] h =
  (if nl_nz x1 ≤ nl_nz x2 then
    some (.inr (x2 - x1, h))
  else
    some (.inr (x1 - x2, h))) := rfl
set_option maxRecDepth 20000 in
theorem sg_X6_far_0 (LS : Int) (den : nl_D) (h : nl_H) (x1 : Int) : nl_ex LS cd_X6_far den ct_X6_far 1 400 0 [some (vO 6 0), some (vI x1), none, none, none, none] [] h =
  ((den m_X6_in [vI x1, vI 0, vI 1] h).bind fun r1 =>
    if nl_nz r1.1 = 0 then
      some (.inr ((-1), r1.2))
    else
      if 0 ≤ nl_nz 0 ∧ nl_nz 0 < 7 then if 0 ≤ nl_nz 0 ∧ nl_nz 0 < 7 then some (.inl (31, [some (vO 6 0), some (vI x1), some (vI 0), some (vI (r1.2 6 0 3 (nl_nz 0).toNat)), some (vI (r1.2 6 0 3 (nl_nz 0).toNat)), some (vI 1)], r1.2)) else none else none) := rfl
set_option maxRecDepth 20000 in
theorem sg_X6_far_31 (LS : Int) (den : nl_D) (h : nl_H) (y1 : Int) (y2 : Int) (y3 : Int) (y4 : Int) (y5 : Int) : nl_ex LS cd_X6_far den ct_X6_far 1 400 31 [some (vO 6 0), some (vI y1), some (vI y2), some (vI y3), some (vI y4), some (vI y5)] [] h =
  (if nl_nz (h 6 0 0 0) ≤ nl_nz y5 then
    if nl_nz y1 = 0 then
      some (.inr (y2, h))
    else
      some (.inr (y4 - y3, h))
  else
    (den m_X6_whoHas [vO 6 0, vI (y5 - 1)] h).bind fun r1 =>
      if 0 ≤ nl_nz r1.1 ∧ nl_nz r1.1 < 7 then
        (den m_X6_whoHas [vO 6 0, vI y5] r1.2).bind fun r2 =>
          if 0 ≤ nl_nz r2.1 ∧ nl_nz r2.1 < 7 then
            (den m_X6_off [vI (r1.2 6 0 3 (nl_nz r1.1).toNat), vI (r2.2 6 0 3 (nl_nz r2.1).toNat)] r2.2).bind fun r3 =>
              if 0 ≤ nl_nz y5 ∧ nl_nz y5 < 7 then
                (den m_X6_lesser [vI y3, vI (r3.2 6 0 3 (nl_nz y5).toNat)] r3.2).bind fun r4 =>
                  if 0 ≤ nl_nz y5 ∧ nl_nz y5 < 7 then
                    (den m_X6_greater [vI y4, vI (r4.2 6 0 3 (nl_nz y5).toNat)] r4.2).bind fun r5 =>
                      some (.inl (31, [some (vO 6 0), some (vI y1), some (vI (y2 + r3.1)), some (vI r4.1), some (vI r5.1), some (vI (y5 + 1))], r5.2))
                  else none
              else none
          else none
      else none) := rfl
set_option maxRecDepth 20000 in
theorem sg_X6_lamps_0 (LS : Int) (den : nl_D) (h : nl_H) (x1 : Int) (x2 : Int) : nl_ex LS cd_X6_lamps den ct_X6_lamps 1 400 0 [some (vO 6 0), some (vI x1), some (vI x2), none, none, none, none] [] h =
  ((den m_X6_in [vI x1, vI 1, vI 40] h).bind fun r1 =>
    if nl_nz r1.1 = 0 then
      some (.inr ((-1), r1.2))
    else
      (den m_X6_in [vI x2, vI 0, vI 1] r1.2).bind fun r2 =>
        if nl_nz r2.1 = 0 then
          some (.inr ((-1), r2.2))
        else
          some (.inl (31, [some (vO 6 0), some (vI x1), some (vI x2), some (vI ((-4))), some (vI 1048576), some (vI 0), none], r2.2))) := rfl
set_option maxRecDepth 20000 in
theorem sg_X6_lamps_31 (LS : Int) (den : nl_D) (h : nl_H) (y1 : Int) (y2 : Int) (y3 : Int) (y4 : Int) (y5 : Int) (w6 : Option nl_V) : nl_ex LS cd_X6_lamps den ct_X6_lamps 1 400 31 [some (vO 6 0), some (vI y1), some (vI y2), some (vI y3), some (vI y4), some (vI y5), w6] [] h =
  (if 0 ≤ nl_nz (h 6 0 0 0) ∧ nl_nz (h 6 0 0 0) < 32 then
    if nl_nz (1 * 2 ^ (nl_nz (h 6 0 0 0)).toNat) ≤ nl_nz y5 then
      if nl_nz y3 = nl_nz ((-4)) then
        some (.inr (y3, h))
      else
        if nl_nz y2 = nl_nz 1 then
          some (.inr (y3, h))
        else
          some (.inr (y4, h))
    else
      (den m_X6_bits [vI y5] h).bind fun r1 =>
        if nl_nz y4 ≤ nl_nz r1.1 then
          some (.inl (31, [some (vO 6 0), some (vI y1), some (vI y2), some (vI y3), some (vI y4), some (vI (y5 + 1)), w6], r1.2))
        else
          (den m_X6_start [vO 6 0] r1.2).bind fun r2 =>
            some (.inl (59, [some (vO 6 0), some (vI y1), some (vI y2), some (vI y3), some (vI y4), some (vI y5), some (vI 0)], r2.2))
  else none) := rfl
set_option maxRecDepth 20000 in
theorem sg_X6_lamps_59 (LS : Int) (den : nl_D) (h : nl_H) (y1 : Int) (y2 : Int) (y3 : Int) (y4 : Int) (y5 : Int) (y6 : Int) : nl_ex LS cd_X6_lamps den ct_X6_lamps 1 400 59 [some (vO 6 0), some (vI y1), some (vI y2), some (vI y3), some (vI y4), some (vI y5), some (vI y6)] [] h =
  (if nl_nz (h 6 0 0 0) ≤ nl_nz y6 then
    (den m_X6_goesOn [vO 6 0, vI y1] h).bind fun r1 =>
      if nl_nz r1.1 = 0 then
        (den m_X6_bits [vI y5] r1.2).bind fun r2 =>
          (den m_X6_putBack [vO 6 0] r2.2).bind fun r3 =>
            some (.inl (31, [some (vO 6 0), some (vI y1), some (vI y2), some (vI y5), some (vI r2.1), some (vI (y5 + 1)), some (vI y6)], r3.2))
      else
        (den m_X6_putBack [vO 6 0] r1.2).bind fun r4 =>
          some (.inl (31, [some (vO 6 0), some (vI y1), some (vI y2), some (vI y3), some (vI y4), some (vI (y5 + 1)), some (vI y6)], r4.2))
  else
    (den m_X6_has [vI y5, vI y6] h).bind fun r5 =>
      if nl_nz r5.1 = 0 then
        some (.inl (59, [some (vO 6 0), some (vI y1), some (vI y2), some (vI y3), some (vI y4), some (vI y5), some (vI (y6 + 1))], r5.2))
      else
        (den m_X6_rests [vO 6 0, vI y6] r5.2).bind fun r6 =>
          some (.inl (59, [some (vO 6 0), some (vI y1), some (vI y2), some (vI y3), some (vI y4), some (vI y5), some (vI (y6 + 1))], r6.2))) := rfl
set_option maxRecDepth 20000 in
theorem sg_X6_seen_0 (LS : Int) (den : nl_D) (h : nl_H) (x1 : Int) (x2 : Int) (x3 : Int) : nl_ex LS cd_X6_seen den ct_X6_seen 1 400 0 [some (vO 6 0), some (vI x1), some (vI x2), some (vI x3)] [] h =
  ((den m_X6_in [vI x1, vI 0, vI 20] h).bind fun r1 =>
    if nl_nz r1.1 = 0 then
      some (.inr ((-1), r1.2))
    else
      (den m_X6_isOne [vO 6 0, vI x2] r1.2).bind fun r2 =>
        if nl_nz r2.1 = 0 then
          some (.inr ((-1), r2.2))
        else
          (den m_X6_in [vI x3, vI 0, vI 1] r2.2).bind fun r3 =>
            if nl_nz r3.1 = 0 then
              some (.inr ((-1), r3.2))
            else
              if nl_nz (r3.2 6 0 11 0) = nl_nz 6 then
                some (.inr ((-3), r3.2))
              else
                if 0 ≤ nl_nz (r3.2 6 0 11 0) ∧ nl_nz (r3.2 6 0 11 0) < 6 then if 0 ≤ nl_nz ((nl_up r3.2 6 0 12 (nl_nz (r3.2 6 0 11 0)).toNat x1) 6 0 11 0) ∧ nl_nz ((nl_up r3.2 6 0 12 (nl_nz (r3.2 6 0 11 0)).toNat x1) 6 0 11 0) < 6 then if 0 ≤ nl_nz ((nl_up (nl_up r3.2 6 0 12 (nl_nz (r3.2 6 0 11 0)).toNat x1) 6 0 13 (nl_nz ((nl_up r3.2 6 0 12 (nl_nz (r3.2 6 0 11 0)).toNat x1) 6 0 11 0)).toNat x2) 6 0 11 0) ∧ nl_nz ((nl_up (nl_up r3.2 6 0 12 (nl_nz (r3.2 6 0 11 0)).toNat x1) 6 0 13 (nl_nz ((nl_up r3.2 6 0 12 (nl_nz (r3.2 6 0 11 0)).toNat x1) 6 0 11 0)).toNat x2) 6 0 11 0) < 6 then some (.inr ((nl_up (nl_up (nl_up (nl_up r3.2 6 0 12 (nl_nz (r3.2 6 0 11 0)).toNat x1) 6 0 13 (nl_nz ((nl_up r3.2 6 0 12 (nl_nz (r3.2 6 0 11 0)).toNat x1) 6 0 11 0)).toNat x2) 6 0 14 (nl_nz ((nl_up (nl_up r3.2 6 0 12 (nl_nz (r3.2 6 0 11 0)).toNat x1) 6 0 13 (nl_nz ((nl_up r3.2 6 0 12 (nl_nz (r3.2 6 0 11 0)).toNat x1) 6 0 11 0)).toNat x2) 6 0 11 0)).toNat x3) 6 0 11 0 (((nl_up (nl_up (nl_up r3.2 6 0 12 (nl_nz (r3.2 6 0 11 0)).toNat x1) 6 0 13 (nl_nz ((nl_up r3.2 6 0 12 (nl_nz (r3.2 6 0 11 0)).toNat x1) 6 0 11 0)).toNat x2) 6 0 14 (nl_nz ((nl_up (nl_up r3.2 6 0 12 (nl_nz (r3.2 6 0 11 0)).toNat x1) 6 0 13 (nl_nz ((nl_up r3.2 6 0 12 (nl_nz (r3.2 6 0 11 0)).toNat x1) 6 0 11 0)).toNat x2) 6 0 11 0)).toNat x3) 6 0 11 0) + 1)) 6 0 11 0, nl_up (nl_up (nl_up (nl_up r3.2 6 0 12 (nl_nz (r3.2 6 0 11 0)).toNat x1) 6 0 13 (nl_nz ((nl_up r3.2 6 0 12 (nl_nz (r3.2 6 0 11 0)).toNat x1) 6 0 11 0)).toNat x2) 6 0 14 (nl_nz ((nl_up (nl_up r3.2 6 0 12 (nl_nz (r3.2 6 0 11 0)).toNat x1) 6 0 13 (nl_nz ((nl_up r3.2 6 0 12 (nl_nz (r3.2 6 0 11 0)).toNat x1) 6 0 11 0)).toNat x2) 6 0 11 0)).toNat x3) 6 0 11 0 (((nl_up (nl_up (nl_up r3.2 6 0 12 (nl_nz (r3.2 6 0 11 0)).toNat x1) 6 0 13 (nl_nz ((nl_up r3.2 6 0 12 (nl_nz (r3.2 6 0 11 0)).toNat x1) 6 0 11 0)).toNat x2) 6 0 14 (nl_nz ((nl_up (nl_up r3.2 6 0 12 (nl_nz (r3.2 6 0 11 0)).toNat x1) 6 0 13 (nl_nz ((nl_up r3.2 6 0 12 (nl_nz (r3.2 6 0 11 0)).toNat x1) 6 0 11 0)).toNat x2) 6 0 11 0)).toNat x3) 6 0 11 0) + 1))) else none else none else none) := rfl
set_option maxRecDepth 20000 in
theorem sg_X6_forget_0 (LS : Int) (den : nl_D) (h : nl_H)  : nl_ex LS cd_X6_forget den ct_X6_forget 1 400 0 [some (vO 6 0), none] [] h =
  (some (.inr (h 6 0 11 0, nl_up h 6 0 11 0 0))) := rfl
set_option maxRecDepth 20000 in
theorem sg_X6_isSo_0 (LS : Int) (den : nl_D) (h : nl_H)  : nl_ex LS cd_X6_isSo den ct_X6_isSo 3 400 0 [some (vO 6 0), none, none, none, none] [] h =
  ((den m_X6_start [vO 6 0] h).bind fun r1 =>
    some (.inl (8, [some (vO 6 0), some (vI 1), some (vI 0), none, none], r1.2))) := rfl
set_option maxRecDepth 20000 in
theorem sg_X6_isSo_8 (LS : Int) (den : nl_D) (h : nl_H) (y1 : Int) (y2 : Int) (w3 : Option nl_V) (w4 : Option nl_V) : nl_ex LS cd_X6_isSo den ct_X6_isSo 3 400 8 [some (vO 6 0), some (vI y1), some (vI y2), w3, w4] [] h =
  (if nl_nz 20 < nl_nz y2 then
    (den m_X6_putBack [vO 6 0] h).bind fun r1 =>
      if y1 = 0 ∨ y1 = 1 then some (.inr (y1, r1.2)) else none
  else
    (den m_X6_gapSet [vO 6 0] h).bind fun r2 =>
      some (.inl (22, [some (vO 6 0), some (vI y1), some (vI y2), some (vI r2.1), some (vI 0)], r2.2))) := rfl
set_option maxRecDepth 20000 in
theorem sg_X6_isSo_22 (LS : Int) (den : nl_D) (h : nl_H) (y1 : Int) (y2 : Int) (y3 : Int) (y4 : Int) : nl_ex LS cd_X6_isSo den ct_X6_isSo 3 400 22 [some (vO 6 0), some (vI y1), some (vI y2), some (vI y3), some (vI y4)] [] h =
  (if nl_nz (h 6 0 11 0) ≤ nl_nz y4 then
    (den m_X6_passes [vO 6 0] h).bind fun r1 =>
      some (.inl (8, [some (vO 6 0), some (vI y1), some (vI (y2 + 1)), some (vI y3), some (vI y4)], r1.2))
  else
    if nl_nz y1 = 0 then
      some (.inl (22, [some (vO 6 0), some (vI 0), some (vI y2), some (vI y3), some (vI (y4 + 1))], h))
    else
      if 0 ≤ nl_nz y4 ∧ nl_nz y4 < 6 then
        if nl_nz (h 6 0 12 (nl_nz y4).toNat) = nl_nz y2 then
          if 0 ≤ nl_nz y4 ∧ nl_nz y4 < 6 then
            if 0 ≤ nl_nz (h 6 0 13 (nl_nz y4).toNat) ∧ nl_nz (h 6 0 13 (nl_nz y4).toNat) < 32 then
              if 0 ≤ nl_nz (nl_nz y3 / 2 ^ (nl_nz (h 6 0 13 (nl_nz y4).toNat)).toNat) ∧ 0 ≤ nl_nz 1 then
                if 0 ≤ nl_nz y4 ∧ nl_nz y4 < 6 then
                  if nl_nz ((((nl_nz (nl_nz y3 / 2 ^ (nl_nz (h 6 0 13 (nl_nz y4).toNat)).toNat)).toNat &&& (nl_nz 1).toNat : Nat) : Int)) = nl_nz (h 6 0 14 (nl_nz y4).toNat) then
                    some (.inl (22, [some (vO 6 0), some (vI 1), some (vI y2), some (vI y3), some (vI (y4 + 1))], h))
                  else
                    some (.inl (22, [some (vO 6 0), some (vI 0), some (vI y2), some (vI y3), some (vI (y4 + 1))], h))
                else none
              else none
            else none
          else none
        else
          some (.inl (22, [some (vO 6 0), some (vI 1), some (vI y2), some (vI y3), some (vI (y4 + 1))], h))
      else none) := rfl
set_option maxRecDepth 20000 in
theorem sg_X6_kinds_0 (LS : Int) (den : nl_D) (h : nl_H) (x1 : Int) : nl_ex LS cd_X6_kinds den ct_X6_kinds 1 400 0 [some (vO 6 0), some (vI x1), none, none, none] [] h =
  ((den m_X6_isOne [vO 6 0, vI x1] h).bind fun r1 =>
    if nl_nz r1.1 = 0 then
      some (.inr ((-1), r1.2))
    else
      if 0 ≤ nl_nz x1 ∧ nl_nz x1 < 7 then some (.inl (22, [some (vO 6 0), some (vI x1), some (vI (r1.2 6 0 1 (nl_nz x1).toNat)), some (vI 0), some (vI 0)], r1.2)) else none) := rfl
set_option maxRecDepth 20000 in
theorem sg_X6_kinds_22 (LS : Int) (den : nl_D) (h : nl_H) (y1 : Int) (y2 : Int) (y3 : Int) (y4 : Int) : nl_ex LS cd_X6_kinds den ct_X6_kinds 1 400 22 [some (vO 6 0), some (vI y1), some (vI y2), some (vI y3), some (vI y4)] [] h =
  (if nl_nz 3 < nl_nz y4 then
    if 0 ≤ nl_nz y1 ∧ nl_nz y1 < 7 then some (.inr (y3, nl_up h 6 0 1 (nl_nz y1).toNat y2)) else none
  else
    if 0 ≤ nl_nz y1 ∧ nl_nz y1 < 7 then
      (den m_X6_isSo [vO 6 0] (nl_up h 6 0 1 (nl_nz y1).toNat y4)).bind fun r1 =>
        if nl_nz r1.1 = 0 then
          if 0 ≤ nl_nz y3 ∧ 0 ≤ nl_nz 0 then some (.inl (22, [some (vO 6 0), some (vI y1), some (vI y2), some (vI ((((nl_nz y3).toNat ||| (nl_nz 0).toNat : Nat) : Int))), some (vI (y4 + 1))], r1.2)) else none
        else
          if 0 ≤ nl_nz y4 ∧ nl_nz y4 < 32 then if 0 ≤ nl_nz y3 ∧ 0 ≤ nl_nz (1 * 2 ^ (nl_nz y4).toNat) then some (.inl (22, [some (vO 6 0), some (vI y1), some (vI y2), some (vI ((((nl_nz y3).toNat ||| (nl_nz (1 * 2 ^ (nl_nz y4).toNat)).toNat : Nat) : Int))), some (vI (y4 + 1))], r1.2)) else none else none
    else none) := rfl
set_option maxRecDepth 20000 in
theorem sg_X6_strengths_0 (LS : Int) (den : nl_D) (h : nl_H) (x1 : Int) (x2 : Int) : nl_ex LS cd_X6_strengths den ct_X6_strengths 1 400 0 [some (vO 6 0), some (vI x1), some (vI x2), none, none, none, none, none] [] h =
  ((den m_X6_isOne [vO 6 0, vI x1] h).bind fun r1 =>
    if nl_nz r1.1 = 0 then
      some (.inr ((-1), r1.2))
    else
      (den m_X6_in [vI x2, vI 0, vI 1] r1.2).bind fun r2 =>
        if nl_nz r2.1 = 0 then
          some (.inr ((-1), r2.2))
        else
          if 0 ≤ nl_nz x1 ∧ nl_nz x1 < 7 then some (.inl (37, [some (vO 6 0), some (vI x1), some (vI x2), some (vI (r2.2 6 0 2 (nl_nz x1).toNat)), some (vI 0), some (vI ((-4))), some (vI 40), none], r2.2)) else none) := rfl
set_option maxRecDepth 20000 in
theorem sg_X6_strengths_37 (LS : Int) (den : nl_D) (h : nl_H) (y1 : Int) (y2 : Int) (y3 : Int) (y4 : Int) (y5 : Int) (y6 : Int) (w7 : Option nl_V) : nl_ex LS cd_X6_strengths den ct_X6_strengths 1 400 37 [some (vO 6 0), some (vI y1), some (vI y2), some (vI y3), some (vI y4), some (vI y5), some (vI y6), w7] [] h =
  (if nl_nz y6 < 0 then
    if 0 ≤ nl_nz y1 ∧ nl_nz y1 < 7 then
      if nl_nz y2 = 0 then
        some (.inr (y4, nl_up h 6 0 2 (nl_nz y1).toNat y3))
      else
        some (.inr (y5, nl_up h 6 0 2 (nl_nz y1).toNat y3))
    else none
  else
    if 0 ≤ nl_nz y1 ∧ nl_nz y1 < 7 then
      (den m_X6_isSo [vO 6 0] (nl_up h 6 0 2 (nl_nz y1).toNat y6)).bind fun r1 =>
        if nl_nz r1.1 = 0 then
          if nl_nz r1.1 = 0 then
            some (.inl (37, [some (vO 6 0), some (vI y1), some (vI y2), some (vI y3), some (vI (y4 + 0)), some (vI y5), some (vI (y6 + (-1))), some (vI r1.1)], r1.2))
          else
            some (.inl (37, [some (vO 6 0), some (vI y1), some (vI y2), some (vI y3), some (vI (y4 + 0)), some (vI y6), some (vI (y6 + (-1))), some (vI r1.1)], r1.2))
        else
          if nl_nz r1.1 = 0 then
            some (.inl (37, [some (vO 6 0), some (vI y1), some (vI y2), some (vI y3), some (vI (y4 + 1)), some (vI y5), some (vI (y6 + (-1))), some (vI r1.1)], r1.2))
          else
            some (.inl (37, [some (vO 6 0), some (vI y1), some (vI y2), some (vI y3), some (vI (y4 + 1)), some (vI y6), some (vI (y6 + (-1))), some (vI r1.1)], r1.2))
    else none) := rfl
set_option maxRecDepth 20000 in
theorem sg_X6_common_0 (LS : Int) (den : nl_D) (h : nl_H) (x1 : Int) (x2 : Int) : nl_ex LS cd_X6_common den ct_X6_common 2 400 0 [some (vL x1), none, some (vL x2), none, none, none, none, none, none, none] [] h =
  (some (.inl (6, [some (vL x1), none, some (vL x2), none, some (vL x1), none, some (vL x2), none, none, none], h))) := rfl
set_option maxRecDepth 20000 in
theorem sg_X6_common_6 (LS : Int) (den : nl_D) (h : nl_H) (y0 : Int) (y2 : Int) (y4 : Int) (y6 : Int) (w8 : Option nl_V) : nl_ex LS cd_X6_common den ct_X6_common 2 400 6 [some (vL y0), none, some (vL y2), none, some (vL y4), none, some (vL y6), none, w8, none] [] h =
  (if nl_nz (nl_cmp (nl_nl y6) (nl_nl 0)) = 0 then
    some (.inr (y4, h))
  else
    if nl_nl y6 = 0 then none else
      some (.inl (6, [some (vL y0), none, some (vL y2), none, some (vL y6), none, some (vL ((nl_nl y4).tmod (nl_nl y6))), none, some (vL ((nl_nl y4).tmod (nl_nl y6))), none], h))) := rfl
set_option maxRecDepth 20000 in
theorem sg_X6_likely_0 (LS : Int) (den : nl_D) (h : nl_H) (x1 : Int) (x2 : Int) (x3 : Int) : nl_ex LS cd_X6_likely den ct_X6_likely 1 400 0 [some (vO 6 0), some (vI x1), some (vI x2), some (vI x3), none, none, none, none, none, none, none] [] h =
  ((den m_X6_isOne [vO 6 0, vI x1] h).bind fun r1 =>
    if nl_nz r1.1 = 0 then
      some (.inr ((-1), r1.2))
    else
      (den m_X6_in [vI x2, vI 0, vI 9] r1.2).bind fun r2 =>
        if nl_nz r2.1 = 0 then
          some (.inr ((-1), r2.2))
        else
          (den m_X6_in [vI x3, vI 0, vI 1] r2.2).bind fun r3 =>
            if nl_nz r3.1 = 0 then
              some (.inr ((-1), r3.2))
            else
              if 0 ≤ nl_nz x1 ∧ nl_nz x1 < 7 then some (.inl (43, [some (vO 6 0), some (vI x1), some (vI x2), some (vI x3), some (vI (r3.2 6 0 7 (nl_nz x1).toNat)), some (vL 0), none, some (vI 0), none, none, none], r3.2)) else none) := rfl
set_option maxRecDepth 20000 in
theorem sg_X6_likely_43 (LS : Int) (den : nl_D) (h : nl_H) (y1 : Int) (y2 : Int) (y3 : Int) (y4 : Int) (y5 : Int) (y7 : Int) : nl_ex LS cd_X6_likely den ct_X6_likely 1 400 43 [some (vO 6 0), some (vI y1), some (vI y2), some (vI y3), some (vI y4), some (vL y5), none, some (vI y7), none, none, none] [] h =
  (if nl_nz (h 6 0 0 0) ≤ nl_nz y7 then
    (den m_X6_common [vL y5, vL (10 * (nl_nz (h 6 0 0 0)))] h).bind fun r1 =>
      if nl_nz y3 = 0 then
        if nl_nl r1.1 = 0 then none else
          some (.inr ((nl_nl y5).tdiv (nl_nl r1.1), r1.2))
      else
        if nl_nl r1.1 = 0 then none else
          some (.inr ((nl_nl (10 * (nl_nz (h 6 0 0 0)))).tdiv (nl_nl r1.1), r1.2))
  else
    (den m_X6_lesser [vI 40, vI (y4 + y2)] h).bind fun r2 =>
      if 0 ≤ nl_nz y1 ∧ nl_nz y1 < 7 then
        (den m_X6_keeps [vO 6 0, vI y1, vI y7] (nl_up r2.2 6 0 7 (nl_nz y1).toNat r2.1)).bind fun r3 =>
          if nl_nz r3.1 = 0 then
            if 0 ≤ nl_nz y1 ∧ nl_nz y1 < 7 then
              (den m_X6_keeps [vO 6 0, vI y1, vI y7] (nl_up r3.2 6 0 7 (nl_nz y1).toNat y4)).bind fun r4 =>
                if nl_nz r4.1 = 0 then
                  some (.inl (43, [some (vO 6 0), some (vI y1), some (vI y2), some (vI y3), some (vI y4), some (vL ((y5 + 0) + 0)), none, some (vI (y7 + 1)), none, none, none], r4.2))
                else
                  some (.inl (43, [some (vO 6 0), some (vI y1), some (vI y2), some (vI y3), some (vI y4), some (vL ((y5 + 0) + (nl_nz (10 - y2)))), none, some (vI (y7 + 1)), none, none, none], r4.2))
            else none
          else
            if 0 ≤ nl_nz y1 ∧ nl_nz y1 < 7 then
              (den m_X6_keeps [vO 6 0, vI y1, vI y7] (nl_up r3.2 6 0 7 (nl_nz y1).toNat y4)).bind fun r5 =>
                if nl_nz r5.1 = 0 then
                  some (.inl (43, [some (vO 6 0), some (vI y1), some (vI y2), some (vI y3), some (vI y4), some (vL ((y5 + (nl_nz y2)) + 0)), none, some (vI (y7 + 1)), none, none, none], r5.2))
                else
                  some (.inl (43, [some (vO 6 0), some (vI y1), some (vI y2), some (vI y3), some (vI y4), some (vL ((y5 + (nl_nz y2)) + (nl_nz (10 - y2)))), none, some (vI (y7 + 1)), none, none, none], r5.2))
            else none
      else none) := rfl
set_option maxRecDepth 20000 in
theorem sg_X6_tiredAll_0 (LS : Int) (den : nl_D) (h : nl_H)  : nl_ex LS cd_X6_tiredAll den ct_X6_tiredAll 1 400 0 [some (vO 6 0), none, none] [] h =
  (some (.inl (4, [some (vO 6 0), some (vI 0), some (vI 0)], h))) := rfl
set_option maxRecDepth 20000 in
theorem sg_X6_tiredAll_4 (LS : Int) (den : nl_D) (h : nl_H) (y1 : Int) (y2 : Int) : nl_ex LS cd_X6_tiredAll den ct_X6_tiredAll 1 400 4 [some (vO 6 0), some (vI y1), some (vI y2)] [] h =
  (if nl_nz (h 6 0 0 0) ≤ nl_nz y2 then
    some (.inr (y1, h))
  else
    if 0 ≤ nl_nz y2 ∧ nl_nz y2 < 7 then some (.inl (4, [some (vO 6 0), some (vI (y1 + (h 6 0 7 (nl_nz y2).toNat))), some (vI (y2 + 1))], h)) else none) := rfl
set_option maxRecDepth 20000 in
theorem sg_X6_winter_0 (LS : Int) (den : nl_D) (h : nl_H) (x1 : Int) (x2 : Int) (x3 : Int) : nl_ex LS cd_X6_winter den ct_X6_winter 1 400 0 [some (vO 6 0), some (vI x1), some (vI x2), some (vI x3), none, none, none, none, none, none, none, none] [] h =
  ((den m_X6_in [vI x1, vI 0, vI 9999] h).bind fun r1 =>
    if nl_nz r1.1 = 0 then
      some (.inr ((-1), r1.2))
    else
      (den m_X6_in [vI x2, vI 1, vI 60] r1.2).bind fun r2 =>
        if nl_nz r2.1 = 0 then
          some (.inr ((-1), r2.2))
        else
          (den m_X6_in [vI x3, vI 0, vI 2] r2.2).bind fun r3 =>
            if nl_nz r3.1 = 0 then
              some (.inr ((-1), r3.2))
            else
              (den m_X6_start [vO 6 0] r3.2).bind fun r4 =>
                some (.inl (42, [some (vO 6 0), some (vI x1), some (vI x2), some (vI x3), some (vI 0), some (vI 0), none, none, none, none, none, none], r4.2))) := rfl
set_option maxRecDepth 20000 in
theorem sg_X6_winter_42 (LS : Int) (den : nl_D) (h : nl_H) (y1 : Int) (y2 : Int) (y3 : Int) (y4 : Int) (y5 : Int) (w6 : Option nl_V) (w8 : Option nl_V) (w9 : Option nl_V) (w10 : Option nl_V) (w11 : Option nl_V) : nl_ex LS cd_X6_winter den ct_X6_winter 1 400 42 [some (vO 6 0), some (vI y1), some (vI y2), some (vI y3), some (vI y4), some (vI y5), w6, none, w8, w9, w10, w11] [] h =
  (if nl_nz y2 ≤ nl_nz y5 then
    if nl_nz y3 = 0 then
      (den m_X6_putBack [vO 6 0] h).bind fun r1 =>
        some (.inr (y4, r1.2))
    else
      if nl_nz y3 = nl_nz 1 then
        (den m_X6_tiredAll [vO 6 0] h).bind fun r2 =>
          (den m_X6_putBack [vO 6 0] r2.2).bind fun r3 =>
            some (.inr (r2.1, r3.2))
      else
        if 0 ≤ nl_nz 0 ∧ nl_nz 0 < 7 then
          (den m_X6_putBack [vO 6 0] h).bind fun r4 =>
            some (.inr (h 6 0 6 (nl_nz 0).toNat, r4.2))
        else none
  else
    if nl_nl 65521 = 0 then none else
      if nl_nl 2 = 0 then none else
        if nl_nz (h 6 0 0 0) = 0 then none else
          if nl_nz 8 = 0 then none else
            if nl_nz (h 6 0 0 0) = 0 then none else
              if nl_nz 64 = 0 then none else
                if nl_nz 4 = 0 then none else
                  if nl_nz ((nl_nz ((nl_nz ((nl_nl ((nl_nl ((((7919 * (nl_nz y1)) + (6151 * (nl_nz y5))) + 1) * (((7919 * (nl_nz y1)) + (6151 * (nl_nz y5))) + 1))).tmod (nl_nl 65521))).tdiv (nl_nl 2))).tdiv (nl_nz 64))).tmod (nl_nz 4)) = 0 then
                    if nl_nz ((nl_nz ((nl_nl ((nl_nl ((((7919 * (nl_nz y1)) + (6151 * (nl_nz y5))) + 1) * (((7919 * (nl_nz y1)) + (6151 * (nl_nz y5))) + 1))).tmod (nl_nl 65521))).tdiv (nl_nl 2))).tmod (nl_nz (h 6 0 0 0))) = nl_nz ((nl_nz ((nl_nz ((nl_nl ((nl_nl ((((7919 * (nl_nz y1)) + (6151 * (nl_nz y5))) + 1) * (((7919 * (nl_nz y1)) + (6151 * (nl_nz y5))) + 1))).tmod (nl_nl 65521))).tdiv (nl_nl 2))).tdiv (nl_nz 8))).tmod (nl_nz (h 6 0 0 0))) then
                      if nl_nz ((nl_nz ((nl_nz ((nl_nl ((nl_nl ((((7919 * (nl_nz y1)) + (6151 * (nl_nz y5))) + 1) * (((7919 * (nl_nz y1)) + (6151 * (nl_nz y5))) + 1))).tmod (nl_nl 65521))).tdiv (nl_nl 2))).tdiv (nl_nz 64))).tmod (nl_nz 4)) = nl_nz 1 then
                        (den m_X6_rests [vO 6 0, vI ((nl_nz ((nl_nl ((nl_nl ((((7919 * (nl_nz y1)) + (6151 * (nl_nz y5))) + 1) * (((7919 * (nl_nz y1)) + (6151 * (nl_nz y5))) + 1))).tmod (nl_nl 65521))).tdiv (nl_nl 2))).tmod (nl_nz (h 6 0 0 0)))] h).bind fun r5 =>
                          (den m_X6_passes [vO 6 0] r5.2).bind fun r6 =>
                            some (.inl (42, [some (vO 6 0), some (vI y1), some (vI y2), some (vI y3), some (vI (y4 + r6.1)), some (vI (y5 + 1)), some (vL (((7919 * (nl_nz y1)) + (6151 * (nl_nz y5))) + 1)), none, some (vI ((nl_nl ((nl_nl ((((7919 * (nl_nz y1)) + (6151 * (nl_nz y5))) + 1) * (((7919 * (nl_nz y1)) + (6151 * (nl_nz y5))) + 1))).tmod (nl_nl 65521))).tdiv (nl_nl 2))), some (vI ((nl_nz ((nl_nl ((nl_nl ((((7919 * (nl_nz y1)) + (6151 * (nl_nz y5))) + 1) * (((7919 * (nl_nz y1)) + (6151 * (nl_nz y5))) + 1))).tmod (nl_nl 65521))).tdiv (nl_nl 2))).tmod (nl_nz (h 6 0 0 0)))), some (vI ((nl_nz ((nl_nz ((nl_nl ((nl_nl ((((7919 * (nl_nz y1)) + (6151 * (nl_nz y5))) + 1) * (((7919 * (nl_nz y1)) + (6151 * (nl_nz y5))) + 1))).tmod (nl_nl 65521))).tdiv (nl_nl 2))).tdiv (nl_nz 8))).tmod (nl_nz (h 6 0 0 0)))), some (vI ((nl_nz ((nl_nz ((nl_nl ((nl_nl ((((7919 * (nl_nz y1)) + (6151 * (nl_nz y5))) + 1) * (((7919 * (nl_nz y1)) + (6151 * (nl_nz y5))) + 1))).tmod (nl_nl 65521))).tdiv (nl_nl 2))).tdiv (nl_nz 64))).tmod (nl_nz 4)))], r6.2))
                      else
                        if nl_nz ((nl_nz ((nl_nz ((nl_nl ((nl_nl ((((7919 * (nl_nz y1)) + (6151 * (nl_nz y5))) + 1) * (((7919 * (nl_nz y1)) + (6151 * (nl_nz y5))) + 1))).tmod (nl_nl 65521))).tdiv (nl_nl 2))).tdiv (nl_nz 64))).tmod (nl_nz 4)) = nl_nz 2 then
                          if 0 ≤ nl_nz ((nl_nz ((nl_nl ((nl_nl ((((7919 * (nl_nz y1)) + (6151 * (nl_nz y5))) + 1) * (((7919 * (nl_nz y1)) + (6151 * (nl_nz y5))) + 1))).tmod (nl_nl 65521))).tdiv (nl_nl 2))).tmod (nl_nz (h 6 0 0 0))) ∧ nl_nz ((nl_nz ((nl_nl ((nl_nl ((((7919 * (nl_nz y1)) + (6151 * (nl_nz y5))) + 1) * (((7919 * (nl_nz y1)) + (6151 * (nl_nz y5))) + 1))).tmod (nl_nl 65521))).tdiv (nl_nl 2))).tmod (nl_nz (h 6 0 0 0))) < 7 then
                            if nl_nz 256 = 0 then none else
                              if nl_nz 21 = 0 then none else
                                if 0 ≤ nl_nz (h 6 0 6 (nl_nz ((nl_nz ((nl_nl ((nl_nl ((((7919 * (nl_nz y1)) + (6151 * (nl_nz y5))) + 1) * (((7919 * (nl_nz y1)) + (6151 * (nl_nz y5))) + 1))).tmod (nl_nl 65521))).tdiv (nl_nl 2))).tmod (nl_nz (h 6 0 0 0)))).toNat) ∧ nl_nz (h 6 0 6 (nl_nz ((nl_nz ((nl_nl ((nl_nl ((((7919 * (nl_nz y1)) + (6151 * (nl_nz y5))) + 1) * (((7919 * (nl_nz y1)) + (6151 * (nl_nz y5))) + 1))).tmod (nl_nl 65521))).tdiv (nl_nl 2))).tmod (nl_nz (h 6 0 0 0)))).toNat) < 7 then
                                  (den m_X6_passes [vO 6 0] (nl_up h 6 0 10 (nl_nz (h 6 0 6 (nl_nz ((nl_nz ((nl_nl ((nl_nl ((((7919 * (nl_nz y1)) + (6151 * (nl_nz y5))) + 1) * (((7919 * (nl_nz y1)) + (6151 * (nl_nz y5))) + 1))).tmod (nl_nl 65521))).tdiv (nl_nl 2))).tmod (nl_nz (h 6 0 0 0)))).toNat)).toNat ((nl_nz ((nl_nz ((nl_nl ((nl_nl ((((7919 * (nl_nz y1)) + (6151 * (nl_nz y5))) + 1) * (((7919 * (nl_nz y1)) + (6151 * (nl_nz y5))) + 1))).tmod (nl_nl 65521))).tdiv (nl_nl 2))).tdiv (nl_nz 256))).tmod (nl_nz 21)))).bind fun r7 =>
                                    some (.inl (42, [some (vO 6 0), some (vI y1), some (vI y2), some (vI y3), some (vI (y4 + r7.1)), some (vI (y5 + 1)), some (vL (((7919 * (nl_nz y1)) + (6151 * (nl_nz y5))) + 1)), none, some (vI ((nl_nl ((nl_nl ((((7919 * (nl_nz y1)) + (6151 * (nl_nz y5))) + 1) * (((7919 * (nl_nz y1)) + (6151 * (nl_nz y5))) + 1))).tmod (nl_nl 65521))).tdiv (nl_nl 2))), some (vI ((nl_nz ((nl_nl ((nl_nl ((((7919 * (nl_nz y1)) + (6151 * (nl_nz y5))) + 1) * (((7919 * (nl_nz y1)) + (6151 * (nl_nz y5))) + 1))).tmod (nl_nl 65521))).tdiv (nl_nl 2))).tmod (nl_nz (h 6 0 0 0)))), some (vI ((nl_nz ((nl_nz ((nl_nl ((nl_nl ((((7919 * (nl_nz y1)) + (6151 * (nl_nz y5))) + 1) * (((7919 * (nl_nz y1)) + (6151 * (nl_nz y5))) + 1))).tmod (nl_nl 65521))).tdiv (nl_nl 2))).tdiv (nl_nz 8))).tmod (nl_nz (h 6 0 0 0)))), some (vI ((nl_nz ((nl_nz ((nl_nl ((nl_nl ((((7919 * (nl_nz y1)) + (6151 * (nl_nz y5))) + 1) * (((7919 * (nl_nz y1)) + (6151 * (nl_nz y5))) + 1))).tmod (nl_nl 65521))).tdiv (nl_nl 2))).tdiv (nl_nz 64))).tmod (nl_nz 4)))], r7.2))
                                else none
                          else none
                        else
                          (den m_X6_passes [vO 6 0] h).bind fun r8 =>
                            some (.inl (42, [some (vO 6 0), some (vI y1), some (vI y2), some (vI y3), some (vI (y4 + r8.1)), some (vI (y5 + 1)), some (vL (((7919 * (nl_nz y1)) + (6151 * (nl_nz y5))) + 1)), none, some (vI ((nl_nl ((nl_nl ((((7919 * (nl_nz y1)) + (6151 * (nl_nz y5))) + 1) * (((7919 * (nl_nz y1)) + (6151 * (nl_nz y5))) + 1))).tmod (nl_nl 65521))).tdiv (nl_nl 2))), some (vI ((nl_nz ((nl_nl ((nl_nl ((((7919 * (nl_nz y1)) + (6151 * (nl_nz y5))) + 1) * (((7919 * (nl_nz y1)) + (6151 * (nl_nz y5))) + 1))).tmod (nl_nl 65521))).tdiv (nl_nl 2))).tmod (nl_nz (h 6 0 0 0)))), some (vI ((nl_nz ((nl_nz ((nl_nl ((nl_nl ((((7919 * (nl_nz y1)) + (6151 * (nl_nz y5))) + 1) * (((7919 * (nl_nz y1)) + (6151 * (nl_nz y5))) + 1))).tmod (nl_nl 65521))).tdiv (nl_nl 2))).tdiv (nl_nz 8))).tmod (nl_nz (h 6 0 0 0)))), some (vI ((nl_nz ((nl_nz ((nl_nl ((nl_nl ((((7919 * (nl_nz y1)) + (6151 * (nl_nz y5))) + 1) * (((7919 * (nl_nz y1)) + (6151 * (nl_nz y5))) + 1))).tmod (nl_nl 65521))).tdiv (nl_nl 2))).tdiv (nl_nz 64))).tmod (nl_nz 4)))], r8.2))
                    else
                      (den m_X6_trades [vO 6 0, vI ((nl_nz ((nl_nl ((nl_nl ((((7919 * (nl_nz y1)) + (6151 * (nl_nz y5))) + 1) * (((7919 * (nl_nz y1)) + (6151 * (nl_nz y5))) + 1))).tmod (nl_nl 65521))).tdiv (nl_nl 2))).tmod (nl_nz (h 6 0 0 0))), vI ((nl_nz ((nl_nz ((nl_nl ((nl_nl ((((7919 * (nl_nz y1)) + (6151 * (nl_nz y5))) + 1) * (((7919 * (nl_nz y1)) + (6151 * (nl_nz y5))) + 1))).tmod (nl_nl 65521))).tdiv (nl_nl 2))).tdiv (nl_nz 8))).tmod (nl_nz (h 6 0 0 0)))] h).bind fun r9 =>
                        (den m_X6_passes [vO 6 0] r9.2).bind fun r10 =>
                          some (.inl (42, [some (vO 6 0), some (vI y1), some (vI y2), some (vI y3), some (vI (y4 + r10.1)), some (vI (y5 + 1)), some (vL (((7919 * (nl_nz y1)) + (6151 * (nl_nz y5))) + 1)), none, some (vI ((nl_nl ((nl_nl ((((7919 * (nl_nz y1)) + (6151 * (nl_nz y5))) + 1) * (((7919 * (nl_nz y1)) + (6151 * (nl_nz y5))) + 1))).tmod (nl_nl 65521))).tdiv (nl_nl 2))), some (vI ((nl_nz ((nl_nl ((nl_nl ((((7919 * (nl_nz y1)) + (6151 * (nl_nz y5))) + 1) * (((7919 * (nl_nz y1)) + (6151 * (nl_nz y5))) + 1))).tmod (nl_nl 65521))).tdiv (nl_nl 2))).tmod (nl_nz (h 6 0 0 0)))), some (vI ((nl_nz ((nl_nz ((nl_nl ((nl_nl ((((7919 * (nl_nz y1)) + (6151 * (nl_nz y5))) + 1) * (((7919 * (nl_nz y1)) + (6151 * (nl_nz y5))) + 1))).tmod (nl_nl 65521))).tdiv (nl_nl 2))).tdiv (nl_nz 8))).tmod (nl_nz (h 6 0 0 0)))), some (vI ((nl_nz ((nl_nz ((nl_nl ((nl_nl ((((7919 * (nl_nz y1)) + (6151 * (nl_nz y5))) + 1) * (((7919 * (nl_nz y1)) + (6151 * (nl_nz y5))) + 1))).tmod (nl_nl 65521))).tdiv (nl_nl 2))).tdiv (nl_nz 64))).tmod (nl_nz 4)))], r10.2))
                  else
                    if nl_nz ((nl_nz ((nl_nz ((nl_nl ((nl_nl ((((7919 * (nl_nz y1)) + (6151 * (nl_nz y5))) + 1) * (((7919 * (nl_nz y1)) + (6151 * (nl_nz y5))) + 1))).tmod (nl_nl 65521))).tdiv (nl_nl 2))).tdiv (nl_nz 64))).tmod (nl_nz 4)) = nl_nz 1 then
                      (den m_X6_rests [vO 6 0, vI ((nl_nz ((nl_nl ((nl_nl ((((7919 * (nl_nz y1)) + (6151 * (nl_nz y5))) + 1) * (((7919 * (nl_nz y1)) + (6151 * (nl_nz y5))) + 1))).tmod (nl_nl 65521))).tdiv (nl_nl 2))).tmod (nl_nz (h 6 0 0 0)))] h).bind fun r11 =>
                        (den m_X6_passes [vO 6 0] r11.2).bind fun r12 =>
                          some (.inl (42, [some (vO 6 0), some (vI y1), some (vI y2), some (vI y3), some (vI (y4 + r12.1)), some (vI (y5 + 1)), some (vL (((7919 * (nl_nz y1)) + (6151 * (nl_nz y5))) + 1)), none, some (vI ((nl_nl ((nl_nl ((((7919 * (nl_nz y1)) + (6151 * (nl_nz y5))) + 1) * (((7919 * (nl_nz y1)) + (6151 * (nl_nz y5))) + 1))).tmod (nl_nl 65521))).tdiv (nl_nl 2))), some (vI ((nl_nz ((nl_nl ((nl_nl ((((7919 * (nl_nz y1)) + (6151 * (nl_nz y5))) + 1) * (((7919 * (nl_nz y1)) + (6151 * (nl_nz y5))) + 1))).tmod (nl_nl 65521))).tdiv (nl_nl 2))).tmod (nl_nz (h 6 0 0 0)))), some (vI ((nl_nz ((nl_nz ((nl_nl ((nl_nl ((((7919 * (nl_nz y1)) + (6151 * (nl_nz y5))) + 1) * (((7919 * (nl_nz y1)) + (6151 * (nl_nz y5))) + 1))).tmod (nl_nl 65521))).tdiv (nl_nl 2))).tdiv (nl_nz 8))).tmod (nl_nz (h 6 0 0 0)))), some (vI ((nl_nz ((nl_nz ((nl_nl ((nl_nl ((((7919 * (nl_nz y1)) + (6151 * (nl_nz y5))) + 1) * (((7919 * (nl_nz y1)) + (6151 * (nl_nz y5))) + 1))).tmod (nl_nl 65521))).tdiv (nl_nl 2))).tdiv (nl_nz 64))).tmod (nl_nz 4)))], r12.2))
                    else
                      if nl_nz ((nl_nz ((nl_nz ((nl_nl ((nl_nl ((((7919 * (nl_nz y1)) + (6151 * (nl_nz y5))) + 1) * (((7919 * (nl_nz y1)) + (6151 * (nl_nz y5))) + 1))).tmod (nl_nl 65521))).tdiv (nl_nl 2))).tdiv (nl_nz 64))).tmod (nl_nz 4)) = nl_nz 2 then
                        if 0 ≤ nl_nz ((nl_nz ((nl_nl ((nl_nl ((((7919 * (nl_nz y1)) + (6151 * (nl_nz y5))) + 1) * (((7919 * (nl_nz y1)) + (6151 * (nl_nz y5))) + 1))).tmod (nl_nl 65521))).tdiv (nl_nl 2))).tmod (nl_nz (h 6 0 0 0))) ∧ nl_nz ((nl_nz ((nl_nl ((nl_nl ((((7919 * (nl_nz y1)) + (6151 * (nl_nz y5))) + 1) * (((7919 * (nl_nz y1)) + (6151 * (nl_nz y5))) + 1))).tmod (nl_nl 65521))).tdiv (nl_nl 2))).tmod (nl_nz (h 6 0 0 0))) < 7 then
                          if nl_nz 256 = 0 then none else
                            if nl_nz 21 = 0 then none else
                              if 0 ≤ nl_nz (h 6 0 6 (nl_nz ((nl_nz ((nl_nl ((nl_nl ((((7919 * (nl_nz y1)) + (6151 * (nl_nz y5))) + 1) * (((7919 * (nl_nz y1)) + (6151 * (nl_nz y5))) + 1))).tmod (nl_nl 65521))).tdiv (nl_nl 2))).tmod (nl_nz (h 6 0 0 0)))).toNat) ∧ nl_nz (h 6 0 6 (nl_nz ((nl_nz ((nl_nl ((nl_nl ((((7919 * (nl_nz y1)) + (6151 * (nl_nz y5))) + 1) * (((7919 * (nl_nz y1)) + (6151 * (nl_nz y5))) + 1))).tmod (nl_nl 65521))).tdiv (nl_nl 2))).tmod (nl_nz (h 6 0 0 0)))).toNat) < 7 then
                                (den m_X6_passes [vO 6 0] (nl_up h 6 0 10 (nl_nz (h 6 0 6 (nl_nz ((nl_nz ((nl_nl ((nl_nl ((((7919 * (nl_nz y1)) + (6151 * (nl_nz y5))) + 1) * (((7919 * (nl_nz y1)) + (6151 * (nl_nz y5))) + 1))).tmod (nl_nl 65521))).tdiv (nl_nl 2))).tmod (nl_nz (h 6 0 0 0)))).toNat)).toNat ((nl_nz ((nl_nz ((nl_nl ((nl_nl ((((7919 * (nl_nz y1)) + (6151 * (nl_nz y5))) + 1) * (((7919 * (nl_nz y1)) + (6151 * (nl_nz y5))) + 1))).tmod (nl_nl 65521))).tdiv (nl_nl 2))).tdiv (nl_nz 256))).tmod (nl_nz 21)))).bind fun r13 =>
                                  some (.inl (42, [some (vO 6 0), some (vI y1), some (vI y2), some (vI y3), some (vI (y4 + r13.1)), some (vI (y5 + 1)), some (vL (((7919 * (nl_nz y1)) + (6151 * (nl_nz y5))) + 1)), none, some (vI ((nl_nl ((nl_nl ((((7919 * (nl_nz y1)) + (6151 * (nl_nz y5))) + 1) * (((7919 * (nl_nz y1)) + (6151 * (nl_nz y5))) + 1))).tmod (nl_nl 65521))).tdiv (nl_nl 2))), some (vI ((nl_nz ((nl_nl ((nl_nl ((((7919 * (nl_nz y1)) + (6151 * (nl_nz y5))) + 1) * (((7919 * (nl_nz y1)) + (6151 * (nl_nz y5))) + 1))).tmod (nl_nl 65521))).tdiv (nl_nl 2))).tmod (nl_nz (h 6 0 0 0)))), some (vI ((nl_nz ((nl_nz ((nl_nl ((nl_nl ((((7919 * (nl_nz y1)) + (6151 * (nl_nz y5))) + 1) * (((7919 * (nl_nz y1)) + (6151 * (nl_nz y5))) + 1))).tmod (nl_nl 65521))).tdiv (nl_nl 2))).tdiv (nl_nz 8))).tmod (nl_nz (h 6 0 0 0)))), some (vI ((nl_nz ((nl_nz ((nl_nl ((nl_nl ((((7919 * (nl_nz y1)) + (6151 * (nl_nz y5))) + 1) * (((7919 * (nl_nz y1)) + (6151 * (nl_nz y5))) + 1))).tmod (nl_nl 65521))).tdiv (nl_nl 2))).tdiv (nl_nz 64))).tmod (nl_nz 4)))], r13.2))
                              else none
                        else none
                      else
                        (den m_X6_passes [vO 6 0] h).bind fun r14 =>
                          some (.inl (42, [some (vO 6 0), some (vI y1), some (vI y2), some (vI y3), some (vI (y4 + r14.1)), some (vI (y5 + 1)), some (vL (((7919 * (nl_nz y1)) + (6151 * (nl_nz y5))) + 1)), none, some (vI ((nl_nl ((nl_nl ((((7919 * (nl_nz y1)) + (6151 * (nl_nz y5))) + 1) * (((7919 * (nl_nz y1)) + (6151 * (nl_nz y5))) + 1))).tmod (nl_nl 65521))).tdiv (nl_nl 2))), some (vI ((nl_nz ((nl_nl ((nl_nl ((((7919 * (nl_nz y1)) + (6151 * (nl_nz y5))) + 1) * (((7919 * (nl_nz y1)) + (6151 * (nl_nz y5))) + 1))).tmod (nl_nl 65521))).tdiv (nl_nl 2))).tmod (nl_nz (h 6 0 0 0)))), some (vI ((nl_nz ((nl_nz ((nl_nl ((nl_nl ((((7919 * (nl_nz y1)) + (6151 * (nl_nz y5))) + 1) * (((7919 * (nl_nz y1)) + (6151 * (nl_nz y5))) + 1))).tmod (nl_nl 65521))).tdiv (nl_nl 2))).tdiv (nl_nz 8))).tmod (nl_nz (h 6 0 0 0)))), some (vI ((nl_nz ((nl_nz ((nl_nl ((nl_nl ((((7919 * (nl_nz y1)) + (6151 * (nl_nz y5))) + 1) * (((7919 * (nl_nz y1)) + (6151 * (nl_nz y5))) + 1))).tmod (nl_nl 65521))).tdiv (nl_nl 2))).tdiv (nl_nz 64))).tmod (nl_nz 4)))], r14.2))) := rfl
set_option maxRecDepth 20000 in
theorem sg_X6_keep_0 (LS : Int) (den : nl_D) (h : nl_H)  : nl_ex LS cd_X6_keep den ct_X6_keep 1 400 0 [some (vO 6 0)] [] h =
  (if nl_nz (h 6 0 29 0) = nl_nz 2 then
    some (.inr ((-3), h))
  else
    (den m_X6_lays [vO 6 0, vA 6 0 28, vI (79 * (h 6 0 29 0))] h).bind fun r1 =>
      some (.inr ((nl_up r1.2 6 0 29 0 ((r1.2 6 0 29 0) + 1)) 6 0 29 0, nl_up r1.2 6 0 29 0 ((r1.2 6 0 29 0) + 1)))) := rfl
set_option maxRecDepth 20000 in
theorem sg_X6_back_0 (LS : Int) (den : nl_D) (h : nl_H)  : nl_ex LS cd_X6_back den ct_X6_back 1 400 0 [some (vO 6 0)] [] h =
  (if nl_nz (h 6 0 29 0) = 0 then
    some (.inr ((-2), h))
  else
    (den m_X6_takes [vO 6 0, vA 6 0 28, vI (79 * ((nl_up h 6 0 29 0 ((h 6 0 29 0) - 1)) 6 0 29 0))] (nl_up h 6 0 29 0 ((h 6 0 29 0) - 1))).bind fun r1 =>
      some (.inr ((nl_up r1.2 6 0 24 0 0) 6 0 29 0, nl_up r1.2 6 0 24 0 0))) := rfl
set_option maxRecDepth 20000 in
theorem sg_X6_count_0 (LS : Int) (den : nl_D) (h : nl_H) (x1 : Int) : nl_ex LS cd_X6_count den ct_X6_count 1 400 0 [some (vO 6 0), some (vI x1)] [] h =
  ((den m_X6_in [vI x1, vI 0, vI 7] h).bind fun r1 =>
    if nl_nz r1.1 = 0 then
      some (.inr ((-1), r1.2))
    else
      if nl_nz x1 = 0 then
        some (.inr (r1.2 6 0 0 0, r1.2))
      else
        if nl_nz x1 = 0 + 1 then
          some (.inr (r1.2 6 0 4 0, r1.2))
        else
          if nl_nz x1 = 0 + 1 + 1 then
            some (.inr (r1.2 6 0 5 0, r1.2))
          else
            if nl_nz x1 = 0 + 1 + 1 + 1 then
              (den m_X6_tiredAll [vO 6 0] r1.2).bind fun r2 =>
                some (.inr (r2.1, r2.2))
            else
              if nl_nz x1 = 0 + 1 + 1 + 1 + 1 then
                some (.inr (r1.2 6 0 11 0, r1.2))
              else
                if nl_nz x1 = 0 + 1 + 1 + 1 + 1 + 1 then
                  some (.inr (r1.2 6 0 24 0, r1.2))
                else
                  if nl_nz x1 = 0 + 1 + 1 + 1 + 1 + 1 + 1 then
                    some (.inr (r1.2 6 0 29 0, r1.2))
                  else
                    some (.inr (r1.2 6 0 16 0, r1.2))) := rfl
