/-! Equations of the abstract machine, cut to cut. -/
set_option maxRecDepth 20000 in
theorem sg_X5_write_0 (LS : Int) (den : nl_D) (h : nl_H) (x1 : Int) : nl_ex LS cd_X5_write den ct_X5_write 1 400 0 [some (vO 5 0), some (vI x1)] [] h =
  ((den m_X5_isWithin [vI x1, vI 32, vI 126] h).bind fun r1 =>
    if nl_nz r1.1 = 0 then
      some (.inr ((-1), r1.2))
    else
      if nl_nz (r1.2 5 0 1 0) < nl_nz 200 then
        if 0 ≤ nl_nz (r1.2 5 0 1 0) ∧ nl_nz (r1.2 5 0 1 0) < 200 then some (.inr ((nl_up (nl_up r1.2 5 0 0 (nl_nz (r1.2 5 0 1 0)).toNat x1) 5 0 1 0 (((nl_up r1.2 5 0 0 (nl_nz (r1.2 5 0 1 0)).toNat x1) 5 0 1 0) + 1)) 5 0 1 0, nl_up (nl_up r1.2 5 0 0 (nl_nz (r1.2 5 0 1 0)).toNat x1) 5 0 1 0 (((nl_up r1.2 5 0 0 (nl_nz (r1.2 5 0 1 0)).toNat x1) 5 0 1 0) + 1))) else none
      else
        some (.inr ((-3), r1.2))) := rfl
set_option maxRecDepth 20000 in
theorem sg_X5_wipe_0 (LS : Int) (den : nl_D) (h : nl_H)  : nl_ex LS cd_X5_wipe den ct_X5_wipe 1 400 0 [some (vO 5 0), none] [] h =
  (some (.inr (h 5 0 1 0, nl_up h 5 0 1 0 0))) := rfl
set_option maxRecDepth 20000 in
theorem sg_X5_fault_0 (LS : Int) (den : nl_D) (h : nl_H)  : nl_ex LS cd_X5_fault den ct_X5_fault 1 400 0 [some (vO 5 0)] [] h =
  ((den m_X1_read [vO 1 0, vA 5 0 0, vI (h 5 0 1 0)] h).bind fun r1 =>
    if nl_nz (r1.2 1 0 7 0) = nl_nz ((-1)) then
      some (.inr ((-4), r1.2))
    else
      some (.inr (r1.2 1 0 7 0, r1.2))) := rfl
set_option maxRecDepth 20000 in
theorem sg_X5_lay_0 (LS : Int) (den : nl_D) (h : nl_H)  : nl_ex LS cd_X5_lay den ct_X5_lay 1 400 0 [some (vO 5 0)] [] h =
  ((den m_X1_read [vO 1 0, vA 5 0 0, vI (h 5 0 1 0)] h).bind fun r1 =>
    (den m_X1_canBeLaid [vO 1 0] r1.2).bind fun r2 =>
      if nl_nz r2.1 = 0 then
        some (.inr ((-2), r2.2))
      else
        (den m_X4_settle [vO 4 0, vO 1 0] r2.2).bind fun r3 =>
          (den m_X2_clear [vO 2 0] r3.2).bind fun r4 =>
            (den m_X2_clear [vO 2 1] r4.2).bind fun r5 =>
              (den m_X3_clear [vO 3 0] r5.2).bind fun r6 =>
                some (.inr (r6.2 4 0 0 0, r6.2))) := rfl
set_option maxRecDepth 20000 in
theorem sg_X5_house_0 (LS : Int) (den : nl_D) (h : nl_H) (x1 : Int) (x2 : Int) : nl_ex LS cd_X5_house den ct_X5_house 1 400 0 [some (vO 5 0), some (vI x1), some (vI x2)] [] h =
  ((den m_X4_isHouse [vO 4 0, vI x1] h).bind fun r1 =>
    if nl_nz r1.1 = 0 then
      some (.inr ((-1), r1.2))
    else
      if nl_nz x2 = 0 then
        if 0 ≤ nl_nz x1 ∧ nl_nz x1 < 7 then some (.inr (r1.2 4 0 4 (nl_nz x1).toNat, r1.2)) else none
      else
        if nl_nz x2 = 0 + 1 then
          if 0 ≤ nl_nz x1 ∧ nl_nz x1 < 7 then some (.inr (r1.2 4 0 5 (nl_nz x1).toNat, r1.2)) else none
        else
          if nl_nz x2 = 0 + 1 + 1 then
            if 0 ≤ nl_nz x1 ∧ nl_nz x1 < 7 then some (.inr (r1.2 4 0 6 (nl_nz x1).toNat, r1.2)) else none
          else
            if nl_nz x2 = 0 + 1 + 1 + 1 then
              if 0 ≤ nl_nz x1 ∧ nl_nz x1 < 7 then some (.inr (r1.2 4 0 7 (nl_nz x1).toNat, r1.2)) else none
            else
              if nl_nz x2 = 0 + 1 + 1 + 1 + 1 then
                if 0 ≤ nl_nz x1 ∧ nl_nz x1 < 7 then some (.inr (r1.2 4 0 8 (nl_nz x1).toNat, r1.2)) else none
              else
                if nl_nz x2 = 0 + 1 + 1 + 1 + 1 + 1 then
                  if 0 ≤ nl_nz x1 ∧ nl_nz x1 < 7 then some (.inr (r1.2 4 0 9 (nl_nz x1).toNat, r1.2)) else none
                else
                  some (.inr ((-1), r1.2))) := rfl
set_option maxRecDepth 20000 in
theorem sg_X5_hour_0 (LS : Int) (den : nl_D) (h : nl_H) (x1 : Int) (x2 : Int) : nl_ex LS cd_X5_hour den ct_X5_hour 1 400 0 [some (vO 5 0), some (vI x1), some (vI x2)] [] h =
  ((den m_X4_isHour [vO 4 0, vI x1] h).bind fun r1 =>
    if nl_nz r1.1 = 0 then
      some (.inr ((-1), r1.2))
    else
      (den m_X5_isWithin [vI x2, vI 0, vI 1] r1.2).bind fun r2 =>
        if nl_nz r2.1 = 0 then
          some (.inr ((-1), r2.2))
        else
          if nl_nz x2 = 0 then
            if 0 ≤ nl_nz x1 ∧ nl_nz x1 < 7 then some (.inr (r2.2 4 0 3 (nl_nz x1).toNat, r2.2)) else none
          else
            (den m_X4_houseWith [vO 4 0, vI x1] r2.2).bind fun r3 =>
              some (.inr (r3.1, r3.2))) := rfl
set_option maxRecDepth 20000 in
theorem sg_X5_heavy_0 (LS : Int) (den : nl_D) (h : nl_H) (x1 : Int) (x2 : Int) : nl_ex LS cd_X5_heavy den ct_X5_heavy 1 400 0 [some (vO 5 0), some (vI x1), some (vI x2)] [] h =
  ((den m_X4_isHouse [vO 4 0, vI x1] h).bind fun r1 =>
    if nl_nz r1.1 = 0 then
      some (.inr ((-1), r1.2))
    else
      (den m_X4_isHour [vO 4 0, vI x2] r1.2).bind fun r2 =>
        if nl_nz r2.1 = 0 then
          some (.inr ((-1), r2.2))
        else
          (den m_X4_heaviness [vO 4 0, vI x1, vI x2] r2.2).bind fun r3 =>
            some (.inr (r3.1, r3.2))) := rfl
set_option maxRecDepth 20000 in
theorem sg_X5_had_0 (LS : Int) (den : nl_D) (h : nl_H) (x1 : Int) (x2 : Int) : nl_ex LS cd_X5_had den ct_X5_had 1 400 0 [some (vO 5 0), some (vI x1), some (vI x2)] [] h =
  ((den m_X4_isHouse [vO 4 0, vI x1] h).bind fun r1 =>
    if nl_nz r1.1 = 0 then
      some (.inr ((-1), r1.2))
    else
      (den m_X4_isHour [vO 4 0, vI x2] r1.2).bind fun r2 =>
        if nl_nz r2.1 = 0 then
          some (.inr ((-1), r2.2))
        else
          (den m_X4_timesHad [vO 4 0, vI x1, vI x2] r2.2).bind fun r3 =>
            some (.inr (r3.1, r3.2))) := rfl
set_option maxRecDepth 20000 in
theorem sg_X5_pass_0 (LS : Int) (den : nl_D) (h : nl_H) (x1 : Int) : nl_ex LS cd_X5_pass den ct_X5_pass 1 400 0 [some (vO 5 0), some (vI x1)] [] h =
  ((den m_X5_isWithin [vI x1, vI 1, vI 20] h).bind fun r1 =>
    if nl_nz r1.1 = 0 then
      some (.inr ((-1), r1.2))
    else
      if nl_nz ((r1.2 4 0 1 0) + x1) ≤ nl_nz 999 then
        (den m_X2_put [vO 2 0, vO 4 0] r1.2).bind fun r2 =>
          (den m_X4_letNightsPass [vO 4 0, vI x1] r2.2).bind fun r3 =>
            some (.inr (r3.1, r3.2))
      else
        some (.inr ((-2), r1.2))) := rfl
set_option maxRecDepth 20000 in
theorem sg_X5_swap_0 (LS : Int) (den : nl_D) (h : nl_H) (x1 : Int) (x2 : Int) : nl_ex LS cd_X5_swap den ct_X5_swap 1 400 0 [some (vO 5 0), some (vI x1), some (vI x2)] [] h =
  ((den m_X4_isHouse [vO 4 0, vI x1] h).bind fun r1 =>
    if nl_nz r1.1 = 0 then
      some (.inr ((-1), r1.2))
    else
      (den m_X4_isHouse [vO 4 0, vI x2] r1.2).bind fun r2 =>
        if nl_nz r2.1 = 0 then
          some (.inr ((-1), r2.2))
        else
          if nl_nz x1 = nl_nz x2 then
            some (.inr ((-1), r2.2))
          else
            (den m_X2_put [vO 2 0, vO 4 0] r2.2).bind fun r3 =>
              (den m_X4_trade [vO 4 0, vI x1, vI x2] r3.2).bind fun r4 =>
                if 0 ≤ nl_nz x1 ∧ nl_nz x1 < 7 then some (.inr (r4.2 4 0 8 (nl_nz x1).toNat, r4.2)) else none) := rfl
set_option maxRecDepth 20000 in
theorem sg_X5_rest_0 (LS : Int) (den : nl_D) (h : nl_H) (x1 : Int) : nl_ex LS cd_X5_rest den ct_X5_rest 1 400 0 [some (vO 5 0), some (vI x1)] [] h =
  ((den m_X4_isHouse [vO 4 0, vI x1] h).bind fun r1 =>
    if nl_nz r1.1 = 0 then
      some (.inr ((-1), r1.2))
    else
      if 0 ≤ nl_nz x1 ∧ nl_nz x1 < 7 then
        if nl_nz (r1.2 4 0 7 (nl_nz x1).toNat) = 0 then
          some (.inr ((-2), r1.2))
        else
          (den m_X2_put [vO 2 0, vO 4 0] r1.2).bind fun r2 =>
            (den m_X4_giveRest [vO 4 0, vI x1] r2.2).bind fun r3 =>
              if 0 ≤ nl_nz x1 ∧ nl_nz x1 < 7 then some (.inr (r3.2 4 0 7 (nl_nz x1).toNat, r3.2)) else none
      else none) := rfl
set_option maxRecDepth 20000 in
theorem sg_X5_burden_0 (LS : Int) (den : nl_D) (h : nl_H) (x1 : Int) (x2 : Int) : nl_ex LS cd_X5_burden den ct_X5_burden 1 400 0 [some (vO 5 0), some (vI x1), some (vI x2), none] [] h =
  ((den m_X4_isHour [vO 4 0, vI x1] h).bind fun r1 =>
    if nl_nz r1.1 = 0 then
      some (.inr ((-1), r1.2))
    else
      (den m_X5_isWithin [vI x2, vI 0, vI 20] r1.2).bind fun r2 =>
        if nl_nz r2.1 = 0 then
          some (.inr ((-1), r2.2))
        else
          if 0 ≤ nl_nz x1 ∧ nl_nz x1 < 7 then
            if nl_nz (r2.2 4 0 3 (nl_nz x1).toNat) = nl_nz x2 then
              some (.inr ((-2), r2.2))
            else
              (den m_X2_put [vO 2 0, vO 4 0] r2.2).bind fun r3 =>
                (den m_X4_setBurden [vO 4 0, vI x1, vI x2] r3.2).bind fun r4 =>
                  some (.inr (r2.2 4 0 3 (nl_nz x1).toNat, r4.2))
          else none) := rfl
set_option maxRecDepth 20000 in
theorem sg_X5_undo_0 (LS : Int) (den : nl_D) (h : nl_H)  : nl_ex LS cd_X5_undo den ct_X5_undo 1 400 0 [some (vO 5 0)] [] h =
  ((den m_X2_takeInto [vO 2 0, vO 4 0] h).bind fun r1 =>
    if nl_nz r1.1 = 0 then
      some (.inr ((-2), r1.2))
    else
      some (.inr (r1.2 2 0 1 0, r1.2))) := rfl
set_option maxRecDepth 20000 in
theorem sg_X5_behind_0 (LS : Int) (den : nl_D) (h : nl_H) (x1 : Int) (x2 : Int) (x3 : Int) : nl_ex LS cd_X5_behind den ct_X5_behind 1 400 0 [some (vO 5 0), some (vI x1), some (vI x2), some (vI x3)] [] h =
  ((den m_X5_isWithin [vI x1, vI 0, vI 40] h).bind fun r1 =>
    if nl_nz r1.1 = 0 then
      some (.inr ((-1), r1.2))
    else
      (den m_X4_isHouse [vO 4 0, vI x2] r1.2).bind fun r2 =>
        if nl_nz r2.1 = 0 then
          some (.inr ((-1), r2.2))
        else
          (den m_X5_isWithin [vI x3, vI 0, vI 1] r2.2).bind fun r3 =>
            if nl_nz r3.1 = 0 then
              some (.inr ((-1), r3.2))
            else
              (den m_X4_copyFrom [vO 4 1, vO 4 0] r3.2).bind fun r4 =>
                (den m_X4_letNightsPass [vO 4 1, vI x1] r4.2).bind fun r5 =>
                  if nl_nz x3 = 0 then
                    if 0 ≤ nl_nz x2 ∧ nl_nz x2 < 7 then some (.inr (r5.2 4 1 7 (nl_nz x2).toNat, r5.2)) else none
                  else
                    if 0 ≤ nl_nz x2 ∧ nl_nz x2 < 7 then some (.inr (r5.2 4 1 8 (nl_nz x2).toNat, r5.2)) else none) := rfl
set_option maxRecDepth 20000 in
theorem sg_X5_gaps_0 (LS : Int) (den : nl_D) (h : nl_H)  : nl_ex LS cd_X5_gaps den ct_X5_gaps 1 400 0 [some (vO 5 0), none, none] [] h =
  (some (.inl (4, [some (vO 5 0), some (vI 0), some (vI 0)], h))) := rfl
set_option maxRecDepth 20000 in
theorem sg_X5_gaps_4 (LS : Int) (den : nl_D) (h : nl_H) (y1 : Int) (y2 : Int) : nl_ex LS cd_X5_gaps den ct_X5_gaps 1 400 4 [some (vO 5 0), some (vI y1), some (vI y2)] [] h =
  (if nl_nz (h 4 0 0 0) ≤ nl_nz y2 then
    some (.inr (y1, h))
  else
    (den m_X4_isGapAt [vO 4 0, vI y2] h).bind fun r1 =>
      if nl_nz r1.1 = 0 then
        some (.inl (4, [some (vO 5 0), some (vI y1), some (vI (y2 + 1))], r1.2))
      else
        if 0 ≤ nl_nz y2 ∧ nl_nz y2 < 32 then if 0 ≤ nl_nz y1 ∧ 0 ≤ nl_nz (1 * 2 ^ (nl_nz y2).toNat) then some (.inl (4, [some (vO 5 0), some (vI ((((nl_nz y1).toNat ||| (nl_nz (1 * 2 ^ (nl_nz y2).toNat)).toNat : Nat) : Int))), some (vI (y2 + 1))], r1.2)) else none else none) := rfl
set_option maxRecDepth 20000 in
theorem sg_X5_first_0 (LS : Int) (den : nl_D) (h : nl_H) (x1 : Int) : nl_ex LS cd_X5_first den ct_X5_first 1 400 0 [some (vO 5 0), some (vI x1), none] [] h =
  ((den m_X4_isHouse [vO 4 0, vI x1] h).bind fun r1 =>
    if nl_nz r1.1 = 0 then
      some (.inr ((-1), r1.2))
    else
      (den m_X4_copyFrom [vO 4 1, vO 4 0] r1.2).bind fun r2 =>
        (den m_X5_nextMissAhead [vO 5 0, vI x1, vI 40] r2.2).bind fun r3 =>
          if nl_nz r3.1 = nl_nz ((-1)) then
            some (.inr ((-4), r3.2))
          else
            some (.inr (r3.1, r3.2))) := rfl
set_option maxRecDepth 20000 in
theorem sg_X5_even_0 (LS : Int) (den : nl_D) (h : nl_H) (x1 : Int) : nl_ex LS cd_X5_even den ct_X5_even 1 400 0 [some (vO 5 0), some (vI x1)] [] h =
  (if nl_nz x1 = nl_nz ((-1)) then
    (den m_X0_choose [vO 0 0, vO 4 0] h).bind fun r1 =>
      if nl_nz x1 = nl_nz ((-1)) then
        some (.inr (r1.2 0 0 5 0, r1.2))
      else
        if 0 ≤ nl_nz x1 ∧ nl_nz x1 < 7 then some (.inr (r1.2 0 0 2 (nl_nz x1).toNat, r1.2)) else none
  else
    (den m_X4_isHouse [vO 4 0, vI x1] h).bind fun r2 =>
      if nl_nz r2.1 = 0 then
        some (.inr ((-1), r2.2))
      else
        (den m_X0_choose [vO 0 0, vO 4 0] r2.2).bind fun r3 =>
          if nl_nz x1 = nl_nz ((-1)) then
            some (.inr (r3.2 0 0 5 0, r3.2))
          else
            if 0 ≤ nl_nz x1 ∧ nl_nz x1 < 7 then some (.inr (r3.2 0 0 2 (nl_nz x1).toNat, r3.2)) else none) := rfl
set_option maxRecDepth 20000 in
theorem sg_X5_swaps_0 (LS : Int) (den : nl_D) (h : nl_H)  : nl_ex LS cd_X5_swaps den ct_X5_swaps 1 400 0 [some (vO 5 0)] [] h =
  ((den m_X0_choose [vO 0 0, vO 4 0] h).bind fun r1 =>
    if nl_nz (r1.2 0 0 5 0) ≤ 0 then
      (den m_X0_fewestSwaps [vO 0 0, vO 4 0] r1.2).bind fun r2 =>
        some (.inr (r2.1, r2.2))
    else
      some (.inr ((-4), r1.2))) := rfl
set_option maxRecDepth 20000 in
theorem sg_X5_far_0 (LS : Int) (den : nl_D) (h : nl_H) (x1 : Int) : nl_ex LS cd_X5_far den ct_X5_far 1 400 0 [some (vO 5 0), some (vI x1)] [] h =
  ((den m_X5_isWithin [vI x1, vI 0, vI 1] h).bind fun r1 =>
    if nl_nz r1.1 = 0 then
      some (.inr ((-1), r1.2))
    else
      if nl_nz x1 = 0 then
        (den m_X4_handingOver [vO 4 0] r1.2).bind fun r2 =>
          some (.inr (r2.1, r2.2))
      else
        (den m_X4_lengthOfRoad [vO 4 0] r1.2).bind fun r3 =>
          some (.inr (r3.1, r3.2))) := rfl
set_option maxRecDepth 20000 in
theorem sg_X5_lamps_0 (LS : Int) (den : nl_D) (h : nl_H) (x1 : Int) (x2 : Int) : nl_ex LS cd_X5_lamps den ct_X5_lamps 1 400 0 [some (vO 5 0), some (vI x1), some (vI x2), none, none] [] h =
  ((den m_X5_isWithin [vI x1, vI 1, vI 40] h).bind fun r1 =>
    if nl_nz r1.1 = 0 then
      some (.inr ((-1), r1.2))
    else
      (den m_X5_isWithin [vI x2, vI 0, vI 1] r1.2).bind fun r2 =>
        if nl_nz r2.1 = 0 then
          some (.inr ((-1), r2.2))
        else
          some (.inl (26, [some (vO 5 0), some (vI x1), some (vI x2), some (vI 0), some (vI 0)], r2.2))) := rfl
set_option maxRecDepth 20000 in
theorem sg_X5_lamps_26 (LS : Int) (den : nl_D) (h : nl_H) (y1 : Int) (y2 : Int) (y3 : Int) (y4 : Int) : nl_ex LS cd_X5_lamps den ct_X5_lamps 1 400 26 [some (vO 5 0), some (vI y1), some (vI y2), some (vI y3), some (vI y4)] [] h =
  (if nl_nz (h 4 0 0 0) ≤ nl_nz y4 then
    if nl_nz y2 = 0 then
      (den m_J6_bitCount [vI y3] h).bind fun r1 =>
        some (.inr (r1.1, r1.2))
    else
      some (.inr (y3, h))
  else
    (den m_X4_copyFrom [vO 4 1, vO 4 0] h).bind fun r2 =>
      (den m_X5_nextMissAhead [vO 5 0, vI y4, vI y1] r2.2).bind fun r3 =>
        if nl_nz r3.1 = nl_nz ((-1)) then
          some (.inl (26, [some (vO 5 0), some (vI y1), some (vI y2), some (vI y3), some (vI (y4 + 1))], r3.2))
        else
          (den m_X4_copyFrom [vO 4 1, vO 4 0] r3.2).bind fun r4 =>
            (den m_X4_giveRest [vO 4 1, vI y4] r4.2).bind fun r5 =>
              (den m_X5_nextMissAhead [vO 5 0, vI y4, vI y1] r5.2).bind fun r6 =>
                if nl_nz r6.1 = nl_nz ((-1)) then
                  if 0 ≤ nl_nz y4 ∧ nl_nz y4 < 32 then if 0 ≤ nl_nz y3 ∧ 0 ≤ nl_nz (1 * 2 ^ (nl_nz y4).toNat) then some (.inl (26, [some (vO 5 0), some (vI y1), some (vI y2), some (vI ((((nl_nz y3).toNat ||| (nl_nz (1 * 2 ^ (nl_nz y4).toNat)).toNat : Nat) : Int))), some (vI (y4 + 1))], r6.2)) else none else none
                else
                  some (.inr ((-4), r6.2))) := rfl
set_option maxRecDepth 20000 in
theorem sg_X5_seen_0 (LS : Int) (den : nl_D) (h : nl_H) (x1 : Int) (x2 : Int) (x3 : Int) : nl_ex LS cd_X5_seen den ct_X5_seen 1 400 0 [some (vO 5 0), some (vI x1), some (vI x2), some (vI x3)] [] h =
  ((den m_X5_isWithin [vI x1, vI 0, vI 20] h).bind fun r1 =>
    if nl_nz r1.1 = 0 then
      some (.inr ((-1), r1.2))
    else
      (den m_X4_isHour [vO 4 0, vI x2] r1.2).bind fun r2 =>
        if nl_nz r2.1 = 0 then
          some (.inr ((-1), r2.2))
        else
          (den m_X5_isWithin [vI x3, vI 0, vI 1] r2.2).bind fun r3 =>
            if nl_nz r3.1 = 0 then
              some (.inr ((-1), r3.2))
            else
              if nl_nz (r3.2 3 0 3 0) < nl_nz 6 then
                if nl_nz x3 = nl_nz 1 then
                  (den m_X3_add [vO 3 0, vI x1, vI x2, vI 1] r3.2).bind fun r4 =>
                    some (.inr (r4.2 3 0 3 0, r4.2))
                else
                  (den m_X3_add [vO 3 0, vI x1, vI x2, vI 0] r3.2).bind fun r5 =>
                    some (.inr (r5.2 3 0 3 0, r5.2))
              else
                some (.inr ((-3), r3.2))) := rfl
set_option maxRecDepth 20000 in
theorem sg_X5_forget_0 (LS : Int) (den : nl_D) (h : nl_H)  : nl_ex LS cd_X5_forget den ct_X5_forget 1 400 0 [some (vO 5 0), none] [] h =
  ((den m_X3_clear [vO 3 0] h).bind fun r1 =>
    some (.inr (h 3 0 3 0, r1.2))) := rfl
set_option maxRecDepth 20000 in
theorem sg_X5_kinds_0 (LS : Int) (den : nl_D) (h : nl_H) (x1 : Int) : nl_ex LS cd_X5_kinds den ct_X5_kinds 1 400 0 [some (vO 5 0), some (vI x1), none, none] [] h =
  ((den m_X4_isHouse [vO 4 0, vI x1] h).bind fun r1 =>
    if nl_nz r1.1 = 0 then
      some (.inr ((-1), r1.2))
    else
      some (.inl (17, [some (vO 5 0), some (vI x1), some (vI 0), some (vI 0)], r1.2))) := rfl
set_option maxRecDepth 20000 in
theorem sg_X5_kinds_17 (LS : Int) (den : nl_D) (h : nl_H) (y1 : Int) (y2 : Int) (y3 : Int) : nl_ex LS cd_X5_kinds den ct_X5_kinds 1 400 17 [some (vO 5 0), some (vI y1), some (vI y2), some (vI y3)] [] h =
  (if nl_nz 3 < nl_nz y3 then
    some (.inr (y2, h))
  else
    if 0 ≤ nl_nz y1 ∧ nl_nz y1 < 7 then
      (den m_X5_fitsAllSeen [vO 5 0, vI y1, vI y3, vI (h 4 0 5 (nl_nz y1).toNat)] h).bind fun r1 =>
        if nl_nz r1.1 = 0 then
          some (.inl (17, [some (vO 5 0), some (vI y1), some (vI y2), some (vI (y3 + 1))], r1.2))
        else
          if 0 ≤ nl_nz y3 ∧ nl_nz y3 < 32 then if 0 ≤ nl_nz y2 ∧ 0 ≤ nl_nz (1 * 2 ^ (nl_nz y3).toNat) then some (.inl (17, [some (vO 5 0), some (vI y1), some (vI ((((nl_nz y2).toNat ||| (nl_nz (1 * 2 ^ (nl_nz y3).toNat)).toNat : Nat) : Int))), some (vI (y3 + 1))], r1.2)) else none else none
    else none) := rfl
set_option maxRecDepth 20000 in
theorem sg_X5_strengths_0 (LS : Int) (den : nl_D) (h : nl_H) (x1 : Int) (x2 : Int) : nl_ex LS cd_X5_strengths den ct_X5_strengths 1 400 0 [some (vO 5 0), some (vI x1), some (vI x2), none, none, none] [] h =
  ((den m_X4_isHouse [vO 4 0, vI x1] h).bind fun r1 =>
    if nl_nz r1.1 = 0 then
      some (.inr ((-1), r1.2))
    else
      (den m_X5_isWithin [vI x2, vI 0, vI 1] r1.2).bind fun r2 =>
        if nl_nz r2.1 = 0 then
          some (.inr ((-1), r2.2))
        else
          some (.inl (32, [some (vO 5 0), some (vI x1), some (vI x2), some (vI 0), some (vI ((-4))), some (vI 40)], r2.2))) := rfl
set_option maxRecDepth 20000 in
theorem sg_X5_strengths_32 (LS : Int) (den : nl_D) (h : nl_H) (y1 : Int) (y2 : Int) (y3 : Int) (y4 : Int) (y5 : Int) : nl_ex LS cd_X5_strengths den ct_X5_strengths 1 400 32 [some (vO 5 0), some (vI y1), some (vI y2), some (vI y3), some (vI y4), some (vI y5)] [] h =
  (if nl_nz y5 < 0 then
    if nl_nz y2 = 0 then
      some (.inr (y3, h))
    else
      some (.inr (y4, h))
  else
    if 0 ≤ nl_nz y1 ∧ nl_nz y1 < 7 then
      (den m_X5_fitsAllSeen [vO 5 0, vI y1, vI (h 4 0 4 (nl_nz y1).toNat), vI y5] h).bind fun r1 =>
        if nl_nz r1.1 = 0 then
          some (.inl (32, [some (vO 5 0), some (vI y1), some (vI y2), some (vI y3), some (vI y4), some (vI (y5 + (-1)))], r1.2))
        else
          some (.inl (32, [some (vO 5 0), some (vI y1), some (vI y2), some (vI (y3 + 1)), some (vI y5), some (vI (y5 + (-1)))], r1.2))
    else none) := rfl
set_option maxRecDepth 20000 in
theorem sg_X5_likely_0 (LS : Int) (den : nl_D) (h : nl_H) (x1 : Int) (x2 : Int) (x3 : Int) : nl_ex LS cd_X5_likely den ct_X5_likely 1 400 0 [some (vO 5 0), some (vI x1), some (vI x2), some (vI x3), none, none, none, none, none] [] h =
  ((den m_X4_isHouse [vO 4 0, vI x1] h).bind fun r1 =>
    if nl_nz r1.1 = 0 then
      some (.inr ((-1), r1.2))
    else
      (den m_X5_isWithin [vI x2, vI 0, vI 9] r1.2).bind fun r2 =>
        if nl_nz r2.1 = 0 then
          some (.inr ((-1), r2.2))
        else
          (den m_X5_isWithin [vI x3, vI 0, vI 1] r2.2).bind fun r3 =>
            if nl_nz r3.1 = 0 then
              some (.inr ((-1), r3.2))
            else
              if 0 ≤ nl_nz x1 ∧ nl_nz x1 < 7 then some (.inl (60, [some (vO 5 0), some (vI x1), some (vI x2), some (vI x3), some (vI (r3.2 4 0 7 (nl_nz x1).toNat)), some (vI (if nl_nz 40 < nl_nz ((r3.2 4 0 7 (nl_nz x1).toNat) + x2) then 40 else (r3.2 4 0 7 (nl_nz x1).toNat) + x2)), some (vI 0), some (vI 0), none], r3.2)) else none) := rfl
set_option maxRecDepth 20000 in
theorem sg_X5_likely_60 (LS : Int) (den : nl_D) (h : nl_H) (y1 : Int) (y2 : Int) (y3 : Int) (y4 : Int) (y5 : Int) (y6 : Int) (y7 : Int) : nl_ex LS cd_X5_likely den ct_X5_likely 1 400 60 [some (vO 5 0), some (vI y1), some (vI y2), some (vI y3), some (vI y4), some (vI y5), some (vI y6), some (vI y7), none] [] h =
  (if nl_nz (h 4 0 0 0) ≤ nl_nz y7 then
    (den m_X5_largestDivisor [vI y6, vI (10 * (h 4 0 0 0))] h).bind fun r1 =>
      if nl_nz y3 = 0 then
        if nl_nz r1.1 = 0 then none else
          some (.inr ((nl_nz y6).tdiv (nl_nz r1.1), r1.2))
      else
        if nl_nz r1.1 = 0 then none else
          some (.inr ((nl_nz (10 * (h 4 0 0 0))).tdiv (nl_nz r1.1), r1.2))
  else
    (den m_X4_wouldKeep [vO 4 0, vI y1, vI y7, vI y4] h).bind fun r2 =>
      if nl_nz r2.1 = 0 then
        (den m_X4_wouldKeep [vO 4 0, vI y1, vI y7, vI y5] r2.2).bind fun r3 =>
          if nl_nz r3.1 = 0 then
            some (.inl (60, [some (vO 5 0), some (vI y1), some (vI y2), some (vI y3), some (vI y4), some (vI y5), some (vI ((y6 + 0) + 0)), some (vI (y7 + 1)), none], r3.2))
          else
            some (.inl (60, [some (vO 5 0), some (vI y1), some (vI y2), some (vI y3), some (vI y4), some (vI y5), some (vI ((y6 + 0) + y2)), some (vI (y7 + 1)), none], r3.2))
      else
        (den m_X4_wouldKeep [vO 4 0, vI y1, vI y7, vI y5] r2.2).bind fun r4 =>
          if nl_nz r4.1 = 0 then
            some (.inl (60, [some (vO 5 0), some (vI y1), some (vI y2), some (vI y3), some (vI y4), some (vI y5), some (vI ((y6 + (10 - y2)) + 0)), some (vI (y7 + 1)), none], r4.2))
          else
            some (.inl (60, [some (vO 5 0), some (vI y1), some (vI y2), some (vI y3), some (vI y4), some (vI y5), some (vI ((y6 + (10 - y2)) + y2)), some (vI (y7 + 1)), none], r4.2))) := rfl
set_option maxRecDepth 20000 in
theorem sg_X5_winter_0 (LS : Int) (den : nl_D) (h : nl_H) (x1 : Int) (x2 : Int) (x3 : Int) : nl_ex LS cd_X5_winter den ct_X5_winter 1 400 0 [some (vO 5 0), some (vI x1), some (vI x2), some (vI x3), none, none] [] h =
  ((den m_X5_isWithin [vI x1, vI 0, vI 9999] h).bind fun r1 =>
    if nl_nz r1.1 = 0 then
      some (.inr ((-1), r1.2))
    else
      (den m_X5_isWithin [vI x2, vI 1, vI 60] r1.2).bind fun r2 =>
        if nl_nz r2.1 = 0 then
          some (.inr ((-1), r2.2))
        else
          (den m_X5_isWithin [vI x3, vI 0, vI 2] r2.2).bind fun r3 =>
            if nl_nz r3.1 = 0 then
              some (.inr ((-1), r3.2))
            else
              (den m_X4_copyFrom [vO 4 1, vO 4 0] r3.2).bind fun r4 =>
                some (.inl (49, [some (vO 5 0), some (vI x1), some (vI x2), some (vI x3), some (vI 0), some (vI 0)], r4.2))) := rfl
set_option maxRecDepth 20000 in
theorem sg_X5_winter_49 (LS : Int) (den : nl_D) (h : nl_H) (y1 : Int) (y2 : Int) (y3 : Int) (y4 : Int) (y5 : Int) : nl_ex LS cd_X5_winter den ct_X5_winter 1 400 49 [some (vO 5 0), some (vI y1), some (vI y2), some (vI y3), some (vI y4), some (vI y5)] [] h =
  (if nl_nz y2 ≤ nl_nz y5 then
    if nl_nz y3 = 0 then
      some (.inr (y4, h))
    else
      if nl_nz y3 = nl_nz 1 then
        (den m_X4_tiredTogether [vO 4 1] h).bind fun r1 =>
          some (.inr (r1.1, r1.2))
      else
        if 0 ≤ nl_nz 0 ∧ nl_nz 0 < 7 then some (.inr (h 4 1 8 (nl_nz 0).toNat, h)) else none
  else
    (den m_X5_drawFor [vI y1, vI y5] h).bind fun r2 =>
      (den m_X4_stir [vO 4 1, vI r2.1] r2.2).bind fun r3 =>
        (den m_X4_letNightsPass [vO 4 1, vI 1] r3.2).bind fun r4 =>
          some (.inl (49, [some (vO 5 0), some (vI y1), some (vI y2), some (vI y3), some (vI (y4 + r4.1)), some (vI (y5 + 1))], r4.2))) := rfl
set_option maxRecDepth 20000 in
theorem sg_X5_keep_0 (LS : Int) (den : nl_D) (h : nl_H)  : nl_ex LS cd_X5_keep den ct_X5_keep 1 400 0 [some (vO 5 0)] [] h =
  (if nl_nz (h 2 1 1 0) < nl_nz 2 then
    (den m_X2_put [vO 2 1, vO 4 0] h).bind fun r1 =>
      some (.inr (r1.2 2 1 1 0, r1.2))
  else
    some (.inr ((-3), h))) := rfl
set_option maxRecDepth 20000 in
theorem sg_X5_back_0 (LS : Int) (den : nl_D) (h : nl_H)  : nl_ex LS cd_X5_back den ct_X5_back 1 400 0 [some (vO 5 0)] [] h =
  ((den m_X2_takeInto [vO 2 1, vO 4 0] h).bind fun r1 =>
    if nl_nz r1.1 = 0 then
      some (.inr ((-2), r1.2))
    else
      (den m_X2_clear [vO 2 0] r1.2).bind fun r2 =>
        some (.inr (r2.2 2 1 1 0, r2.2))) := rfl
set_option maxRecDepth 20000 in
theorem sg_X5_count_0 (LS : Int) (den : nl_D) (h : nl_H) (x1 : Int) : nl_ex LS cd_X5_count den ct_X5_count 1 400 0 [some (vO 5 0), some (vI x1)] [] h =
  (if nl_nz x1 = 0 then
    some (.inr (h 4 0 0 0, h))
  else
    if nl_nz x1 = 0 + 1 then
      some (.inr (h 4 0 1 0, h))
    else
      if nl_nz x1 = 0 + 1 + 1 then
        some (.inr (h 4 0 2 0, h))
      else
        if nl_nz x1 = 0 + 1 + 1 + 1 then
          (den m_X4_tiredTogether [vO 4 0] h).bind fun r1 =>
            some (.inr (r1.1, r1.2))
        else
          if nl_nz x1 = 0 + 1 + 1 + 1 + 1 then
            some (.inr (h 3 0 3 0, h))
          else
            if nl_nz x1 = 0 + 1 + 1 + 1 + 1 + 1 then
              some (.inr (h 2 0 1 0, h))
            else
              if nl_nz x1 = 0 + 1 + 1 + 1 + 1 + 1 + 1 then
                some (.inr (h 2 1 1 0, h))
              else
                if nl_nz x1 = 0 + 1 + 1 + 1 + 1 + 1 + 1 + 1 then
                  some (.inr (h 5 0 1 0, h))
                else
                  some (.inr ((-1), h))) := rfl
set_option maxRecDepth 20000 in
theorem sg_X5_isWithin_0 (LS : Int) (den : nl_D) (h : nl_H) (x1 : Int) (x2 : Int) (x3 : Int) : nl_ex LS cd_X5_isWithin den ct_X5_isWithin 3 400 0 [some (vI x1), some (vI x2), some (vI x3)] [] h =
  (if nl_nz x1 < nl_nz x2 then
    some (.inr (0, h))
  else
    if nl_nz x3 < nl_nz x1 then
      some (.inr (0, h))
    else
      some (.inr (1, h))) := rfl
set_option maxRecDepth 20000 in
theorem sg_X5_largestDivisor_0 (LS : Int) (den : nl_D) (h : nl_H) (x1 : Int) (x2 : Int) : nl_ex LS cd_X5_largestDivisor den ct_X5_largestDivisor 1 400 0 [some (vI x1), some (vI x2), none] [] h =
  (some (.inl (2, [some (vI x1), some (vI x2), some (vI x2)], h))) := rfl
set_option maxRecDepth 20000 in
theorem sg_X5_largestDivisor_2 (LS : Int) (den : nl_D) (h : nl_H) (y0 : Int) (y1 : Int) (y2 : Int) : nl_ex LS cd_X5_largestDivisor den ct_X5_largestDivisor 1 400 2 [some (vI y0), some (vI y1), some (vI y2)] [] h =
  (if nl_nz y2 ≤ nl_nz 1 then
    some (.inr (1, h))
  else
    if nl_nz y2 = 0 then none else
      if nl_nz ((nl_nz y0).tmod (nl_nz y2)) = 0 then
        if nl_nz y2 = 0 then none else
          if nl_nz ((nl_nz y1).tmod (nl_nz y2)) = 0 then
            some (.inr (y2, h))
          else
            some (.inl (2, [some (vI y0), some (vI y1), some (vI (y2 + (-1)))], h))
      else
        some (.inl (2, [some (vI y0), some (vI y1), some (vI (y2 + (-1)))], h))) := rfl
set_option maxRecDepth 20000 in
theorem sg_X5_drawFor_0 (LS : Int) (den : nl_D) (h : nl_H) (x1 : Int) (x2 : Int) : nl_ex LS cd_X5_drawFor den ct_X5_drawFor 1 400 0 [some (vI x1), some (vI x2), none, none] [] h =
  (if nl_nl 65521 = 0 then none else
    if nl_nl 2 = 0 then none else
      some (.inr ((nl_nl ((nl_nl ((((7919 * (nl_nz x1)) + (6151 * (nl_nz x2))) + 1) * (((7919 * (nl_nz x1)) + (6151 * (nl_nz x2))) + 1))).tmod (nl_nl 65521))).tdiv (nl_nl 2), h))) := rfl
set_option maxRecDepth 20000 in
theorem sg_X5_nextMissAhead_0 (LS : Int) (den : nl_D) (h : nl_H) (x1 : Int) (x2 : Int) : nl_ex LS cd_X5_nextMissAhead den ct_X5_nextMissAhead 1 400 0 [some (vO 5 0), some (vI x1), some (vI x2), none] [] h =
  (some (.inl (2, [some (vO 5 0), some (vI x1), some (vI x2), some (vI 1)], h))) := rfl
set_option maxRecDepth 20000 in
theorem sg_X5_nextMissAhead_2 (LS : Int) (den : nl_D) (h : nl_H) (y1 : Int) (y2 : Int) (y3 : Int) : nl_ex LS cd_X5_nextMissAhead den ct_X5_nextMissAhead 1 400 2 [some (vO 5 0), some (vI y1), some (vI y2), some (vI y3)] [] h =
  (if nl_nz y2 < nl_nz y3 then
    some (.inr ((-1), h))
  else
    (den m_X4_seeThrough [vO 4 1, vI y1] h).bind fun r1 =>
      if nl_nz r1.1 = 0 then
        some (.inr (y3, r1.2))
      else
        some (.inl (2, [some (vO 5 0), some (vI y1), some (vI y2), some (vI (y3 + 1))], r1.2))) := rfl
set_option maxRecDepth 20000 in
theorem sg_X5_fitsAllSeen_0 (LS : Int) (den : nl_D) (h : nl_H) (x1 : Int) (x2 : Int) (x3 : Int) : nl_ex LS cd_X5_fitsAllSeen den ct_X5_fitsAllSeen 3 400 0 [some (vO 5 0), some (vI x1), some (vI x2), some (vI x3), none, none] [] h =
  ((den m_X4_copyFrom [vO 4 1, vO 4 0] h).bind fun r1 =>
    if 0 ≤ nl_nz x1 ∧ nl_nz x1 < 7 then
      if 0 ≤ nl_nz x1 ∧ nl_nz x1 < 7 then
        (den m_X3_lastNight [vO 3 0] (nl_up (nl_up r1.2 4 1 4 (nl_nz x1).toNat x2) 4 1 5 (nl_nz x1).toNat x3)).bind fun r2 =>
          some (.inl (43, [some (vO 5 0), some (vI x1), some (vI x2), some (vI x3), some (vI r2.1), some (vI 0)], r2.2))
      else none
    else none) := rfl
set_option maxRecDepth 20000 in
theorem sg_X5_fitsAllSeen_43 (LS : Int) (den : nl_D) (h : nl_H) (y1 : Int) (y2 : Int) (y3 : Int) (y4 : Int) (y5 : Int) : nl_ex LS cd_X5_fitsAllSeen den ct_X5_fitsAllSeen 3 400 43 [some (vO 5 0), some (vI y1), some (vI y2), some (vI y3), some (vI y4), some (vI y5)] [] h =
  (if nl_nz y4 < nl_nz y5 then
    some (.inr (1, h))
  else
    (den m_X3_fit [vO 3 0, vO 4 1, vI y5] h).bind fun r1 =>
      if nl_nz r1.1 = 0 then
        some (.inr (0, r1.2))
      else
        (den m_X4_letNightsPass [vO 4 1, vI 1] r1.2).bind fun r2 =>
          some (.inl (43, [some (vO 5 0), some (vI y1), some (vI y2), some (vI y3), some (vI y4), some (vI (y5 + 1))], r2.2))) := rfl
