/-! Equations of the abstract machine, cut to cut. -/
set_option maxRecDepth 20000 in
theorem sg_X0_choose_0 (LS : Int) (den : nl_D) (h : nl_H) (v : Nat) : nl_ex LS cd_X0_choose den ct_X0_choose 0 400 0 [some (vO 0 0), some (vO 4 v), none, none] [] h =
  ((den m_X0_weigh [vO 0 0, vO 4 v] h).bind fun r1 =>
    if 0 ≤ nl_nz (r1.2 4 v 0 0) ∧ nl_nz (r1.2 4 v 0 0) < 32 then some (.inl (16, [some (vO 0 0), some (vO 4 v), some (vI (r1.2 4 v 0 0)), some (vI ((1 * 2 ^ (nl_nz (r1.2 4 v 0 0)).toNat) - 1))], r1.2)) else none) := rfl
set_option maxRecDepth 20000 in
theorem sg_X0_choose_16 (LS : Int) (den : nl_D) (h : nl_H) (v : Nat) (y2 : Int) (y3 : Int) : nl_ex LS cd_X0_choose den ct_X0_choose 0 400 16 [some (vO 0 0), some (vO 4 v), some (vI y2), some (vI y3)] [] h =
  (if nl_nz y3 < 0 then
    (den m_X0_dealOut [vO 0 0, vI y2] h).bind fun r1 =>
      some (.inr (0, r1.2))
  else
    (den m_X0_leastOf [vO 0 0, vI y3, vI y2] h).bind fun r2 =>
      if 0 ≤ nl_nz y3 ∧ nl_nz y3 < 128 then some (.inl (16, [some (vO 0 0), some (vO 4 v), some (vI y2), some (vI (y3 + (-1)))], nl_up r2.2 0 0 1 (nl_nz y3).toNat r2.1)) else none) := rfl
set_option maxRecDepth 20000 in
theorem sg_X0_weigh_0 (LS : Int) (den : nl_D) (h : nl_H) (v : Nat) : nl_ex LS cd_X0_weigh den ct_X0_weigh 0 400 0 [some (vO 0 0), some (vO 4 v), none, none, none] [] h =
  (some (.inl (2, [some (vO 0 0), some (vO 4 v), some (vI 0), none, none], h))) := rfl
set_option maxRecDepth 20000 in
theorem sg_X0_weigh_2 (LS : Int) (den : nl_D) (h : nl_H) (v : Nat) (y2 : Int) (w3 : Option nl_V) (w4 : Option nl_V) : nl_ex LS cd_X0_weigh den ct_X0_weigh 0 400 2 [some (vO 0 0), some (vO 4 v), some (vI y2), w3, w4] [] h =
  (if nl_nz (h 4 v 0 0) ≤ nl_nz y2 then
    some (.inr (0, h))
  else
    if 0 ≤ nl_nz y2 ∧ nl_nz y2 < 7 then some (.inl (19, [some (vO 0 0), some (vO 4 v), some (vI y2), some (vI 0), w4], nl_up h 0 0 3 (nl_nz y2).toNat 0)) else none) := rfl
set_option maxRecDepth 20000 in
theorem sg_X0_weigh_19 (LS : Int) (den : nl_D) (h : nl_H) (v : Nat) (y2 : Int) (y3 : Int) (w4 : Option nl_V) : nl_ex LS cd_X0_weigh den ct_X0_weigh 0 400 19 [some (vO 0 0), some (vO 4 v), some (vI y2), some (vI y3), w4] [] h =
  (if nl_nz (h 4 v 0 0) ≤ nl_nz y3 then
    some (.inl (2, [some (vO 0 0), some (vO 4 v), some (vI (y2 + 1)), some (vI y3), w4], h))
  else
    if 0 ≤ nl_nz y2 ∧ nl_nz y2 < 7 then
      (den m_X4_wouldKeep [vO 4 v, vI y2, vI y3, vI (h 4 v 7 (nl_nz y2).toNat)] h).bind fun r1 =>
        if nl_nz r1.1 = 0 then
          if 0 ≤ nl_nz ((y2 * 7) + y3) ∧ nl_nz ((y2 * 7) + y3) < 49 then
            if 0 ≤ nl_nz y2 ∧ nl_nz y2 < 7 then
              if nl_nz r1.1 = 0 then
                if 0 ≤ nl_nz ((nl_up r1.2 0 0 0 (nl_nz ((y2 * 7) + y3)).toNat 1000) 0 0 3 (nl_nz y2).toNat) ∧ 0 ≤ nl_nz 0 then if 0 ≤ nl_nz y2 ∧ nl_nz y2 < 7 then some (.inl (19, [some (vO 0 0), some (vO 4 v), some (vI y2), some (vI (y3 + 1)), some (vI r1.1)], nl_up (nl_up r1.2 0 0 0 (nl_nz ((y2 * 7) + y3)).toNat 1000) 0 0 3 (nl_nz y2).toNat ((((nl_nz ((nl_up r1.2 0 0 0 (nl_nz ((y2 * 7) + y3)).toNat 1000) 0 0 3 (nl_nz y2).toNat)).toNat ||| (nl_nz 0).toNat : Nat) : Int)))) else none else none
              else
                if 0 ≤ nl_nz y3 ∧ nl_nz y3 < 32 then if 0 ≤ nl_nz ((nl_up r1.2 0 0 0 (nl_nz ((y2 * 7) + y3)).toNat 1000) 0 0 3 (nl_nz y2).toNat) ∧ 0 ≤ nl_nz (1 * 2 ^ (nl_nz y3).toNat) then if 0 ≤ nl_nz y2 ∧ nl_nz y2 < 7 then some (.inl (19, [some (vO 0 0), some (vO 4 v), some (vI y2), some (vI (y3 + 1)), some (vI r1.1)], nl_up (nl_up r1.2 0 0 0 (nl_nz ((y2 * 7) + y3)).toNat 1000) 0 0 3 (nl_nz y2).toNat ((((nl_nz ((nl_up r1.2 0 0 0 (nl_nz ((y2 * 7) + y3)).toNat 1000) 0 0 3 (nl_nz y2).toNat)).toNat ||| (nl_nz (1 * 2 ^ (nl_nz y3).toNat)).toNat : Nat) : Int)))) else none else none else none
            else none
          else none
        else
          (den m_X4_heaviness [vO 4 v, vI y2, vI y3] r1.2).bind fun r2 =>
            if 0 ≤ nl_nz ((y2 * 7) + y3) ∧ nl_nz ((y2 * 7) + y3) < 49 then
              if 0 ≤ nl_nz y2 ∧ nl_nz y2 < 7 then
                if nl_nz r1.1 = 0 then
                  if 0 ≤ nl_nz ((nl_up r2.2 0 0 0 (nl_nz ((y2 * 7) + y3)).toNat (-r2.1)) 0 0 3 (nl_nz y2).toNat) ∧ 0 ≤ nl_nz 0 then if 0 ≤ nl_nz y2 ∧ nl_nz y2 < 7 then some (.inl (19, [some (vO 0 0), some (vO 4 v), some (vI y2), some (vI (y3 + 1)), some (vI r1.1)], nl_up (nl_up r2.2 0 0 0 (nl_nz ((y2 * 7) + y3)).toNat (-r2.1)) 0 0 3 (nl_nz y2).toNat ((((nl_nz ((nl_up r2.2 0 0 0 (nl_nz ((y2 * 7) + y3)).toNat (-r2.1)) 0 0 3 (nl_nz y2).toNat)).toNat ||| (nl_nz 0).toNat : Nat) : Int)))) else none else none
                else
                  if 0 ≤ nl_nz y3 ∧ nl_nz y3 < 32 then if 0 ≤ nl_nz ((nl_up r2.2 0 0 0 (nl_nz ((y2 * 7) + y3)).toNat (-r2.1)) 0 0 3 (nl_nz y2).toNat) ∧ 0 ≤ nl_nz (1 * 2 ^ (nl_nz y3).toNat) then if 0 ≤ nl_nz y2 ∧ nl_nz y2 < 7 then some (.inl (19, [some (vO 0 0), some (vO 4 v), some (vI y2), some (vI (y3 + 1)), some (vI r1.1)], nl_up (nl_up r2.2 0 0 0 (nl_nz ((y2 * 7) + y3)).toNat (-r2.1)) 0 0 3 (nl_nz y2).toNat ((((nl_nz ((nl_up r2.2 0 0 0 (nl_nz ((y2 * 7) + y3)).toNat (-r2.1)) 0 0 3 (nl_nz y2).toNat)).toNat ||| (nl_nz (1 * 2 ^ (nl_nz y3).toNat)).toNat : Nat) : Int)))) else none else none else none
              else none
            else none
    else none) := rfl
set_option maxRecDepth 20000 in
theorem sg_X0_leastOf_0 (LS : Int) (den : nl_D) (h : nl_H) (x1 : Int) (x2 : Int) : nl_ex LS cd_X0_leastOf den ct_X0_leastOf 1 400 0 [some (vO 0 0), some (vI x1), some (vI x2), none, none, none] [] h =
  ((den m_J6_bitCount [vI x1] h).bind fun r1 =>
    if nl_nz r1.1 < nl_nz x2 then
      some (.inl (20, [some (vO 0 0), some (vI x1), some (vI x2), some (vI r1.1), some (vI 8000), some (vI 0)], r1.2))
    else
      some (.inr (0, r1.2))) := rfl
set_option maxRecDepth 20000 in
theorem sg_X0_leastOf_20 (LS : Int) (den : nl_D) (h : nl_H) (y1 : Int) (y2 : Int) (y3 : Int) (y4 : Int) (y5 : Int) : nl_ex LS cd_X0_leastOf den ct_X0_leastOf 1 400 20 [some (vO 0 0), some (vI y1), some (vI y2), some (vI y3), some (vI y4), some (vI y5)] [] h =
  (if nl_nz y2 ≤ nl_nz y5 then
    some (.inr (y4, h))
  else
    if 0 ≤ nl_nz y5 ∧ nl_nz y5 < 32 then
      if 0 ≤ nl_nz (nl_nz y1 / 2 ^ (nl_nz y5).toNat) ∧ 0 ≤ nl_nz 1 then
        if nl_nz ((((nl_nz (nl_nz y1 / 2 ^ (nl_nz y5).toNat)).toNat &&& (nl_nz 1).toNat : Nat) : Int)) = 0 then
          (den m_X0_priceWith [vO 0 0, vI y1, vI y3, vI y5] h).bind fun r1 =>
            some (.inl (20, [some (vO 0 0), some (vI y1), some (vI y2), some (vI y3), some (vI (if nl_nz r1.1 < nl_nz y4 then r1.1 else y4)), some (vI (y5 + 1))], r1.2))
        else
          some (.inl (20, [some (vO 0 0), some (vI y1), some (vI y2), some (vI y3), some (vI y4), some (vI (y5 + 1))], h))
      else none
    else none) := rfl
set_option maxRecDepth 20000 in
theorem sg_X0_priceWith_0 (LS : Int) (den : nl_D) (h : nl_H) (x1 : Int) (x2 : Int) (x3 : Int) : nl_ex LS cd_X0_priceWith den ct_X0_priceWith 1 400 0 [some (vO 0 0), some (vI x1), some (vI x2), some (vI x3)] [] h =
  (if 0 ≤ nl_nz ((x2 * 7) + x3) ∧ nl_nz ((x2 * 7) + x3) < 49 then if 0 ≤ nl_nz x3 ∧ nl_nz x3 < 32 then if 0 ≤ nl_nz x1 ∧ 0 ≤ nl_nz (1 * 2 ^ (nl_nz x3).toNat) then if 0 ≤ nl_nz ((((nl_nz x1).toNat ||| (nl_nz (1 * 2 ^ (nl_nz x3).toNat)).toNat : Nat) : Int)) ∧ nl_nz ((((nl_nz x1).toNat ||| (nl_nz (1 * 2 ^ (nl_nz x3).toNat)).toNat : Nat) : Int)) < 128 then some (.inr ((h 0 0 0 (nl_nz ((x2 * 7) + x3)).toNat) + (h 0 0 1 (nl_nz ((((nl_nz x1).toNat ||| (nl_nz (1 * 2 ^ (nl_nz x3).toNat)).toNat : Nat) : Int))).toNat), h)) else none else none else none else none) := rfl
set_option maxRecDepth 20000 in
theorem sg_X0_dealOut_0 (LS : Int) (den : nl_D) (h : nl_H) (x1 : Int) : nl_ex LS cd_X0_dealOut den ct_X0_dealOut 0 400 0 [some (vO 0 0), some (vI x1), none, none, none] [] h =
  (some (.inl (9, [some (vO 0 0), some (vI x1), some (vI 0), some (vI 0), none], nl_up h 0 0 5 0 0))) := rfl
set_option maxRecDepth 20000 in
theorem sg_X0_dealOut_9 (LS : Int) (den : nl_D) (h : nl_H) (y1 : Int) (y2 : Int) (y3 : Int) (w4 : Option nl_V) : nl_ex LS cd_X0_dealOut den ct_X0_dealOut 0 400 9 [some (vO 0 0), some (vI y1), some (vI y2), some (vI y3), w4] [] h =
  (if nl_nz y1 ≤ nl_nz y3 then
    some (.inr (0, h))
  else
    (den m_X0_lowestOfLeast [vO 0 0, vI y2, vI y3, vI y1] h).bind fun r1 =>
      if 0 ≤ nl_nz y3 ∧ nl_nz y3 < 7 then
        if 0 ≤ nl_nz y3 ∧ nl_nz y3 < 7 then
          if 0 ≤ nl_nz r1.1 ∧ nl_nz r1.1 < 32 then
            if 0 ≤ nl_nz (nl_nz ((nl_up r1.2 0 0 2 (nl_nz y3).toNat r1.1) 0 0 3 (nl_nz y3).toNat) / 2 ^ (nl_nz r1.1).toNat) ∧ 0 ≤ nl_nz 1 then
              if nl_nz ((((nl_nz (nl_nz ((nl_up r1.2 0 0 2 (nl_nz y3).toNat r1.1) 0 0 3 (nl_nz y3).toNat) / 2 ^ (nl_nz r1.1).toNat)).toNat &&& (nl_nz 1).toNat : Nat) : Int)) = 0 then
                if 0 ≤ nl_nz r1.1 ∧ nl_nz r1.1 < 32 then if 0 ≤ nl_nz y2 ∧ 0 ≤ nl_nz (1 * 2 ^ (nl_nz r1.1).toNat) then some (.inl (9, [some (vO 0 0), some (vI y1), some (vI ((((nl_nz y2).toNat ||| (nl_nz (1 * 2 ^ (nl_nz r1.1).toNat)).toNat : Nat) : Int))), some (vI (y3 + 1)), some (vI r1.1)], nl_up (nl_up r1.2 0 0 2 (nl_nz y3).toNat r1.1) 0 0 5 0 (((nl_up r1.2 0 0 2 (nl_nz y3).toNat r1.1) 0 0 5 0) + 1))) else none else none
              else
                if 0 ≤ nl_nz r1.1 ∧ nl_nz r1.1 < 32 then if 0 ≤ nl_nz y2 ∧ 0 ≤ nl_nz (1 * 2 ^ (nl_nz r1.1).toNat) then some (.inl (9, [some (vO 0 0), some (vI y1), some (vI ((((nl_nz y2).toNat ||| (nl_nz (1 * 2 ^ (nl_nz r1.1).toNat)).toNat : Nat) : Int))), some (vI (y3 + 1)), some (vI r1.1)], nl_up (nl_up r1.2 0 0 2 (nl_nz y3).toNat r1.1) 0 0 5 0 (((nl_up r1.2 0 0 2 (nl_nz y3).toNat r1.1) 0 0 5 0) + 0))) else none else none
            else none
          else none
        else none
      else none) := rfl
set_option maxRecDepth 20000 in
theorem sg_X0_lowestOfLeast_0 (LS : Int) (den : nl_D) (h : nl_H) (x1 : Int) (x2 : Int) (x3 : Int) : nl_ex LS cd_X0_lowestOfLeast den ct_X0_lowestOfLeast 1 400 0 [some (vO 0 0), some (vI x1), some (vI x2), some (vI x3), none] [] h =
  (some (.inl (3, [some (vO 0 0), some (vI x1), some (vI x2), some (vI x3), some (vI 0)], h))) := rfl
set_option maxRecDepth 20000 in
theorem sg_X0_lowestOfLeast_3 (LS : Int) (den : nl_D) (h : nl_H) (y1 : Int) (y2 : Int) (y3 : Int) (y4 : Int) : nl_ex LS cd_X0_lowestOfLeast den ct_X0_lowestOfLeast 1 400 3 [some (vO 0 0), some (vI y1), some (vI y2), some (vI y3), some (vI y4)] [] h =
  (if nl_nz y3 ≤ nl_nz y4 then
    some (.inr (0, h))
  else
    if 0 ≤ nl_nz y4 ∧ nl_nz y4 < 32 then
      if 0 ≤ nl_nz (nl_nz y1 / 2 ^ (nl_nz y4).toNat) ∧ 0 ≤ nl_nz 1 then
        if nl_nz ((((nl_nz (nl_nz y1 / 2 ^ (nl_nz y4).toNat)).toNat &&& (nl_nz 1).toNat : Nat) : Int)) = 0 then
          (den m_X0_priceWith [vO 0 0, vI y1, vI y2, vI y4] h).bind fun r1 =>
            if 0 ≤ nl_nz y1 ∧ nl_nz y1 < 128 then
              if nl_nz r1.1 = nl_nz (r1.2 0 0 1 (nl_nz y1).toNat) then
                some (.inr (y4, r1.2))
              else
                some (.inl (3, [some (vO 0 0), some (vI y1), some (vI y2), some (vI y3), some (vI (y4 + 1))], r1.2))
            else none
        else
          some (.inl (3, [some (vO 0 0), some (vI y1), some (vI y2), some (vI y3), some (vI (y4 + 1))], h))
      else none
    else none) := rfl
set_option maxRecDepth 20000 in
theorem sg_X0_fewestSwaps_0 (LS : Int) (den : nl_D) (h : nl_H) (v : Nat) : nl_ex LS cd_X0_fewestSwaps den ct_X0_fewestSwaps 1 400 0 [some (vO 0 0), some (vO 4 v), none] [] h =
  (some (.inl (2, [some (vO 0 0), some (vO 4 v), some (vI 0)], h))) := rfl
set_option maxRecDepth 20000 in
theorem sg_X0_fewestSwaps_2 (LS : Int) (den : nl_D) (h : nl_H) (v : Nat) (y2 : Int) : nl_ex LS cd_X0_fewestSwaps den ct_X0_fewestSwaps 1 400 2 [some (vO 0 0), some (vO 4 v), some (vI y2)] [] h =
  (if nl_nz (h 4 v 0 0) ≤ nl_nz y2 then
    some (.inl (30, [some (vO 0 0), some (vO 4 v), some (vI 0)], h))
  else
    if 0 ≤ nl_nz y2 ∧ nl_nz y2 < 7 then if 0 ≤ nl_nz y2 ∧ nl_nz y2 < 7 then some (.inl (2, [some (vO 0 0), some (vO 4 v), some (vI (y2 + 1))], nl_up h 0 0 4 (nl_nz y2).toNat (h 4 v 8 (nl_nz y2).toNat))) else none else none) := rfl
set_option maxRecDepth 20000 in
theorem sg_X0_fewestSwaps_30 (LS : Int) (den : nl_D) (h : nl_H) (v : Nat) (y2 : Int) : nl_ex LS cd_X0_fewestSwaps den ct_X0_fewestSwaps 1 400 30 [some (vO 0 0), some (vO 4 v), some (vI y2)] [] h =
  (if nl_nz (h 4 v 0 0) ≤ nl_nz y2 then
    some (.inr ((-4), h))
  else
    (den m_X0_canBridge [vA 0 0 4, vA 0 0 3, vI (h 4 v 0 0), vI 0, vI y2] h).bind fun r1 =>
      if nl_nz r1.1 = 0 then
        some (.inl (30, [some (vO 0 0), some (vO 4 v), some (vI (y2 + 1))], r1.2))
      else
        some (.inr (y2, r1.2))) := rfl
set_option maxRecDepth 20000 in
theorem sg_X0_canBridge_0 (LS : Int) (den : nl_D) (h : nl_H) (x1 : Int) (x2 : Int) (x3 : Int) : nl_ex LS cd_X0_canBridge den ct_X0_canBridge 3 400 0 [some (vA 0 0 4), some (vA 0 0 3), some (vI x1), some (vI x2), some (vI x3), none, none, none] [] h =
  (if nl_nz x2 < nl_nz x1 then
    if nl_nz x3 ≤ 0 then
      some (.inl (24, [some (vA 0 0 4), some (vA 0 0 3), some (vI x1), some (vI x2), some (vI x3), some (vI x2), some (vI x2), none], h))
    else
      some (.inl (24, [some (vA 0 0 4), some (vA 0 0 3), some (vI x1), some (vI x2), some (vI x3), some (vI (x1 - 1)), some (vI x2), none], h))
  else
    some (.inr (1, h))) := rfl
set_option maxRecDepth 20000 in
theorem sg_X0_canBridge_24 (LS : Int) (den : nl_D) (h : nl_H) (y2 : Int) (y3 : Int) (y4 : Int) (y5 : Int) (y6 : Int) (w7 : Option nl_V) : nl_ex LS cd_X0_canBridge den ct_X0_canBridge 3 400 24 [some (vA 0 0 4), some (vA 0 0 3), some (vI y2), some (vI y3), some (vI y4), some (vI y5), some (vI y6), w7] [] h =
  (if nl_nz y5 < nl_nz y6 then
    some (.inr (0, h))
  else
    (den m_X0_exchange [vA 0 0 4, vI y3, vI y6] h).bind fun r1 =>
      if 0 ≤ nl_nz y3 ∧ nl_nz y3 < 7 then
        if 0 ≤ nl_nz y3 ∧ nl_nz y3 < 7 then
          if 0 ≤ nl_nz (r1.2 0 0 4 (nl_nz y3).toNat) ∧ nl_nz (r1.2 0 0 4 (nl_nz y3).toNat) < 32 then
            if 0 ≤ nl_nz (nl_nz (r1.2 0 0 3 (nl_nz y3).toNat) / 2 ^ (nl_nz (r1.2 0 0 4 (nl_nz y3).toNat)).toNat) ∧ 0 ≤ nl_nz 1 then
              if nl_nz ((((nl_nz (nl_nz (r1.2 0 0 3 (nl_nz y3).toNat) / 2 ^ (nl_nz (r1.2 0 0 4 (nl_nz y3).toNat)).toNat)).toNat &&& (nl_nz 1).toNat : Nat) : Int)) = nl_nz 1 then
                if nl_nz y6 = nl_nz y3 then
                  (den m_X0_canBridge [vA 0 0 4, vA 0 0 3, vI y2, vI (y3 + 1), vI y4] r1.2).bind fun r2 =>
                    if nl_nz r2.1 = 0 then
                      (den m_X0_exchange [vA 0 0 4, vI y3, vI y6] r2.2).bind fun r3 =>
                        if nl_nz 0 = 0 then
                          some (.inl (24, [some (vA 0 0 4), some (vA 0 0 3), some (vI y2), some (vI y3), some (vI y4), some (vI y5), some (vI (y6 + 1)), some (vI 0)], r3.2))
                        else
                          some (.inr (1, r3.2))
                    else
                      (den m_X0_exchange [vA 0 0 4, vI y3, vI y6] r2.2).bind fun r4 =>
                        if nl_nz 1 = 0 then
                          some (.inl (24, [some (vA 0 0 4), some (vA 0 0 3), some (vI y2), some (vI y3), some (vI y4), some (vI y5), some (vI (y6 + 1)), some (vI 1)], r4.2))
                        else
                          some (.inr (1, r4.2))
                else
                  (den m_X0_canBridge [vA 0 0 4, vA 0 0 3, vI y2, vI (y3 + 1), vI (y4 - 1)] r1.2).bind fun r5 =>
                    if nl_nz r5.1 = 0 then
                      (den m_X0_exchange [vA 0 0 4, vI y3, vI y6] r5.2).bind fun r6 =>
                        if nl_nz 0 = 0 then
                          some (.inl (24, [some (vA 0 0 4), some (vA 0 0 3), some (vI y2), some (vI y3), some (vI y4), some (vI y5), some (vI (y6 + 1)), some (vI 0)], r6.2))
                        else
                          some (.inr (1, r6.2))
                    else
                      (den m_X0_exchange [vA 0 0 4, vI y3, vI y6] r5.2).bind fun r7 =>
                        if nl_nz 1 = 0 then
                          some (.inl (24, [some (vA 0 0 4), some (vA 0 0 3), some (vI y2), some (vI y3), some (vI y4), some (vI y5), some (vI (y6 + 1)), some (vI 1)], r7.2))
                        else
                          some (.inr (1, r7.2))
              else
                (den m_X0_exchange [vA 0 0 4, vI y3, vI y6] r1.2).bind fun r8 =>
                  if nl_nz 0 = 0 then
                    some (.inl (24, [some (vA 0 0 4), some (vA 0 0 3), some (vI y2), some (vI y3), some (vI y4), some (vI y5), some (vI (y6 + 1)), some (vI 0)], r8.2))
                  else
                    some (.inr (1, r8.2))
            else none
          else none
        else none
      else none) := rfl
set_option maxRecDepth 20000 in
theorem sg_X0_exchange_0 (LS : Int) (den : nl_D) (h : nl_H) (x1 : Int) (x2 : Int) : nl_ex LS cd_X0_exchange den ct_X0_exchange 0 400 0 [some (vA 0 0 4), some (vI x1), some (vI x2), none] [] h =
  (if 0 ≤ nl_nz x1 ∧ nl_nz x1 < 7 then if 0 ≤ nl_nz x2 ∧ nl_nz x2 < 7 then if 0 ≤ nl_nz x1 ∧ nl_nz x1 < 7 then if 0 ≤ nl_nz x2 ∧ nl_nz x2 < 7 then some (.inr (0, nl_up (nl_up h 0 0 4 (nl_nz x1).toNat (h 0 0 4 (nl_nz x2).toNat)) 0 0 4 (nl_nz x2).toNat (h 0 0 4 (nl_nz x1).toNat))) else none else none else none else none) := rfl
set_option maxRecDepth 20000 in
theorem sg_X1_read_0 (LS : Int) (den : nl_D) (h : nl_H) (x1 : Int) : nl_ex LS cd_X1_read den ct_X1_read 0 400 0 [some (vO 1 0), some (vA 5 0 0), some (vI x1), none, none] [] h =
  (some (.inl (17, [some (vO 1 0), some (vA 5 0 0), some (vI x1), some (vI 0), none], nl_up (nl_up (nl_up h 1 0 5 0 0) 1 0 6 0 0) 1 0 7 0 ((-1))))) := rfl
set_option maxRecDepth 20000 in
theorem sg_X1_read_17 (LS : Int) (den : nl_D) (h : nl_H) (y2 : Int) (y3 : Int) (w4 : Option nl_V) : nl_ex LS cd_X1_read den ct_X1_read 0 400 17 [some (vO 1 0), some (vA 5 0 0), some (vI y2), some (vI y3), w4] [] h =
  (if nl_nz y2 ≤ nl_nz y3 then
    some (.inr (0, h))
  else
    (den m_X1_readItem [vO 1 0, vA 5 0 0, vI y2, vI y3] h).bind fun r1 =>
      if nl_nz y3 < nl_nz r1.1 then
        some (.inl (17, [some (vO 1 0), some (vA 5 0 0), some (vI y2), some (vI r1.1), some (vI r1.1)], r1.2))
      else
        some (.inr (0, nl_up r1.2 1 0 7 0 y3))) := rfl
set_option maxRecDepth 20000 in
theorem sg_X1_canBeLaid_0 (LS : Int) (den : nl_D) (h : nl_H)  : nl_ex LS cd_X1_canBeLaid den ct_X1_canBeLaid 3 400 0 [some (vO 1 0)] [] h =
  (if nl_nz (h 1 0 7 0) = nl_nz ((-1)) then
    if nl_nz (h 1 0 5 0) < nl_nz 2 then
      some (.inr (0, h))
    else
      if nl_nz (h 1 0 5 0) = nl_nz (h 1 0 6 0) then
        some (.inr (1, h))
      else
        some (.inr (0, h))
  else
    some (.inr (0, h))) := rfl
set_option maxRecDepth 20000 in
theorem sg_X1_readItem_0 (LS : Int) (den : nl_D) (h : nl_H) (x1 : Int) (x2 : Int) : nl_ex LS cd_X1_readItem den ct_X1_readItem 1 400 0 [some (vO 1 0), some (vA 5 0 0), some (vI x1), some (vI x2), none, none, none, none, none, none] [] h =
  (if 0 ≤ nl_nz x2 ∧ nl_nz x2 < 200 then
    if nl_nz (h 5 0 0 (nl_nz x2).toNat) = nl_nz 110 then
      if nl_nz 1 = 0 then
        if 0 ≤ nl_nz x2 ∧ nl_nz x2 < 200 then
          if nl_nz (h 5 0 0 (nl_nz x2).toNat) = nl_nz 104 then
            if nl_nz 1 = 0 then
              some (.inl (50, [some (vO 1 0), some (vA 5 0 0), some (vI x1), some (vI x2), some (vI 1), some (vI 3), some (vI (x2 + 1)), some (vI 0), none, none], h))
            else
              some (.inl (50, [some (vO 1 0), some (vA 5 0 0), some (vI x1), some (vI x2), some (vI 1), some (vI 1), some (vI (x2 + 1)), some (vI 0), none, none], h))
          else
            some (.inr ((-1), h))
        else none
      else
        if nl_nz 1 = 0 then
          some (.inl (50, [some (vO 1 0), some (vA 5 0 0), some (vI x1), some (vI x2), some (vI 1), some (vI 3), some (vI (x2 + 1)), some (vI 0), none, none], h))
        else
          some (.inl (50, [some (vO 1 0), some (vA 5 0 0), some (vI x1), some (vI x2), some (vI 1), some (vI 1), some (vI (x2 + 1)), some (vI 0), none, none], h))
    else
      if nl_nz 0 = 0 then
        if 0 ≤ nl_nz x2 ∧ nl_nz x2 < 200 then
          if nl_nz (h 5 0 0 (nl_nz x2).toNat) = nl_nz 104 then
            if nl_nz 0 = 0 then
              some (.inl (50, [some (vO 1 0), some (vA 5 0 0), some (vI x1), some (vI x2), some (vI 0), some (vI 3), some (vI (x2 + 1)), some (vI 0), none, none], h))
            else
              some (.inl (50, [some (vO 1 0), some (vA 5 0 0), some (vI x1), some (vI x2), some (vI 0), some (vI 1), some (vI (x2 + 1)), some (vI 0), none, none], h))
          else
            some (.inr ((-1), h))
        else none
      else
        if nl_nz 0 = 0 then
          some (.inl (50, [some (vO 1 0), some (vA 5 0 0), some (vI x1), some (vI x2), some (vI 0), some (vI 3), some (vI (x2 + 1)), some (vI 0), none, none], h))
        else
          some (.inl (50, [some (vO 1 0), some (vA 5 0 0), some (vI x1), some (vI x2), some (vI 0), some (vI 1), some (vI (x2 + 1)), some (vI 0), none, none], h))
  else none) := rfl
set_option maxRecDepth 20000 in
theorem sg_X1_readItem_50 (LS : Int) (den : nl_D) (h : nl_H) (y2 : Int) (y3 : Int) (y4 : Int) (y5 : Int) (y6 : Int) (y7 : Int) (w8 : Option nl_V) (w9 : Option nl_V) : nl_ex LS cd_X1_readItem den ct_X1_readItem 1 400 50 [some (vO 1 0), some (vA 5 0 0), some (vI y2), some (vI y3), some (vI y4), some (vI y5), some (vI y6), some (vI y7), w8, w9] [] h =
  (if nl_nz y5 ≤ nl_nz y7 then
    if nl_nz y4 = 0 then
      (den m_X1_addHouse [vO 1 0] h).bind fun r1 =>
        if nl_nz r1.1 = 0 then
          some (.inr ((-1), r1.2))
        else
          some (.inr (y6, r1.2))
    else
      (den m_X1_addHour [vO 1 0] h).bind fun r2 =>
        if nl_nz r2.1 = 0 then
          some (.inr ((-1), r2.2))
        else
          some (.inr (y6, r2.2))
  else
    (den m_X1_readNumber [vO 1 0, vA 5 0 0, vI y2, vI y6, vI y7] h).bind fun r3 =>
      if nl_nz y7 = nl_nz (y5 - 1) then
        if nl_nz r3.1 ≤ nl_nz y6 then
          some (.inr ((-1), r3.2))
        else
          if nl_nz y2 ≤ nl_nz r3.1 then
            some (.inr ((-1), r3.2))
          else
            if 0 ≤ nl_nz r3.1 ∧ nl_nz r3.1 < 200 then
              if nl_nz (r3.2 5 0 0 (nl_nz r3.1).toNat) = nl_nz 59 then
                some (.inl (50, [some (vO 1 0), some (vA 5 0 0), some (vI y2), some (vI y3), some (vI y4), some (vI y5), some (vI (r3.1 + 1)), some (vI (y7 + 1)), some (vI r3.1), some (vI 59)], r3.2))
              else
                some (.inr ((-1), r3.2))
            else none
      else
        if nl_nz r3.1 ≤ nl_nz y6 then
          some (.inr ((-1), r3.2))
        else
          if nl_nz y2 ≤ nl_nz r3.1 then
            some (.inr ((-1), r3.2))
          else
            if 0 ≤ nl_nz r3.1 ∧ nl_nz r3.1 < 200 then
              if nl_nz (r3.2 5 0 0 (nl_nz r3.1).toNat) = nl_nz 44 then
                some (.inl (50, [some (vO 1 0), some (vA 5 0 0), some (vI y2), some (vI y3), some (vI y4), some (vI y5), some (vI (r3.1 + 1)), some (vI (y7 + 1)), some (vI r3.1), some (vI 44)], r3.2))
              else
                some (.inr ((-1), r3.2))
            else none) := rfl
set_option maxRecDepth 20000 in
theorem sg_X1_readNumber_0 (LS : Int) (den : nl_D) (h : nl_H) (x1 : Int) (x2 : Int) (x3 : Int) : nl_ex LS cd_X1_readNumber den ct_X1_readNumber 1 400 0 [some (vO 1 0), some (vA 5 0 0), some (vI x1), some (vI x2), some (vI x3), none, none] [] h =
  (some (.inl (6, [some (vO 1 0), some (vA 5 0 0), some (vI x1), some (vI x2), some (vI x3), some (vI 0), some (vI x2)], h))) := rfl
set_option maxRecDepth 20000 in
theorem sg_X1_readNumber_6 (LS : Int) (den : nl_D) (h : nl_H) (y2 : Int) (y3 : Int) (y4 : Int) (y5 : Int) (y6 : Int) : nl_ex LS cd_X1_readNumber den ct_X1_readNumber 1 400 6 [some (vO 1 0), some (vA 5 0 0), some (vI y2), some (vI y3), some (vI y4), some (vI y5), some (vI y6)] [] h =
  (if nl_nz y2 ≤ nl_nz y6 then
    if 0 ≤ nl_nz y4 ∧ nl_nz y4 < 3 then some (.inr (y6, nl_up h 1 0 4 (nl_nz y4).toNat y5)) else none
  else
    if nl_nz (y3 + 2) ≤ nl_nz y6 then
      if 0 ≤ nl_nz y4 ∧ nl_nz y4 < 3 then some (.inr (y6, nl_up h 1 0 4 (nl_nz y4).toNat y5)) else none
    else
      if 0 ≤ nl_nz y6 ∧ nl_nz y6 < 200 then
        (den m_X5_isWithin [vI (h 5 0 0 (nl_nz y6).toNat), vI 48, vI 57] h).bind fun r1 =>
          if nl_nz r1.1 = 0 then
            if 0 ≤ nl_nz y4 ∧ nl_nz y4 < 3 then some (.inr (y6, nl_up r1.2 1 0 4 (nl_nz y4).toNat y5)) else none
          else
            if 0 ≤ nl_nz y6 ∧ nl_nz y6 < 200 then some (.inl (6, [some (vO 1 0), some (vA 5 0 0), some (vI y2), some (vI y3), some (vI y4), some (vI (((y5 * 10) + (r1.2 5 0 0 (nl_nz y6).toNat)) - 48)), some (vI (y6 + 1))], r1.2)) else none
      else none) := rfl
set_option maxRecDepth 20000 in
theorem sg_X1_addHour_0 (LS : Int) (den : nl_D) (h : nl_H)  : nl_ex LS cd_X1_addHour den ct_X1_addHour 3 400 0 [some (vO 1 0)] [] h =
  (if nl_nz 7 ≤ nl_nz (h 1 0 5 0) then
    some (.inr (0, h))
  else
    if 0 ≤ nl_nz 0 ∧ nl_nz 0 < 3 then
      if nl_nz (h 1 0 4 (nl_nz 0).toNat) ≤ nl_nz 20 then
        if 0 ≤ nl_nz 0 ∧ nl_nz 0 < 3 then if 0 ≤ nl_nz (h 1 0 5 0) ∧ nl_nz (h 1 0 5 0) < 7 then some (.inr (1, nl_up (nl_up h 1 0 0 (nl_nz (h 1 0 5 0)).toNat (h 1 0 4 (nl_nz 0).toNat)) 1 0 5 0 (((nl_up h 1 0 0 (nl_nz (h 1 0 5 0)).toNat (h 1 0 4 (nl_nz 0).toNat)) 1 0 5 0) + 1))) else none else none
      else
        some (.inr (0, h))
    else none) := rfl
set_option maxRecDepth 20000 in
theorem sg_X1_addHouse_0 (LS : Int) (den : nl_D) (h : nl_H)  : nl_ex LS cd_X1_addHouse den ct_X1_addHouse 3 400 0 [some (vO 1 0)] [] h =
  (if nl_nz (h 1 0 5 0) ≤ nl_nz (h 1 0 6 0) then
    some (.inr (0, h))
  else
    if 0 ≤ nl_nz 0 ∧ nl_nz 0 < 3 then
      if nl_nz 3 < nl_nz (h 1 0 4 (nl_nz 0).toNat) then
        some (.inr (0, h))
      else
        if 0 ≤ nl_nz 1 ∧ nl_nz 1 < 3 then
          if nl_nz 40 < nl_nz (h 1 0 4 (nl_nz 1).toNat) then
            some (.inr (0, h))
          else
            if 0 ≤ nl_nz 2 ∧ nl_nz 2 < 3 then
              if nl_nz (h 1 0 4 (nl_nz 2).toNat) ≤ nl_nz 99 then
                if 0 ≤ nl_nz 0 ∧ nl_nz 0 < 3 then if 0 ≤ nl_nz (h 1 0 6 0) ∧ nl_nz (h 1 0 6 0) < 7 then if 0 ≤ nl_nz 1 ∧ nl_nz 1 < 3 then if 0 ≤ nl_nz ((nl_up h 1 0 1 (nl_nz (h 1 0 6 0)).toNat (h 1 0 4 (nl_nz 0).toNat)) 1 0 6 0) ∧ nl_nz ((nl_up h 1 0 1 (nl_nz (h 1 0 6 0)).toNat (h 1 0 4 (nl_nz 0).toNat)) 1 0 6 0) < 7 then if 0 ≤ nl_nz 2 ∧ nl_nz 2 < 3 then if 0 ≤ nl_nz ((nl_up (nl_up h 1 0 1 (nl_nz (h 1 0 6 0)).toNat (h 1 0 4 (nl_nz 0).toNat)) 1 0 2 (nl_nz ((nl_up h 1 0 1 (nl_nz (h 1 0 6 0)).toNat (h 1 0 4 (nl_nz 0).toNat)) 1 0 6 0)).toNat ((nl_up h 1 0 1 (nl_nz (h 1 0 6 0)).toNat (h 1 0 4 (nl_nz 0).toNat)) 1 0 4 (nl_nz 1).toNat)) 1 0 6 0) ∧ nl_nz ((nl_up (nl_up h 1 0 1 (nl_nz (h 1 0 6 0)).toNat (h 1 0 4 (nl_nz 0).toNat)) 1 0 2 (nl_nz ((nl_up h 1 0 1 (nl_nz (h 1 0 6 0)).toNat (h 1 0 4 (nl_nz 0).toNat)) 1 0 6 0)).toNat ((nl_up h 1 0 1 (nl_nz (h 1 0 6 0)).toNat (h 1 0 4 (nl_nz 0).toNat)) 1 0 4 (nl_nz 1).toNat)) 1 0 6 0) < 7 then some (.inr (1, nl_up (nl_up (nl_up (nl_up h 1 0 1 (nl_nz (h 1 0 6 0)).toNat (h 1 0 4 (nl_nz 0).toNat)) 1 0 2 (nl_nz ((nl_up h 1 0 1 (nl_nz (h 1 0 6 0)).toNat (h 1 0 4 (nl_nz 0).toNat)) 1 0 6 0)).toNat ((nl_up h 1 0 1 (nl_nz (h 1 0 6 0)).toNat (h 1 0 4 (nl_nz 0).toNat)) 1 0 4 (nl_nz 1).toNat)) 1 0 3 (nl_nz ((nl_up (nl_up h 1 0 1 (nl_nz (h 1 0 6 0)).toNat (h 1 0 4 (nl_nz 0).toNat)) 1 0 2 (nl_nz ((nl_up h 1 0 1 (nl_nz (h 1 0 6 0)).toNat (h 1 0 4 (nl_nz 0).toNat)) 1 0 6 0)).toNat ((nl_up h 1 0 1 (nl_nz (h 1 0 6 0)).toNat (h 1 0 4 (nl_nz 0).toNat)) 1 0 4 (nl_nz 1).toNat)) 1 0 6 0)).toNat ((nl_up (nl_up h 1 0 1 (nl_nz (h 1 0 6 0)).toNat (h 1 0 4 (nl_nz 0).toNat)) 1 0 2 (nl_nz ((nl_up h 1 0 1 (nl_nz (h 1 0 6 0)).toNat (h 1 0 4 (nl_nz 0).toNat)) 1 0 6 0)).toNat ((nl_up h 1 0 1 (nl_nz (h 1 0 6 0)).toNat (h 1 0 4 (nl_nz 0).toNat)) 1 0 4 (nl_nz 1).toNat)) 1 0 4 (nl_nz 2).toNat)) 1 0 6 0 (((nl_up (nl_up (nl_up h 1 0 1 (nl_nz (h 1 0 6 0)).toNat (h 1 0 4 (nl_nz 0).toNat)) 1 0 2 (nl_nz ((nl_up h 1 0 1 (nl_nz (h 1 0 6 0)).toNat (h 1 0 4 (nl_nz 0).toNat)) 1 0 6 0)).toNat ((nl_up h 1 0 1 (nl_nz (h 1 0 6 0)).toNat (h 1 0 4 (nl_nz 0).toNat)) 1 0 4 (nl_nz 1).toNat)) 1 0 3 (nl_nz ((nl_up (nl_up h 1 0 1 (nl_nz (h 1 0 6 0)).toNat (h 1 0 4 (nl_nz 0).toNat)) 1 0 2 (nl_nz ((nl_up h 1 0 1 (nl_nz (h 1 0 6 0)).toNat (h 1 0 4 (nl_nz 0).toNat)) 1 0 6 0)).toNat ((nl_up h 1 0 1 (nl_nz (h 1 0 6 0)).toNat (h 1 0 4 (nl_nz 0).toNat)) 1 0 4 (nl_nz 1).toNat)) 1 0 6 0)).toNat ((nl_up (nl_up h 1 0 1 (nl_nz (h 1 0 6 0)).toNat (h 1 0 4 (nl_nz 0).toNat)) 1 0 2 (nl_nz ((nl_up h 1 0 1 (nl_nz (h 1 0 6 0)).toNat (h 1 0 4 (nl_nz 0).toNat)) 1 0 6 0)).toNat ((nl_up h 1 0 1 (nl_nz (h 1 0 6 0)).toNat (h 1 0 4 (nl_nz 0).toNat)) 1 0 4 (nl_nz 1).toNat)) 1 0 4 (nl_nz 2).toNat)) 1 0 6 0) + 1))) else none else none else none else none else none else none
              else
                some (.inr (0, h))
            else none
        else none
    else none) := rfl
set_option maxRecDepth 20000 in
theorem sg_X2_clear_0 (LS : Int) (den : nl_D) (h : nl_H) (o : Nat) : nl_ex LS cd_X2_clear den ct_X2_clear 0 400 0 [some (vO 2 o)] [] h =
  (some (.inr (0, nl_up h 2 o 1 0 0))) := rfl
set_option maxRecDepth 20000 in
theorem sg_X2_put_0 (LS : Int) (den : nl_D) (h : nl_H) (o : Nat) (v : Nat) : nl_ex LS cd_X2_put den ct_X2_put 0 400 0 [some (vO 2 o), some (vO 4 v)] [] h =
  (if nl_nz (h 2 o 1 0) < nl_nz (nl_al LS 2 o 0) then
    if (0 ≤ nl_nz (h 2 o 1 0) ∧ nl_nz (h 2 o 1 0) < nl_al LS 2 o 0) ∧ (h 2 o 0 (nl_nz (h 2 o 1 0)).toNat).toNat < 12 then
      (den m_X4_copyFrom [vO 4 ((h 2 o 0 (nl_nz (h 2 o 1 0)).toNat).toNat), vO 4 v] h).bind fun r1 =>
        some (.inr (0, nl_up r1.2 2 o 1 0 ((r1.2 2 o 1 0) + 1)))
    else none
  else
    (den m_X2_dropOldest [vO 2 o] h).bind fun r2 =>
      if (0 ≤ nl_nz (r2.2 2 o 1 0) ∧ nl_nz (r2.2 2 o 1 0) < nl_al LS 2 o 0) ∧ (r2.2 2 o 0 (nl_nz (r2.2 2 o 1 0)).toNat).toNat < 12 then
        (den m_X4_copyFrom [vO 4 ((r2.2 2 o 0 (nl_nz (r2.2 2 o 1 0)).toNat).toNat), vO 4 v] r2.2).bind fun r3 =>
          some (.inr (0, nl_up r3.2 2 o 1 0 ((r3.2 2 o 1 0) + 1)))
      else none) := rfl
set_option maxRecDepth 20000 in
theorem sg_X2_dropOldest_0 (LS : Int) (den : nl_D) (h : nl_H) (o : Nat) : nl_ex LS cd_X2_dropOldest den ct_X2_dropOldest 0 400 0 [some (vO 2 o), none, none] [] h =
  (if (0 ≤ nl_nz 0 ∧ nl_nz 0 < nl_al LS 2 o 0) ∧ (h 2 o 0 (nl_nz 0).toNat).toNat < 12 then some (.inl (9, [some (vO 2 o), some (vO 4 ((h 2 o 0 (nl_nz 0).toNat).toNat)), some (vI 1)], h)) else none) := rfl
set_option maxRecDepth 20000 in
theorem sg_X2_dropOldest_9 (LS : Int) (den : nl_D) (h : nl_H) (o : Nat) (q1 : Nat) (y2 : Int) : nl_ex LS cd_X2_dropOldest den ct_X2_dropOldest 0 400 9 [some (vO 2 o), some (vO 4 q1), some (vI y2)] [] h =
  (if nl_nz (nl_al LS 2 o 0) ≤ nl_nz y2 then
    if 0 ≤ nl_nz ((nl_al LS 2 o 0) - 1) ∧ nl_nz ((nl_al LS 2 o 0) - 1) < nl_al LS 2 o 0 then some (.inr (0, nl_up (nl_up h 2 o 0 (nl_nz ((nl_al LS 2 o 0) - 1)).toNat (q1 : Nat)) 2 o 1 0 ((nl_al LS 2 o 0) - 1))) else none
  else
    if (0 ≤ nl_nz y2 ∧ nl_nz y2 < nl_al LS 2 o 0) ∧ (h 2 o 0 (nl_nz y2).toNat).toNat < 12 then if 0 ≤ nl_nz (y2 - 1) ∧ nl_nz (y2 - 1) < nl_al LS 2 o 0 then some (.inl (9, [some (vO 2 o), some (vO 4 q1), some (vI (y2 + 1))], nl_up h 2 o 0 (nl_nz (y2 - 1)).toNat ((h 2 o 0 (nl_nz y2).toNat).toNat : Nat))) else none else none) := rfl
set_option maxRecDepth 20000 in
theorem sg_X2_takeInto_0 (LS : Int) (den : nl_D) (h : nl_H) (o : Nat) (v : Nat) : nl_ex LS cd_X2_takeInto den ct_X2_takeInto 3 400 0 [some (vO 2 o), some (vO 4 v)] [] h =
  (if nl_nz 1 ≤ nl_nz (h 2 o 1 0) then
    if (0 ≤ nl_nz ((nl_up h 2 o 1 0 ((h 2 o 1 0) - 1)) 2 o 1 0) ∧ nl_nz ((nl_up h 2 o 1 0 ((h 2 o 1 0) - 1)) 2 o 1 0) < nl_al LS 2 o 0) ∧ ((nl_up h 2 o 1 0 ((h 2 o 1 0) - 1)) 2 o 0 (nl_nz ((nl_up h 2 o 1 0 ((h 2 o 1 0) - 1)) 2 o 1 0)).toNat).toNat < 12 then
      (den m_X4_copyFrom [vO 4 v, vO 4 (((nl_up h 2 o 1 0 ((h 2 o 1 0) - 1)) 2 o 0 (nl_nz ((nl_up h 2 o 1 0 ((h 2 o 1 0) - 1)) 2 o 1 0)).toNat).toNat)] (nl_up h 2 o 1 0 ((h 2 o 1 0) - 1))).bind fun r1 =>
        some (.inr (1, r1.2))
    else none
  else
    some (.inr (0, h))) := rfl
set_option maxRecDepth 20000 in
theorem sg_X3_clear_0 (LS : Int) (den : nl_D) (h : nl_H)  : nl_ex LS cd_X3_clear den ct_X3_clear 0 400 0 [some (vO 3 0)] [] h =
  (some (.inr (0, nl_up h 3 0 3 0 0))) := rfl
set_option maxRecDepth 20000 in
theorem sg_X3_add_0 (LS : Int) (den : nl_D) (h : nl_H) (x1 : Int) (x2 : Int) (x3 : Int) : nl_ex LS cd_X3_add den ct_X3_add 0 400 0 [some (vO 3 0), some (vI x1), some (vI x2), some (vI x3)] [] h =
  (if nl_nz 6 ≤ nl_nz (h 3 0 3 0) then
    some (.inr (0, h))
  else
    if 0 ≤ nl_nz (h 3 0 3 0) ∧ nl_nz (h 3 0 3 0) < 6 then if 0 ≤ nl_nz ((nl_up h 3 0 0 (nl_nz (h 3 0 3 0)).toNat x1) 3 0 3 0) ∧ nl_nz ((nl_up h 3 0 0 (nl_nz (h 3 0 3 0)).toNat x1) 3 0 3 0) < 6 then if (0 ≤ nl_nz ((nl_up (nl_up h 3 0 0 (nl_nz (h 3 0 3 0)).toNat x1) 3 0 1 (nl_nz ((nl_up h 3 0 0 (nl_nz (h 3 0 3 0)).toNat x1) 3 0 3 0)).toNat x2) 3 0 3 0) ∧ nl_nz ((nl_up (nl_up h 3 0 0 (nl_nz (h 3 0 3 0)).toNat x1) 3 0 1 (nl_nz ((nl_up h 3 0 0 (nl_nz (h 3 0 3 0)).toNat x1) 3 0 3 0)).toNat x2) 3 0 3 0) < 6) ∧ (x3 = 0 ∨ x3 = 1) then some (.inr (0, nl_up (nl_up (nl_up (nl_up h 3 0 0 (nl_nz (h 3 0 3 0)).toNat x1) 3 0 1 (nl_nz ((nl_up h 3 0 0 (nl_nz (h 3 0 3 0)).toNat x1) 3 0 3 0)).toNat x2) 3 0 2 (nl_nz ((nl_up (nl_up h 3 0 0 (nl_nz (h 3 0 3 0)).toNat x1) 3 0 1 (nl_nz ((nl_up h 3 0 0 (nl_nz (h 3 0 3 0)).toNat x1) 3 0 3 0)).toNat x2) 3 0 3 0)).toNat x3) 3 0 3 0 (((nl_up (nl_up (nl_up h 3 0 0 (nl_nz (h 3 0 3 0)).toNat x1) 3 0 1 (nl_nz ((nl_up h 3 0 0 (nl_nz (h 3 0 3 0)).toNat x1) 3 0 3 0)).toNat x2) 3 0 2 (nl_nz ((nl_up (nl_up h 3 0 0 (nl_nz (h 3 0 3 0)).toNat x1) 3 0 1 (nl_nz ((nl_up h 3 0 0 (nl_nz (h 3 0 3 0)).toNat x1) 3 0 3 0)).toNat x2) 3 0 3 0)).toNat x3) 3 0 3 0) + 1))) else none else none else none) := rfl
set_option maxRecDepth 20000 in
theorem sg_X3_lastNight_0 (LS : Int) (den : nl_D) (h : nl_H)  : nl_ex LS cd_X3_lastNight den ct_X3_lastNight 1 400 0 [some (vO 3 0), none, none] [] h =
  (some (.inl (4, [some (vO 3 0), some (vI ((-1))), some (vI 0)], h))) := rfl
set_option maxRecDepth 20000 in
theorem sg_X3_lastNight_4 (LS : Int) (den : nl_D) (h : nl_H) (y1 : Int) (y2 : Int) : nl_ex LS cd_X3_lastNight den ct_X3_lastNight 1 400 4 [some (vO 3 0), some (vI y1), some (vI y2)] [] h =
  (if nl_nz (h 3 0 3 0) ≤ nl_nz y2 then
    some (.inr (y1, h))
  else
    if 0 ≤ nl_nz y2 ∧ nl_nz y2 < 6 then some (.inl (4, [some (vO 3 0), some (vI (if nl_nz y1 < nl_nz (h 3 0 0 (nl_nz y2).toNat) then h 3 0 0 (nl_nz y2).toNat else y1)), some (vI (y2 + 1))], h)) else none) := rfl
set_option maxRecDepth 20000 in
theorem sg_X3_fit_0 (LS : Int) (den : nl_D) (h : nl_H) (v : Nat) (x1 : Int) : nl_ex LS cd_X3_fit den ct_X3_fit 3 400 0 [some (vO 3 0), some (vO 4 v), some (vI x1), none] [] h =
  (some (.inl (2, [some (vO 3 0), some (vO 4 v), some (vI x1), some (vI 0)], h))) := rfl
set_option maxRecDepth 20000 in
theorem sg_X3_fit_2 (LS : Int) (den : nl_D) (h : nl_H) (v : Nat) (y2 : Int) (y3 : Int) : nl_ex LS cd_X3_fit den ct_X3_fit 3 400 2 [some (vO 3 0), some (vO 4 v), some (vI y2), some (vI y3)] [] h =
  (if nl_nz (h 3 0 3 0) ≤ nl_nz y3 then
    some (.inr (1, h))
  else
    if 0 ≤ nl_nz y3 ∧ nl_nz y3 < 6 then
      if nl_nz (h 3 0 0 (nl_nz y3).toNat) = nl_nz y2 then
        if 0 ≤ nl_nz y3 ∧ nl_nz y3 < 6 then
          (den m_X4_isGapAt [vO 4 v, vI (h 3 0 1 (nl_nz y3).toNat)] h).bind fun r1 =>
            if 0 ≤ nl_nz y3 ∧ nl_nz y3 < 6 then
              if nl_nz r1.1 = nl_nz (r1.2 3 0 2 (nl_nz y3).toNat) then
                some (.inl (2, [some (vO 3 0), some (vO 4 v), some (vI y2), some (vI (y3 + 1))], r1.2))
              else
                some (.inr (0, r1.2))
            else none
        else none
      else
        some (.inl (2, [some (vO 3 0), some (vO 4 v), some (vI y2), some (vI (y3 + 1))], h))
    else none) := rfl
set_option maxRecDepth 20000 in
theorem sg_J6_bitCount_0f7a4_0 (LS : Int) (den : nl_D) (h : nl_H) (x1 : Int) : nl_ex LS cd_J6_bitCount_0f7a4 den ct_J6_bitCount_0f7a4 1 400 0 [some (vI x1)] [] h =
  (if (0 ≤ nl_nz 1 ∧ nl_nz 1 < 32) ∧ 0 ≤ nl_nz x1 then if 0 ≤ nl_nz (nl_nz x1 / 2 ^ (nl_nz 1).toNat) ∧ 0 ≤ nl_nz 1431655765 then if 0 ≤ nl_nz (x1 - ((((nl_nz (nl_nz x1 / 2 ^ (nl_nz 1).toNat)).toNat &&& (nl_nz 1431655765).toNat : Nat) : Int))) ∧ 0 ≤ nl_nz 858993459 then if (0 ≤ nl_nz 2 ∧ nl_nz 2 < 32) ∧ 0 ≤ nl_nz (x1 - ((((nl_nz (nl_nz x1 / 2 ^ (nl_nz 1).toNat)).toNat &&& (nl_nz 1431655765).toNat : Nat) : Int))) then if 0 ≤ nl_nz (nl_nz (x1 - ((((nl_nz (nl_nz x1 / 2 ^ (nl_nz 1).toNat)).toNat &&& (nl_nz 1431655765).toNat : Nat) : Int))) / 2 ^ (nl_nz 2).toNat) ∧ 0 ≤ nl_nz 858993459 then if (0 ≤ nl_nz 4 ∧ nl_nz 4 < 32) ∧ 0 ≤ nl_nz (((((nl_nz (x1 - ((((nl_nz (nl_nz x1 / 2 ^ (nl_nz 1).toNat)).toNat &&& (nl_nz 1431655765).toNat : Nat) : Int)))).toNat &&& (nl_nz 858993459).toNat : Nat) : Int)) + ((((nl_nz (nl_nz (x1 - ((((nl_nz (nl_nz x1 / 2 ^ (nl_nz 1).toNat)).toNat &&& (nl_nz 1431655765).toNat : Nat) : Int))) / 2 ^ (nl_nz 2).toNat)).toNat &&& (nl_nz 858993459).toNat : Nat) : Int))) then if 0 ≤ nl_nz ((((((nl_nz (x1 - ((((nl_nz (nl_nz x1 / 2 ^ (nl_nz 1).toNat)).toNat &&& (nl_nz 1431655765).toNat : Nat) : Int)))).toNat &&& (nl_nz 858993459).toNat : Nat) : Int)) + ((((nl_nz (nl_nz (x1 - ((((nl_nz (nl_nz x1 / 2 ^ (nl_nz 1).toNat)).toNat &&& (nl_nz 1431655765).toNat : Nat) : Int))) / 2 ^ (nl_nz 2).toNat)).toNat &&& (nl_nz 858993459).toNat : Nat) : Int))) + (nl_nz (((((nl_nz (x1 - ((((nl_nz (nl_nz x1 / 2 ^ (nl_nz 1).toNat)).toNat &&& (nl_nz 1431655765).toNat : Nat) : Int)))).toNat &&& (nl_nz 858993459).toNat : Nat) : Int)) + ((((nl_nz (nl_nz (x1 - ((((nl_nz (nl_nz x1 / 2 ^ (nl_nz 1).toNat)).toNat &&& (nl_nz 1431655765).toNat : Nat) : Int))) / 2 ^ (nl_nz 2).toNat)).toNat &&& (nl_nz 858993459).toNat : Nat) : Int))) / 2 ^ (nl_nz 4).toNat)) ∧ 0 ≤ nl_nz 252645135 then if (0 ≤ nl_nz 8 ∧ nl_nz 8 < 32) ∧ 0 ≤ nl_nz ((((nl_nz ((((((nl_nz (x1 - ((((nl_nz (nl_nz x1 / 2 ^ (nl_nz 1).toNat)).toNat &&& (nl_nz 1431655765).toNat : Nat) : Int)))).toNat &&& (nl_nz 858993459).toNat : Nat) : Int)) + ((((nl_nz (nl_nz (x1 - ((((nl_nz (nl_nz x1 / 2 ^ (nl_nz 1).toNat)).toNat &&& (nl_nz 1431655765).toNat : Nat) : Int))) / 2 ^ (nl_nz 2).toNat)).toNat &&& (nl_nz 858993459).toNat : Nat) : Int))) + (nl_nz (((((nl_nz (x1 - ((((nl_nz (nl_nz x1 / 2 ^ (nl_nz 1).toNat)).toNat &&& (nl_nz 1431655765).toNat : Nat) : Int)))).toNat &&& (nl_nz 858993459).toNat : Nat) : Int)) + ((((nl_nz (nl_nz (x1 - ((((nl_nz (nl_nz x1 / 2 ^ (nl_nz 1).toNat)).toNat &&& (nl_nz 1431655765).toNat : Nat) : Int))) / 2 ^ (nl_nz 2).toNat)).toNat &&& (nl_nz 858993459).toNat : Nat) : Int))) / 2 ^ (nl_nz 4).toNat))).toNat &&& (nl_nz 252645135).toNat : Nat) : Int)) then if (0 ≤ nl_nz 16 ∧ nl_nz 16 < 32) ∧ 0 ≤ nl_nz (((((nl_nz ((((((nl_nz (x1 - ((((nl_nz (nl_nz x1 / 2 ^ (nl_nz 1).toNat)).toNat &&& (nl_nz 1431655765).toNat : Nat) : Int)))).toNat &&& (nl_nz 858993459).toNat : Nat) : Int)) + ((((nl_nz (nl_nz (x1 - ((((nl_nz (nl_nz x1 / 2 ^ (nl_nz 1).toNat)).toNat &&& (nl_nz 1431655765).toNat : Nat) : Int))) / 2 ^ (nl_nz 2).toNat)).toNat &&& (nl_nz 858993459).toNat : Nat) : Int))) + (nl_nz (((((nl_nz (x1 - ((((nl_nz (nl_nz x1 / 2 ^ (nl_nz 1).toNat)).toNat &&& (nl_nz 1431655765).toNat : Nat) : Int)))).toNat &&& (nl_nz 858993459).toNat : Nat) : Int)) + ((((nl_nz (nl_nz (x1 - ((((nl_nz (nl_nz x1 / 2 ^ (nl_nz 1).toNat)).toNat &&& (nl_nz 1431655765).toNat : Nat) : Int))) / 2 ^ (nl_nz 2).toNat)).toNat &&& (nl_nz 858993459).toNat : Nat) : Int))) / 2 ^ (nl_nz 4).toNat))).toNat &&& (nl_nz 252645135).toNat : Nat) : Int)) + (nl_nz ((((nl_nz ((((((nl_nz (x1 - ((((nl_nz (nl_nz x1 / 2 ^ (nl_nz 1).toNat)).toNat &&& (nl_nz 1431655765).toNat : Nat) : Int)))).toNat &&& (nl_nz 858993459).toNat : Nat) : Int)) + ((((nl_nz (nl_nz (x1 - ((((nl_nz (nl_nz x1 / 2 ^ (nl_nz 1).toNat)).toNat &&& (nl_nz 1431655765).toNat : Nat) : Int))) / 2 ^ (nl_nz 2).toNat)).toNat &&& (nl_nz 858993459).toNat : Nat) : Int))) + (nl_nz (((((nl_nz (x1 - ((((nl_nz (nl_nz x1 / 2 ^ (nl_nz 1).toNat)).toNat &&& (nl_nz 1431655765).toNat : Nat) : Int)))).toNat &&& (nl_nz 858993459).toNat : Nat) : Int)) + ((((nl_nz (nl_nz (x1 - ((((nl_nz (nl_nz x1 / 2 ^ (nl_nz 1).toNat)).toNat &&& (nl_nz 1431655765).toNat : Nat) : Int))) / 2 ^ (nl_nz 2).toNat)).toNat &&& (nl_nz 858993459).toNat : Nat) : Int))) / 2 ^ (nl_nz 4).toNat))).toNat &&& (nl_nz 252645135).toNat : Nat) : Int)) / 2 ^ (nl_nz 8).toNat)) then if 0 ≤ nl_nz ((((((nl_nz ((((((nl_nz (x1 - ((((nl_nz (nl_nz x1 / 2 ^ (nl_nz 1).toNat)).toNat &&& (nl_nz 1431655765).toNat : Nat) : Int)))).toNat &&& (nl_nz 858993459).toNat : Nat) : Int)) + ((((nl_nz (nl_nz (x1 - ((((nl_nz (nl_nz x1 / 2 ^ (nl_nz 1).toNat)).toNat &&& (nl_nz 1431655765).toNat : Nat) : Int))) / 2 ^ (nl_nz 2).toNat)).toNat &&& (nl_nz 858993459).toNat : Nat) : Int))) + (nl_nz (((((nl_nz (x1 - ((((nl_nz (nl_nz x1 / 2 ^ (nl_nz 1).toNat)).toNat &&& (nl_nz 1431655765).toNat : Nat) : Int)))).toNat &&& (nl_nz 858993459).toNat : Nat) : Int)) + ((((nl_nz (nl_nz (x1 - ((((nl_nz (nl_nz x1 / 2 ^ (nl_nz 1).toNat)).toNat &&& (nl_nz 1431655765).toNat : Nat) : Int))) / 2 ^ (nl_nz 2).toNat)).toNat &&& (nl_nz 858993459).toNat : Nat) : Int))) / 2 ^ (nl_nz 4).toNat))).toNat &&& (nl_nz 252645135).toNat : Nat) : Int)) + (nl_nz ((((nl_nz ((((((nl_nz (x1 - ((((nl_nz (nl_nz x1 / 2 ^ (nl_nz 1).toNat)).toNat &&& (nl_nz 1431655765).toNat : Nat) : Int)))).toNat &&& (nl_nz 858993459).toNat : Nat) : Int)) + ((((nl_nz (nl_nz (x1 - ((((nl_nz (nl_nz x1 / 2 ^ (nl_nz 1).toNat)).toNat &&& (nl_nz 1431655765).toNat : Nat) : Int))) / 2 ^ (nl_nz 2).toNat)).toNat &&& (nl_nz 858993459).toNat : Nat) : Int))) + (nl_nz (((((nl_nz (x1 - ((((nl_nz (nl_nz x1 / 2 ^ (nl_nz 1).toNat)).toNat &&& (nl_nz 1431655765).toNat : Nat) : Int)))).toNat &&& (nl_nz 858993459).toNat : Nat) : Int)) + ((((nl_nz (nl_nz (x1 - ((((nl_nz (nl_nz x1 / 2 ^ (nl_nz 1).toNat)).toNat &&& (nl_nz 1431655765).toNat : Nat) : Int))) / 2 ^ (nl_nz 2).toNat)).toNat &&& (nl_nz 858993459).toNat : Nat) : Int))) / 2 ^ (nl_nz 4).toNat))).toNat &&& (nl_nz 252645135).toNat : Nat) : Int)) / 2 ^ (nl_nz 8).toNat)) + (nl_nz (((((nl_nz ((((((nl_nz (x1 - ((((nl_nz (nl_nz x1 / 2 ^ (nl_nz 1).toNat)).toNat &&& (nl_nz 1431655765).toNat : Nat) : Int)))).toNat &&& (nl_nz 858993459).toNat : Nat) : Int)) + ((((nl_nz (nl_nz (x1 - ((((nl_nz (nl_nz x1 / 2 ^ (nl_nz 1).toNat)).toNat &&& (nl_nz 1431655765).toNat : Nat) : Int))) / 2 ^ (nl_nz 2).toNat)).toNat &&& (nl_nz 858993459).toNat : Nat) : Int))) + (nl_nz (((((nl_nz (x1 - ((((nl_nz (nl_nz x1 / 2 ^ (nl_nz 1).toNat)).toNat &&& (nl_nz 1431655765).toNat : Nat) : Int)))).toNat &&& (nl_nz 858993459).toNat : Nat) : Int)) + ((((nl_nz (nl_nz (x1 - ((((nl_nz (nl_nz x1 / 2 ^ (nl_nz 1).toNat)).toNat &&& (nl_nz 1431655765).toNat : Nat) : Int))) / 2 ^ (nl_nz 2).toNat)).toNat &&& (nl_nz 858993459).toNat : Nat) : Int))) / 2 ^ (nl_nz 4).toNat))).toNat &&& (nl_nz 252645135).toNat : Nat) : Int)) + (nl_nz ((((nl_nz ((((((nl_nz (x1 - ((((nl_nz (nl_nz x1 / 2 ^ (nl_nz 1).toNat)).toNat &&& (nl_nz 1431655765).toNat : Nat) : Int)))).toNat &&& (nl_nz 858993459).toNat : Nat) : Int)) + ((((nl_nz (nl_nz (x1 - ((((nl_nz (nl_nz x1 / 2 ^ (nl_nz 1).toNat)).toNat &&& (nl_nz 1431655765).toNat : Nat) : Int))) / 2 ^ (nl_nz 2).toNat)).toNat &&& (nl_nz 858993459).toNat : Nat) : Int))) + (nl_nz (((((nl_nz (x1 - ((((nl_nz (nl_nz x1 / 2 ^ (nl_nz 1).toNat)).toNat &&& (nl_nz 1431655765).toNat : Nat) : Int)))).toNat &&& (nl_nz 858993459).toNat : Nat) : Int)) + ((((nl_nz (nl_nz (x1 - ((((nl_nz (nl_nz x1 / 2 ^ (nl_nz 1).toNat)).toNat &&& (nl_nz 1431655765).toNat : Nat) : Int))) / 2 ^ (nl_nz 2).toNat)).toNat &&& (nl_nz 858993459).toNat : Nat) : Int))) / 2 ^ (nl_nz 4).toNat))).toNat &&& (nl_nz 252645135).toNat : Nat) : Int)) / 2 ^ (nl_nz 8).toNat)) / 2 ^ (nl_nz 16).toNat)) ∧ 0 ≤ nl_nz 63 then some (.inr ((((nl_nz ((((((nl_nz ((((((nl_nz (x1 - ((((nl_nz (nl_nz x1 / 2 ^ (nl_nz 1).toNat)).toNat &&& (nl_nz 1431655765).toNat : Nat) : Int)))).toNat &&& (nl_nz 858993459).toNat : Nat) : Int)) + ((((nl_nz (nl_nz (x1 - ((((nl_nz (nl_nz x1 / 2 ^ (nl_nz 1).toNat)).toNat &&& (nl_nz 1431655765).toNat : Nat) : Int))) / 2 ^ (nl_nz 2).toNat)).toNat &&& (nl_nz 858993459).toNat : Nat) : Int))) + (nl_nz (((((nl_nz (x1 - ((((nl_nz (nl_nz x1 / 2 ^ (nl_nz 1).toNat)).toNat &&& (nl_nz 1431655765).toNat : Nat) : Int)))).toNat &&& (nl_nz 858993459).toNat : Nat) : Int)) + ((((nl_nz (nl_nz (x1 - ((((nl_nz (nl_nz x1 / 2 ^ (nl_nz 1).toNat)).toNat &&& (nl_nz 1431655765).toNat : Nat) : Int))) / 2 ^ (nl_nz 2).toNat)).toNat &&& (nl_nz 858993459).toNat : Nat) : Int))) / 2 ^ (nl_nz 4).toNat))).toNat &&& (nl_nz 252645135).toNat : Nat) : Int)) + (nl_nz ((((nl_nz ((((((nl_nz (x1 - ((((nl_nz (nl_nz x1 / 2 ^ (nl_nz 1).toNat)).toNat &&& (nl_nz 1431655765).toNat : Nat) : Int)))).toNat &&& (nl_nz 858993459).toNat : Nat) : Int)) + ((((nl_nz (nl_nz (x1 - ((((nl_nz (nl_nz x1 / 2 ^ (nl_nz 1).toNat)).toNat &&& (nl_nz 1431655765).toNat : Nat) : Int))) / 2 ^ (nl_nz 2).toNat)).toNat &&& (nl_nz 858993459).toNat : Nat) : Int))) + (nl_nz (((((nl_nz (x1 - ((((nl_nz (nl_nz x1 / 2 ^ (nl_nz 1).toNat)).toNat &&& (nl_nz 1431655765).toNat : Nat) : Int)))).toNat &&& (nl_nz 858993459).toNat : Nat) : Int)) + ((((nl_nz (nl_nz (x1 - ((((nl_nz (nl_nz x1 / 2 ^ (nl_nz 1).toNat)).toNat &&& (nl_nz 1431655765).toNat : Nat) : Int))) / 2 ^ (nl_nz 2).toNat)).toNat &&& (nl_nz 858993459).toNat : Nat) : Int))) / 2 ^ (nl_nz 4).toNat))).toNat &&& (nl_nz 252645135).toNat : Nat) : Int)) / 2 ^ (nl_nz 8).toNat)) + (nl_nz (((((nl_nz ((((((nl_nz (x1 - ((((nl_nz (nl_nz x1 / 2 ^ (nl_nz 1).toNat)).toNat &&& (nl_nz 1431655765).toNat : Nat) : Int)))).toNat &&& (nl_nz 858993459).toNat : Nat) : Int)) + ((((nl_nz (nl_nz (x1 - ((((nl_nz (nl_nz x1 / 2 ^ (nl_nz 1).toNat)).toNat &&& (nl_nz 1431655765).toNat : Nat) : Int))) / 2 ^ (nl_nz 2).toNat)).toNat &&& (nl_nz 858993459).toNat : Nat) : Int))) + (nl_nz (((((nl_nz (x1 - ((((nl_nz (nl_nz x1 / 2 ^ (nl_nz 1).toNat)).toNat &&& (nl_nz 1431655765).toNat : Nat) : Int)))).toNat &&& (nl_nz 858993459).toNat : Nat) : Int)) + ((((nl_nz (nl_nz (x1 - ((((nl_nz (nl_nz x1 / 2 ^ (nl_nz 1).toNat)).toNat &&& (nl_nz 1431655765).toNat : Nat) : Int))) / 2 ^ (nl_nz 2).toNat)).toNat &&& (nl_nz 858993459).toNat : Nat) : Int))) / 2 ^ (nl_nz 4).toNat))).toNat &&& (nl_nz 252645135).toNat : Nat) : Int)) + (nl_nz ((((nl_nz ((((((nl_nz (x1 - ((((nl_nz (nl_nz x1 / 2 ^ (nl_nz 1).toNat)).toNat &&& (nl_nz 1431655765).toNat : Nat) : Int)))).toNat &&& (nl_nz 858993459).toNat : Nat) : Int)) + ((((nl_nz (nl_nz (x1 - ((((nl_nz (nl_nz x1 / 2 ^ (nl_nz 1).toNat)).toNat &&& (nl_nz 1431655765).toNat : Nat) : Int))) / 2 ^ (nl_nz 2).toNat)).toNat &&& (nl_nz 858993459).toNat : Nat) : Int))) + (nl_nz (((((nl_nz (x1 - ((((nl_nz (nl_nz x1 / 2 ^ (nl_nz 1).toNat)).toNat &&& (nl_nz 1431655765).toNat : Nat) : Int)))).toNat &&& (nl_nz 858993459).toNat : Nat) : Int)) + ((((nl_nz (nl_nz (x1 - ((((nl_nz (nl_nz x1 / 2 ^ (nl_nz 1).toNat)).toNat &&& (nl_nz 1431655765).toNat : Nat) : Int))) / 2 ^ (nl_nz 2).toNat)).toNat &&& (nl_nz 858993459).toNat : Nat) : Int))) / 2 ^ (nl_nz 4).toNat))).toNat &&& (nl_nz 252645135).toNat : Nat) : Int)) / 2 ^ (nl_nz 8).toNat)) / 2 ^ (nl_nz 16).toNat))).toNat &&& (nl_nz 63).toNat : Nat) : Int), h)) else none else none else none else none else none else none else none else none else none else none) := rfl
