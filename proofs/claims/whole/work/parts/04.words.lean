/-! The words of the tables that the methods need, by their places. -/
def nl_R (c : Nat) : String := match c with
  | 0 => RX0
  | 1 => RX1
  | 2 => RX2
  | 3 => RX3
  | 4 => RX4
  | 5 => RX5
  | 6 => RX6
  | 7 => RL
  | 8 => RJ6
  | _ => RJ9
def nl_T (c : Nat) : u_T := match c with
  | 0 => TX0
  | 1 => TX1
  | 2 => TX2
  | 3 => TX3
  | 4 => TX4
  | 5 => TX5
  | _ => TX6
def nl_N (c : Nat) : Nat := match c with
  | 0 => 6
  | 1 => 8
  | 2 => 2
  | 3 => 4
  | 4 => 11
  | 5 => 9
  | 6 => 30
  | _ => 0
def nl_WL : List Jvm.Cond := lw_tbl.filter goodWord
theorem nl_WL_in {w : Jvm.Cond} (h : w ∈ nl_WL) : w ∈ lw_tbl := (List.mem_filter.mp h).1
theorem nl_WL_good {w : Jvm.Cond} (h : w ∈ nl_WL) : goodWord w = true := (List.mem_filter.mp h).2
theorem nl_w0 {w : Jvm.Cond} (i : Nat) (h : (k2_sels lw_privs)[i]? = some w) (g : goodWord w = true) : w ∈ nl_WL := List.mem_filter.mpr ⟨List.mem_append_left _ (List.mem_of_getElem? h), g⟩
theorem nl_w1 {w : Jvm.Cond} (i : Nat) (h : tables_1_1[i]? = some w) (g : goodWord w = true) : w ∈ nl_WL := List.mem_filter.mpr ⟨List.mem_append_right _ (tb_1 (List.mem_of_getElem? h)), g⟩
theorem nl_w2 {w : Jvm.Cond} (i : Nat) (h : tables_1_2[i]? = some w) (g : goodWord w = true) : w ∈ nl_WL := List.mem_filter.mpr ⟨List.mem_append_right _ (tb_2 (List.mem_of_getElem? h)), g⟩
theorem nl_w3 {w : Jvm.Cond} (i : Nat) (h : tables_1_3[i]? = some w) (g : goodWord w = true) : w ∈ nl_WL := List.mem_filter.mpr ⟨List.mem_append_right _ (tb_3 (List.mem_of_getElem? h)), g⟩
theorem nl_w4 {w : Jvm.Cond} (i : Nat) (h : tables_1_4[i]? = some w) (g : goodWord w = true) : w ∈ nl_WL := List.mem_filter.mpr ⟨List.mem_append_right _ (tb_4 (List.mem_of_getElem? h)), g⟩
abbrev nl_I : Type := MethodName × ByteArray × Nat × Option FieldType × Nat × Nat × Bool
def nl_inf : List nl_I := [(yX0_choose, cX0_choose, 4, none, 0, 1, false),
  (yX0_weigh, cX0_weigh, 5, none, 0, 1, false),
  (yX0_leastOf, cX0_leastOf, 6, some .int, 0, 2, false),
  (yX0_priceWith, cX0_priceWith, 4, some .int, 0, 3, false),
  (yX0_dealOut, cX0_dealOut, 5, none, 0, 1, false),
  (yX0_lowestOfLeast, cX0_lowestOfLeast, 5, some .int, 0, 3, false),
  (yX0_fewestSwaps, cX0_fewestSwaps, 3, some .int, 0, 1, false),
  (yX0_canBridge, cX0_canBridge, 8, some .boolean, 0, 5, true),
  (yX0_exchange, cX0_exchange, 4, none, 0, 3, true),
  (yX1_read, cX1_read, 5, none, 1, 2, false),
  (yX1_canBeLaid, cX1_canBeLaid, 1, some .boolean, 1, 0, false),
  (yX1_readItem, cX1_readItem, 10, some .int, 1, 3, false),
  (yX1_readNumber, cX1_readNumber, 7, some .int, 1, 4, false),
  (yX1_addHour, cX1_addHour, 1, some .boolean, 1, 0, false),
  (yX1_addHouse, cX1_addHouse, 1, some .boolean, 1, 0, false),
  (yX2_clear, cX2_clear, 1, none, 2, 0, false),
  (yX2_put, cX2_put, 2, none, 2, 1, false),
  (yX2_dropOldest, cX2_dropOldest, 3, none, 2, 0, false),
  (yX2_takeInto, cX2_takeInto, 2, some .boolean, 2, 1, false),
  (yX3_clear, cX3_clear, 1, none, 3, 0, false),
  (yX3_add, cX3_add, 4, none, 3, 3, false),
  (yX3_lastNight, cX3_lastNight, 3, some .int, 3, 0, false),
  (yX3_fit, cX3_fit, 4, some .boolean, 3, 2, false),
  (yX4_settle, cX4_settle, 3, none, 4, 1, false),
  (yX4_copyFrom, cX4_copyFrom, 3, none, 4, 1, false),
  (yX4_isHouse, cX4_isHouse, 2, some .boolean, 4, 1, false),
  (yX4_isHour, cX4_isHour, 2, some .boolean, 4, 1, false),
  (yX4_houseWith, cX4_houseWith, 3, some .int, 4, 1, false),
  (yX4_timesHad, cX4_timesHad, 3, some .int, 4, 2, false),
  (yX4_heaviness, cX4_heaviness, 4, some .int, 4, 2, false),
  (yX4_hourHadMost, cX4_hourHadMost, 6, some .int, 4, 1, false),
  (yX4_wouldKeep, cX4_wouldKeep, 4, some .boolean, 4, 3, false),
  (yX4_isGapAt, cX4_isGapAt, 3, some .boolean, 4, 1, false),
  (yX4_seeThrough, cX4_seeThrough, 4, some .boolean, 4, 1, false),
  (yX4_letNightsPass, cX4_letNightsPass, 5, some .int, 4, 1, false),
  (yX4_trade, cX4_trade, 4, none, 4, 2, false),
  (yX4_giveRest, cX4_giveRest, 2, none, 4, 1, false),
  (yX4_setBurden, cX4_setBurden, 3, none, 4, 2, false),
  (yX4_tiredTogether, cX4_tiredTogether, 3, some .int, 4, 0, false),
  (yX4_handingOver, cX4_handingOver, 5, some .int, 4, 0, false),
  (yX4_lengthOfRoad, cX4_lengthOfRoad, 4, some .int, 4, 0, false),
  (yX4_stir, cX4_stir, 4, none, 4, 1, false),
  (yX5_write, cX5_write, 2, some .int, 5, 1, false),
  (yX5_wipe, cX5_wipe, 2, some .int, 5, 0, false),
  (yX5_fault, cX5_fault, 1, some .int, 5, 0, false),
  (yX5_lay, cX5_lay, 1, some .int, 5, 0, false),
  (yX5_house, cX5_house, 3, some .int, 5, 2, false),
  (yX5_hour, cX5_hour, 3, some .int, 5, 2, false),
  (yX5_heavy, cX5_heavy, 3, some .int, 5, 2, false),
  (yX5_had, cX5_had, 3, some .int, 5, 2, false),
  (yX5_pass, cX5_pass, 2, some .int, 5, 1, false),
  (yX5_swap, cX5_swap, 3, some .int, 5, 2, false),
  (yX5_rest, cX5_rest, 2, some .int, 5, 1, false),
  (yX5_burden, cX5_burden, 4, some .int, 5, 2, false),
  (yX5_undo, cX5_undo, 1, some .int, 5, 0, false),
  (yX5_behind, cX5_behind, 4, some .int, 5, 3, false),
  (yX5_gaps, cX5_gaps, 3, some .int, 5, 0, false),
  (yX5_first, cX5_first, 3, some .int, 5, 1, false),
  (yX5_even, cX5_even, 2, some .int, 5, 1, false),
  (yX5_swaps, cX5_swaps, 1, some .int, 5, 0, false),
  (yX5_far, cX5_far, 2, some .int, 5, 1, false),
  (yX5_lamps, cX5_lamps, 5, some .int, 5, 2, false),
  (yX5_seen, cX5_seen, 4, some .int, 5, 3, false),
  (yX5_forget, cX5_forget, 2, some .int, 5, 0, false),
  (yX5_kinds, cX5_kinds, 4, some .int, 5, 1, false),
  (yX5_strengths, cX5_strengths, 6, some .int, 5, 2, false),
  (yX5_likely, cX5_likely, 9, some .int, 5, 3, false),
  (yX5_winter, cX5_winter, 6, some .int, 5, 3, false),
  (yX5_keep, cX5_keep, 1, some .int, 5, 0, false),
  (yX5_back, cX5_back, 1, some .int, 5, 0, false),
  (yX5_count, cX5_count, 2, some .int, 5, 1, false),
  (yX5_isWithin, cX5_isWithin, 3, some .boolean, 5, 3, true),
  (yX5_largestDivisor, cX5_largestDivisor, 3, some .int, 5, 2, true),
  (yX5_drawFor, cX5_drawFor, 4, some .int, 5, 2, true),
  (yX5_nextMissAhead, cX5_nextMissAhead, 4, some .int, 5, 2, false),
  (yX5_fitsAllSeen, cX5_fitsAllSeen, 6, some .boolean, 5, 3, false),
  (yX6_in, cX6_in, 3, some .boolean, 6, 3, true),
  (yX6_has, cX6_has, 2, some .boolean, 6, 2, true),
  (yX6_bits, cX6_bits, 3, some .int, 6, 1, true),
  (yX6_lesser, cX6_lesser, 2, some .int, 6, 2, true),
  (yX6_greater, cX6_greater, 2, some .int, 6, 2, true),
  (yX6_firstHouse, cX6_firstHouse, 5, none, 6, 4, false),
  (yX6_begin, cX6_begin, 2, none, 6, 0, false),
  (yX6_isOne, cX6_isOne, 2, some .boolean, 6, 1, false),
  (yX6_write, cX6_write, 2, some .int, 6, 1, false),
  (yX6_wipe, cX6_wipe, 2, some .int, 6, 0, false),
  (yX6_here, cX6_here, 1, some .int, 6, 0, false),
  (yX6_isFigure, cX6_isFigure, 1, some .boolean, 6, 0, false),
  (yX6_number, cX6_number, 5, some .boolean, 6, 3, false),
  (yX6_readsHour, cX6_readsHour, 1, some .boolean, 6, 0, false),
  (yX6_readsHouse, cX6_readsHouse, 2, some .boolean, 6, 0, false),
  (yX6_readsItem, cX6_readsItem, 2, some .boolean, 6, 0, false),
  (yX6_fault, cX6_fault, 2, some .int, 6, 0, false),
  (yX6_lay, cX6_lay, 2, some .int, 6, 0, false),
  (yX6_mostOften, cX6_mostOften, 6, some .int, 6, 1, false),
  (yX6_weight, cX6_weight, 4, some .int, 6, 2, false),
  (yX6_keeps, cX6_keeps, 3, some .boolean, 6, 2, false),
  (yX6_gapSet, cX6_gapSet, 3, some .int, 6, 0, false),
  (yX6_passes, cX6_passes, 4, some .int, 6, 0, false),
  (yX6_goesOn, cX6_goesOn, 4, some .int, 6, 1, false),
  (yX6_house, cX6_house, 3, some .int, 6, 2, false),
  (yX6_whoHas, cX6_whoHas, 3, some .int, 6, 1, false),
  (yX6_hour, cX6_hour, 3, some .int, 6, 2, false),
  (yX6_heavy, cX6_heavy, 3, some .int, 6, 2, false),
  (yX6_had, cX6_had, 3, some .int, 6, 2, false),
  (yX6_lays, cX6_lays, 4, none, 6, 2, false),
  (yX6_takes, cX6_takes, 4, none, 6, 2, false),
  (yX6_notes, cX6_notes, 2, none, 6, 0, false),
  (yX6_pass, cX6_pass, 2, some .int, 6, 1, false),
  (yX6_trades, cX6_trades, 4, none, 6, 2, false),
  (yX6_swap, cX6_swap, 3, some .int, 6, 2, false),
  (yX6_rests, cX6_rests, 2, none, 6, 1, false),
  (yX6_rest, cX6_rest, 2, some .int, 6, 1, false),
  (yX6_burden, cX6_burden, 4, some .int, 6, 2, false),
  (yX6_undo, cX6_undo, 1, some .int, 6, 0, false),
  (yX6_start, cX6_start, 1, none, 6, 0, false),
  (yX6_putBack, cX6_putBack, 1, none, 6, 0, false),
  (yX6_behind, cX6_behind, 5, some .int, 6, 3, false),
  (yX6_gaps, cX6_gaps, 1, some .int, 6, 0, false),
  (yX6_first, cX6_first, 5, some .int, 6, 1, false),
  (yX6_firstRow, cX6_firstRow, 2, none, 6, 0, false),
  (yX6_nextRow, cX6_nextRow, 7, some .boolean, 6, 0, false),
  (yX6_gapsBy, cX6_gapsBy, 3, some .int, 6, 0, false),
  (yX6_keptWeight, cX6_keptWeight, 3, some .int, 6, 0, false),
  (yX6_even, cX6_even, 8, some .int, 6, 1, false),
  (yX6_swapsTo, cX6_swapsTo, 5, some .int, 6, 0, false),
  (yX6_swaps, cX6_swaps, 3, some .int, 6, 0, false),
  (yX6_off, cX6_off, 2, some .int, 6, 2, true),
  (yX6_far, cX6_far, 6, some .int, 6, 1, false),
  (yX6_lamps, cX6_lamps, 7, some .int, 6, 2, false),
  (yX6_seen, cX6_seen, 4, some .int, 6, 3, false),
  (yX6_forget, cX6_forget, 2, some .int, 6, 0, false),
  (yX6_isSo, cX6_isSo, 5, some .boolean, 6, 0, false),
  (yX6_kinds, cX6_kinds, 5, some .int, 6, 1, false),
  (yX6_strengths, cX6_strengths, 8, some .int, 6, 2, false),
  (yX6_common, cX6_common, 10, some .long, 6, 2, true),
  (yX6_likely, cX6_likely, 11, some .int, 6, 3, false),
  (yX6_tiredAll, cX6_tiredAll, 3, some .int, 6, 0, false),
  (yX6_winter, cX6_winter, 12, some .int, 6, 3, false),
  (yX6_keep, cX6_keep, 1, some .int, 6, 0, false),
  (yX6_back, cX6_back, 1, some .int, 6, 0, false),
  (yX6_count, cX6_count, 2, some .int, 6, 1, false),
  (yJ6_bitCount_0f7a4, cJ6_bitCount_0f7a4, 1, some .int, 8, 1, true)]
def nl_okI (e : nl_I) : Prop := Cond.code e.1 e.2.1 e.2.2.1 e.2.2.2.1 ∈ nl_WL ∧ Cond.initialized (nl_R e.2.2.2.2.1) ∈ nl_WL ∧ e.1.cls = nl_R e.2.2.2.2.1 ∧ (e.2.2.2.2.2.2 = true → Cond.static e.1 ∈ nl_WL) ∧ (e.2.2.2.2.2.2 = false → Cond.instanceMethod e.1 ∈ nl_WL ∧ Cond.selects (nl_R e.2.2.2.2.1) e.1 e.1 ∈ nl_WL)
set_option maxRecDepth 100000 in
theorem nl_i0 : nl_okI (yX0_choose, cX0_choose, 4, none, 0, 1, false) := ⟨(nl_w2 214 rfl rfl), (nl_w1 7 rfl rfl), rfl, (fun h => nomatch h), fun _ => ⟨(nl_w2 212 rfl rfl), (nl_w2 213 rfl rfl)⟩⟩
set_option maxRecDepth 100000 in
theorem nl_i1 : nl_okI (yX0_weigh, cX0_weigh, 5, none, 0, 1, false) := ⟨(nl_w2 218 rfl rfl), (nl_w1 7 rfl rfl), rfl, (fun h => nomatch h), fun _ => ⟨(nl_w2 217 rfl rfl), (nl_w0 7 rfl rfl)⟩⟩
set_option maxRecDepth 100000 in
theorem nl_i2 : nl_okI (yX0_leastOf, cX0_leastOf, 6, some .int, 0, 2, false) := ⟨(nl_w2 224 rfl rfl), (nl_w1 7 rfl rfl), rfl, (fun h => nomatch h), fun _ => ⟨(nl_w2 223 rfl rfl), (nl_w0 8 rfl rfl)⟩⟩
set_option maxRecDepth 100000 in
theorem nl_i3 : nl_okI (yX0_priceWith, cX0_priceWith, 4, some .int, 0, 3, false) := ⟨(nl_w2 234 rfl rfl), (nl_w1 7 rfl rfl), rfl, (fun h => nomatch h), fun _ => ⟨(nl_w2 233 rfl rfl), (nl_w0 9 rfl rfl)⟩⟩
set_option maxRecDepth 100000 in
theorem nl_i4 : nl_okI (yX0_dealOut, cX0_dealOut, 5, none, 0, 1, false) := ⟨(nl_w2 239 rfl rfl), (nl_w1 7 rfl rfl), rfl, (fun h => nomatch h), fun _ => ⟨(nl_w2 238 rfl rfl), (nl_w0 10 rfl rfl)⟩⟩
set_option maxRecDepth 100000 in
theorem nl_i5 : nl_okI (yX0_lowestOfLeast, cX0_lowestOfLeast, 5, some .int, 0, 3, false) := ⟨(nl_w3 3 rfl rfl), (nl_w1 7 rfl rfl), rfl, (fun h => nomatch h), fun _ => ⟨(nl_w3 2 rfl rfl), (nl_w0 11 rfl rfl)⟩⟩
set_option maxRecDepth 100000 in
theorem nl_i6 : nl_okI (yX0_fewestSwaps, cX0_fewestSwaps, 3, some .int, 0, 1, false) := ⟨(nl_w3 11 rfl rfl), (nl_w1 7 rfl rfl), rfl, (fun h => nomatch h), fun _ => ⟨(nl_w3 9 rfl rfl), (nl_w3 10 rfl rfl)⟩⟩
set_option maxRecDepth 100000 in
theorem nl_i7 : nl_okI (yX0_canBridge, cX0_canBridge, 8, some .boolean, 0, 5, true) := ⟨(nl_w3 14 rfl rfl), (nl_w1 7 rfl rfl), rfl, fun _ => (nl_w3 13 rfl rfl), (fun h => nomatch h)⟩
set_option maxRecDepth 100000 in
theorem nl_i8 : nl_okI (yX0_exchange, cX0_exchange, 4, none, 0, 3, true) := ⟨(nl_w3 17 rfl rfl), (nl_w1 7 rfl rfl), rfl, fun _ => (nl_w3 16 rfl rfl), (fun h => nomatch h)⟩
set_option maxRecDepth 100000 in
theorem nl_i9 : nl_okI (yX1_read, cX1_read, 5, none, 1, 2, false) := ⟨(nl_w2 4 rfl rfl), (nl_w1 2 rfl rfl), rfl, (fun h => nomatch h), fun _ => ⟨(nl_w2 2 rfl rfl), (nl_w2 3 rfl rfl)⟩⟩
set_option maxRecDepth 100000 in
theorem nl_i10 : nl_okI (yX1_canBeLaid, cX1_canBeLaid, 1, some .boolean, 1, 0, false) := ⟨(nl_w2 25 rfl rfl), (nl_w1 2 rfl rfl), rfl, (fun h => nomatch h), fun _ => ⟨(nl_w2 23 rfl rfl), (nl_w2 24 rfl rfl)⟩⟩
set_option maxRecDepth 100000 in
theorem nl_i11 : nl_okI (yX1_readItem, cX1_readItem, 10, some .int, 1, 3, false) := ⟨(nl_w2 8 rfl rfl), (nl_w1 2 rfl rfl), rfl, (fun h => nomatch h), fun _ => ⟨(nl_w2 7 rfl rfl), (nl_w0 0 rfl rfl)⟩⟩
set_option maxRecDepth 100000 in
theorem nl_i12 : nl_okI (yX1_readNumber, cX1_readNumber, 7, some .int, 1, 4, false) := ⟨(nl_w2 12 rfl rfl), (nl_w1 2 rfl rfl), rfl, (fun h => nomatch h), fun _ => ⟨(nl_w2 11 rfl rfl), (nl_w0 1 rfl rfl)⟩⟩
set_option maxRecDepth 100000 in
theorem nl_i13 : nl_okI (yX1_addHour, cX1_addHour, 1, some .boolean, 1, 0, false) := ⟨(nl_w2 17 rfl rfl), (nl_w1 2 rfl rfl), rfl, (fun h => nomatch h), fun _ => ⟨(nl_w2 16 rfl rfl), (nl_w0 2 rfl rfl)⟩⟩
set_option maxRecDepth 100000 in
theorem nl_i14 : nl_okI (yX1_addHouse, cX1_addHouse, 1, some .boolean, 1, 0, false) := ⟨(nl_w2 21 rfl rfl), (nl_w1 2 rfl rfl), rfl, (fun h => nomatch h), fun _ => ⟨(nl_w2 20 rfl rfl), (nl_w0 3 rfl rfl)⟩⟩
set_option maxRecDepth 100000 in
theorem nl_i15 : nl_okI (yX2_clear, cX2_clear, 1, none, 2, 0, false) := ⟨(nl_w2 36 rfl rfl), (nl_w1 4 rfl rfl), rfl, (fun h => nomatch h), fun _ => ⟨(nl_w2 34 rfl rfl), (nl_w2 35 rfl rfl)⟩⟩
set_option maxRecDepth 100000 in
theorem nl_i16 : nl_okI (yX2_put, cX2_put, 2, none, 2, 1, false) := ⟨(nl_w2 129 rfl rfl), (nl_w1 4 rfl rfl), rfl, (fun h => nomatch h), fun _ => ⟨(nl_w2 127 rfl rfl), (nl_w2 128 rfl rfl)⟩⟩
set_option maxRecDepth 100000 in
theorem nl_i17 : nl_okI (yX2_dropOldest, cX2_dropOldest, 3, none, 2, 0, false) := ⟨(nl_w2 133 rfl rfl), (nl_w1 4 rfl rfl), rfl, (fun h => nomatch h), fun _ => ⟨(nl_w2 132 rfl rfl), (nl_w0 5 rfl rfl)⟩⟩
set_option maxRecDepth 100000 in
theorem nl_i18 : nl_okI (yX2_takeInto, cX2_takeInto, 2, some .boolean, 2, 1, false) := ⟨(nl_w2 183 rfl rfl), (nl_w1 4 rfl rfl), rfl, (fun h => nomatch h), fun _ => ⟨(nl_w2 181 rfl rfl), (nl_w2 182 rfl rfl)⟩⟩
set_option maxRecDepth 100000 in
theorem nl_i19 : nl_okI (yX3_clear, cX3_clear, 1, none, 3, 0, false) := ⟨(nl_w2 40 rfl rfl), (nl_w1 6 rfl rfl), rfl, (fun h => nomatch h), fun _ => ⟨(nl_w2 38 rfl rfl), (nl_w2 39 rfl rfl)⟩⟩
set_option maxRecDepth 100000 in
theorem nl_i20 : nl_okI (yX3_add, cX3_add, 4, none, 3, 3, false) := ⟨(nl_w3 45 rfl rfl), (nl_w1 6 rfl rfl), rfl, (fun h => nomatch h), fun _ => ⟨(nl_w3 43 rfl rfl), (nl_w3 44 rfl rfl)⟩⟩
set_option maxRecDepth 100000 in
theorem nl_i21 : nl_okI (yX3_lastNight, cX3_lastNight, 3, some .int, 3, 0, false) := ⟨(nl_w3 61 rfl rfl), (nl_w1 6 rfl rfl), rfl, (fun h => nomatch h), fun _ => ⟨(nl_w3 59 rfl rfl), (nl_w3 60 rfl rfl)⟩⟩
set_option maxRecDepth 100000 in
theorem nl_i22 : nl_okI (yX3_fit, cX3_fit, 4, some .boolean, 3, 2, false) := ⟨(nl_w3 66 rfl rfl), (nl_w1 6 rfl rfl), rfl, (fun h => nomatch h), fun _ => ⟨(nl_w3 64 rfl rfl), (nl_w3 65 rfl rfl)⟩⟩
set_option maxRecDepth 100000 in
theorem nl_i23 : nl_okI (yX4_settle, cX4_settle, 3, none, 4, 1, false) := ⟨(nl_w2 29 rfl rfl), (nl_w1 3 rfl rfl), rfl, (fun h => nomatch h), fun _ => ⟨(nl_w2 27 rfl rfl), (nl_w2 28 rfl rfl)⟩⟩
set_option maxRecDepth 100000 in
theorem nl_i24 : nl_okI (yX4_copyFrom, cX4_copyFrom, 3, none, 4, 1, false) := ⟨(nl_w2 137 rfl rfl), (nl_w1 3 rfl rfl), rfl, (fun h => nomatch h), fun _ => ⟨(nl_w2 135 rfl rfl), (nl_w2 136 rfl rfl)⟩⟩
set_option maxRecDepth 100000 in
theorem nl_i25 : nl_okI (yX4_isHouse, cX4_isHouse, 2, some .boolean, 4, 1, false) := ⟨(nl_w2 88 rfl rfl), (nl_w1 3 rfl rfl), rfl, (fun h => nomatch h), fun _ => ⟨(nl_w2 86 rfl rfl), (nl_w2 87 rfl rfl)⟩⟩
set_option maxRecDepth 100000 in
theorem nl_i26 : nl_okI (yX4_isHour, cX4_isHour, 2, some .boolean, 4, 1, false) := ⟨(nl_w2 96 rfl rfl), (nl_w1 3 rfl rfl), rfl, (fun h => nomatch h), fun _ => ⟨(nl_w2 94 rfl rfl), (nl_w2 95 rfl rfl)⟩⟩
set_option maxRecDepth 100000 in
theorem nl_i27 : nl_okI (yX4_houseWith, cX4_houseWith, 3, some .int, 4, 1, false) := ⟨(nl_w2 100 rfl rfl), (nl_w1 3 rfl rfl), rfl, (fun h => nomatch h), fun _ => ⟨(nl_w2 98 rfl rfl), (nl_w2 99 rfl rfl)⟩⟩
set_option maxRecDepth 100000 in
theorem nl_i28 : nl_okI (yX4_timesHad, cX4_timesHad, 3, some .int, 4, 2, false) := ⟨(nl_w2 121 rfl rfl), (nl_w1 3 rfl rfl), rfl, (fun h => nomatch h), fun _ => ⟨(nl_w2 119 rfl rfl), (nl_w2 120 rfl rfl)⟩⟩
set_option maxRecDepth 100000 in
theorem nl_i29 : nl_okI (yX4_heaviness, cX4_heaviness, 4, some .int, 4, 2, false) := ⟨(nl_w2 108 rfl rfl), (nl_w1 3 rfl rfl), rfl, (fun h => nomatch h), fun _ => ⟨(nl_w2 106 rfl rfl), (nl_w2 107 rfl rfl)⟩⟩
set_option maxRecDepth 100000 in
theorem nl_i30 : nl_okI (yX4_hourHadMost, cX4_hourHadMost, 6, some .int, 4, 1, false) := ⟨(nl_w2 112 rfl rfl), (nl_w1 3 rfl rfl), rfl, (fun h => nomatch h), fun _ => ⟨(nl_w2 111 rfl rfl), (nl_w0 4 rfl rfl)⟩⟩
set_option maxRecDepth 100000 in
theorem nl_i31 : nl_okI (yX4_wouldKeep, cX4_wouldKeep, 4, some .boolean, 4, 3, false) := ⟨(nl_w2 150 rfl rfl), (nl_w1 3 rfl rfl), rfl, (fun h => nomatch h), fun _ => ⟨(nl_w2 148 rfl rfl), (nl_w2 149 rfl rfl)⟩⟩
set_option maxRecDepth 100000 in
theorem nl_i32 : nl_okI (yX4_isGapAt, cX4_isGapAt, 3, some .boolean, 4, 1, false) := ⟨(nl_w2 196 rfl rfl), (nl_w1 3 rfl rfl), rfl, (fun h => nomatch h), fun _ => ⟨(nl_w2 194 rfl rfl), (nl_w2 195 rfl rfl)⟩⟩
set_option maxRecDepth 100000 in
theorem nl_i33 : nl_okI (yX4_seeThrough, cX4_seeThrough, 4, some .boolean, 4, 1, false) := ⟨(nl_w2 145 rfl rfl), (nl_w1 3 rfl rfl), rfl, (fun h => nomatch h), fun _ => ⟨(nl_w2 143 rfl rfl), (nl_w2 144 rfl rfl)⟩⟩
set_option maxRecDepth 100000 in
theorem nl_i34 : nl_okI (yX4_letNightsPass, cX4_letNightsPass, 5, some .int, 4, 1, false) := ⟨(nl_w2 141 rfl rfl), (nl_w1 3 rfl rfl), rfl, (fun h => nomatch h), fun _ => ⟨(nl_w2 139 rfl rfl), (nl_w2 140 rfl rfl)⟩⟩
set_option maxRecDepth 100000 in
theorem nl_i35 : nl_okI (yX4_trade, cX4_trade, 4, none, 4, 2, false) := ⟨(nl_w2 159 rfl rfl), (nl_w1 3 rfl rfl), rfl, (fun h => nomatch h), fun _ => ⟨(nl_w2 157 rfl rfl), (nl_w2 158 rfl rfl)⟩⟩
set_option maxRecDepth 100000 in
theorem nl_i36 : nl_okI (yX4_giveRest, cX4_giveRest, 2, none, 4, 1, false) := ⟨(nl_w2 167 rfl rfl), (nl_w1 3 rfl rfl), rfl, (fun h => nomatch h), fun _ => ⟨(nl_w2 165 rfl rfl), (nl_w2 166 rfl rfl)⟩⟩
set_option maxRecDepth 100000 in
theorem nl_i37 : nl_okI (yX4_setBurden, cX4_setBurden, 3, none, 4, 2, false) := ⟨(nl_w2 175 rfl rfl), (nl_w1 3 rfl rfl), rfl, (fun h => nomatch h), fun _ => ⟨(nl_w2 173 rfl rfl), (nl_w2 174 rfl rfl)⟩⟩
set_option maxRecDepth 100000 in
theorem nl_i38 : nl_okI (yX4_tiredTogether, cX4_tiredTogether, 3, some .int, 4, 0, false) := ⟨(nl_w3 102 rfl rfl), (nl_w1 3 rfl rfl), rfl, (fun h => nomatch h), fun _ => ⟨(nl_w3 100 rfl rfl), (nl_w3 101 rfl rfl)⟩⟩
set_option maxRecDepth 100000 in
theorem nl_i39 : nl_okI (yX4_handingOver, cX4_handingOver, 5, some .int, 4, 0, false) := ⟨(nl_w3 25 rfl rfl), (nl_w1 3 rfl rfl), rfl, (fun h => nomatch h), fun _ => ⟨(nl_w3 23 rfl rfl), (nl_w3 24 rfl rfl)⟩⟩
set_option maxRecDepth 100000 in
theorem nl_i40 : nl_okI (yX4_lengthOfRoad, cX4_lengthOfRoad, 4, some .int, 4, 0, false) := ⟨(nl_w3 32 rfl rfl), (nl_w1 3 rfl rfl), rfl, (fun h => nomatch h), fun _ => ⟨(nl_w3 30 rfl rfl), (nl_w3 31 rfl rfl)⟩⟩
set_option maxRecDepth 100000 in
theorem nl_i41 : nl_okI (yX4_stir, cX4_stir, 4, none, 4, 1, false) := ⟨(nl_w3 95 rfl rfl), (nl_w1 3 rfl rfl), rfl, (fun h => nomatch h), fun _ => ⟨(nl_w3 93 rfl rfl), (nl_w3 94 rfl rfl)⟩⟩
set_option maxRecDepth 100000 in
theorem nl_i42 : nl_okI (yX5_write, cX5_write, 2, some .int, 5, 1, false) := ⟨(nl_w1 233 rfl rfl), (nl_w1 1 rfl rfl), rfl, (fun h => nomatch h), fun _ => ⟨(nl_w1 231 rfl rfl), (nl_w1 232 rfl rfl)⟩⟩
set_option maxRecDepth 100000 in
theorem nl_i43 : nl_okI (yX5_wipe, cX5_wipe, 2, some .int, 5, 0, false) := ⟨(nl_w2 44 rfl rfl), (nl_w1 1 rfl rfl), rfl, (fun h => nomatch h), fun _ => ⟨(nl_w2 42 rfl rfl), (nl_w2 43 rfl rfl)⟩⟩
set_option maxRecDepth 100000 in
theorem nl_i44 : nl_okI (yX5_fault, cX5_fault, 1, some .int, 5, 0, false) := ⟨(nl_w2 79 rfl rfl), (nl_w1 1 rfl rfl), rfl, (fun h => nomatch h), fun _ => ⟨(nl_w2 77 rfl rfl), (nl_w2 78 rfl rfl)⟩⟩
set_option maxRecDepth 100000 in
theorem nl_i45 : nl_okI (yX5_lay, cX5_lay, 1, some .int, 5, 0, false) := ⟨(nl_w2 0 rfl rfl), (nl_w1 1 rfl rfl), rfl, (fun h => nomatch h), fun _ => ⟨(nl_w1 238 rfl rfl), (nl_w1 239 rfl rfl)⟩⟩
set_option maxRecDepth 100000 in
theorem nl_i46 : nl_okI (yX5_house, cX5_house, 3, some .int, 5, 2, false) := ⟨(nl_w2 84 rfl rfl), (nl_w1 1 rfl rfl), rfl, (fun h => nomatch h), fun _ => ⟨(nl_w2 82 rfl rfl), (nl_w2 83 rfl rfl)⟩⟩
set_option maxRecDepth 100000 in
theorem nl_i47 : nl_okI (yX5_hour, cX5_hour, 3, some .int, 5, 2, false) := ⟨(nl_w2 92 rfl rfl), (nl_w1 1 rfl rfl), rfl, (fun h => nomatch h), fun _ => ⟨(nl_w2 90 rfl rfl), (nl_w2 91 rfl rfl)⟩⟩
set_option maxRecDepth 100000 in
theorem nl_i48 : nl_okI (yX5_heavy, cX5_heavy, 3, some .int, 5, 2, false) := ⟨(nl_w2 104 rfl rfl), (nl_w1 1 rfl rfl), rfl, (fun h => nomatch h), fun _ => ⟨(nl_w2 102 rfl rfl), (nl_w2 103 rfl rfl)⟩⟩
set_option maxRecDepth 100000 in
theorem nl_i49 : nl_okI (yX5_had, cX5_had, 3, some .int, 5, 2, false) := ⟨(nl_w2 117 rfl rfl), (nl_w1 1 rfl rfl), rfl, (fun h => nomatch h), fun _ => ⟨(nl_w2 115 rfl rfl), (nl_w2 116 rfl rfl)⟩⟩
set_option maxRecDepth 100000 in
theorem nl_i50 : nl_okI (yX5_pass, cX5_pass, 2, some .int, 5, 1, false) := ⟨(nl_w2 125 rfl rfl), (nl_w1 1 rfl rfl), rfl, (fun h => nomatch h), fun _ => ⟨(nl_w2 123 rfl rfl), (nl_w2 124 rfl rfl)⟩⟩
set_option maxRecDepth 100000 in
theorem nl_i51 : nl_okI (yX5_swap, cX5_swap, 3, some .int, 5, 2, false) := ⟨(nl_w2 155 rfl rfl), (nl_w1 1 rfl rfl), rfl, (fun h => nomatch h), fun _ => ⟨(nl_w2 153 rfl rfl), (nl_w2 154 rfl rfl)⟩⟩
set_option maxRecDepth 100000 in
theorem nl_i52 : nl_okI (yX5_rest, cX5_rest, 2, some .int, 5, 1, false) := ⟨(nl_w2 163 rfl rfl), (nl_w1 1 rfl rfl), rfl, (fun h => nomatch h), fun _ => ⟨(nl_w2 161 rfl rfl), (nl_w2 162 rfl rfl)⟩⟩
set_option maxRecDepth 100000 in
theorem nl_i53 : nl_okI (yX5_burden, cX5_burden, 4, some .int, 5, 2, false) := ⟨(nl_w2 171 rfl rfl), (nl_w1 1 rfl rfl), rfl, (fun h => nomatch h), fun _ => ⟨(nl_w2 169 rfl rfl), (nl_w2 170 rfl rfl)⟩⟩
set_option maxRecDepth 100000 in
theorem nl_i54 : nl_okI (yX5_undo, cX5_undo, 1, some .int, 5, 0, false) := ⟨(nl_w2 179 rfl rfl), (nl_w1 1 rfl rfl), rfl, (fun h => nomatch h), fun _ => ⟨(nl_w2 177 rfl rfl), (nl_w2 178 rfl rfl)⟩⟩
set_option maxRecDepth 100000 in
theorem nl_i55 : nl_okI (yX5_behind, cX5_behind, 4, some .int, 5, 3, false) := ⟨(nl_w2 187 rfl rfl), (nl_w1 1 rfl rfl), rfl, (fun h => nomatch h), fun _ => ⟨(nl_w2 185 rfl rfl), (nl_w2 186 rfl rfl)⟩⟩
set_option maxRecDepth 100000 in
theorem nl_i56 : nl_okI (yX5_gaps, cX5_gaps, 3, some .int, 5, 0, false) := ⟨(nl_w2 192 rfl rfl), (nl_w1 1 rfl rfl), rfl, (fun h => nomatch h), fun _ => ⟨(nl_w2 190 rfl rfl), (nl_w2 191 rfl rfl)⟩⟩
set_option maxRecDepth 100000 in
theorem nl_i57 : nl_okI (yX5_first, cX5_first, 3, some .int, 5, 1, false) := ⟨(nl_w2 201 rfl rfl), (nl_w1 1 rfl rfl), rfl, (fun h => nomatch h), fun _ => ⟨(nl_w2 199 rfl rfl), (nl_w2 200 rfl rfl)⟩⟩
set_option maxRecDepth 100000 in
theorem nl_i58 : nl_okI (yX5_even, cX5_even, 2, some .int, 5, 1, false) := ⟨(nl_w2 210 rfl rfl), (nl_w1 1 rfl rfl), rfl, (fun h => nomatch h), fun _ => ⟨(nl_w2 208 rfl rfl), (nl_w2 209 rfl rfl)⟩⟩
set_option maxRecDepth 100000 in
theorem nl_i59 : nl_okI (yX5_swaps, cX5_swaps, 1, some .int, 5, 0, false) := ⟨(nl_w3 7 rfl rfl), (nl_w1 1 rfl rfl), rfl, (fun h => nomatch h), fun _ => ⟨(nl_w3 5 rfl rfl), (nl_w3 6 rfl rfl)⟩⟩
set_option maxRecDepth 100000 in
theorem nl_i60 : nl_okI (yX5_far, cX5_far, 2, some .int, 5, 1, false) := ⟨(nl_w3 21 rfl rfl), (nl_w1 1 rfl rfl), rfl, (fun h => nomatch h), fun _ => ⟨(nl_w3 19 rfl rfl), (nl_w3 20 rfl rfl)⟩⟩
set_option maxRecDepth 100000 in
theorem nl_i61 : nl_okI (yX5_lamps, cX5_lamps, 5, some .int, 5, 2, false) := ⟨(nl_w3 36 rfl rfl), (nl_w1 1 rfl rfl), rfl, (fun h => nomatch h), fun _ => ⟨(nl_w3 34 rfl rfl), (nl_w3 35 rfl rfl)⟩⟩
set_option maxRecDepth 100000 in
theorem nl_i62 : nl_okI (yX5_seen, cX5_seen, 4, some .int, 5, 3, false) := ⟨(nl_w3 41 rfl rfl), (nl_w1 1 rfl rfl), rfl, (fun h => nomatch h), fun _ => ⟨(nl_w3 39 rfl rfl), (nl_w3 40 rfl rfl)⟩⟩
set_option maxRecDepth 100000 in
theorem nl_i63 : nl_okI (yX5_forget, cX5_forget, 2, some .int, 5, 0, false) := ⟨(nl_w3 49 rfl rfl), (nl_w1 1 rfl rfl), rfl, (fun h => nomatch h), fun _ => ⟨(nl_w3 47 rfl rfl), (nl_w3 48 rfl rfl)⟩⟩
set_option maxRecDepth 100000 in
theorem nl_i64 : nl_okI (yX5_kinds, cX5_kinds, 4, some .int, 5, 1, false) := ⟨(nl_w3 53 rfl rfl), (nl_w1 1 rfl rfl), rfl, (fun h => nomatch h), fun _ => ⟨(nl_w3 51 rfl rfl), (nl_w3 52 rfl rfl)⟩⟩
set_option maxRecDepth 100000 in
theorem nl_i65 : nl_okI (yX5_strengths, cX5_strengths, 6, some .int, 5, 2, false) := ⟨(nl_w3 71 rfl rfl), (nl_w1 1 rfl rfl), rfl, (fun h => nomatch h), fun _ => ⟨(nl_w3 69 rfl rfl), (nl_w3 70 rfl rfl)⟩⟩
set_option maxRecDepth 100000 in
theorem nl_i66 : nl_okI (yX5_likely, cX5_likely, 9, some .int, 5, 3, false) := ⟨(nl_w3 75 rfl rfl), (nl_w1 1 rfl rfl), rfl, (fun h => nomatch h), fun _ => ⟨(nl_w3 73 rfl rfl), (nl_w3 74 rfl rfl)⟩⟩
set_option maxRecDepth 100000 in
theorem nl_i67 : nl_okI (yX5_winter, cX5_winter, 6, some .int, 5, 3, false) := ⟨(nl_w3 84 rfl rfl), (nl_w1 1 rfl rfl), rfl, (fun h => nomatch h), fun _ => ⟨(nl_w3 82 rfl rfl), (nl_w3 83 rfl rfl)⟩⟩
set_option maxRecDepth 100000 in
theorem nl_i68 : nl_okI (yX5_keep, cX5_keep, 1, some .int, 5, 0, false) := ⟨(nl_w3 106 rfl rfl), (nl_w1 1 rfl rfl), rfl, (fun h => nomatch h), fun _ => ⟨(nl_w3 104 rfl rfl), (nl_w3 105 rfl rfl)⟩⟩
set_option maxRecDepth 100000 in
theorem nl_i69 : nl_okI (yX5_back, cX5_back, 1, some .int, 5, 0, false) := ⟨(nl_w3 110 rfl rfl), (nl_w1 1 rfl rfl), rfl, (fun h => nomatch h), fun _ => ⟨(nl_w3 108 rfl rfl), (nl_w3 109 rfl rfl)⟩⟩
set_option maxRecDepth 100000 in
theorem nl_i70 : nl_okI (yX5_count, cX5_count, 2, some .int, 5, 1, false) := ⟨(nl_w3 114 rfl rfl), (nl_w1 1 rfl rfl), rfl, (fun h => nomatch h), fun _ => ⟨(nl_w3 112 rfl rfl), (nl_w3 113 rfl rfl)⟩⟩
set_option maxRecDepth 100000 in
theorem nl_i71 : nl_okI (yX5_isWithin, cX5_isWithin, 3, some .boolean, 5, 3, true) := ⟨(nl_w1 236 rfl rfl), (nl_w1 1 rfl rfl), rfl, fun _ => (nl_w1 235 rfl rfl), (fun h => nomatch h)⟩
set_option maxRecDepth 100000 in
theorem nl_i72 : nl_okI (yX5_largestDivisor, cX5_largestDivisor, 3, some .int, 5, 2, true) := ⟨(nl_w3 80 rfl rfl), (nl_w1 1 rfl rfl), rfl, fun _ => (nl_w3 79 rfl rfl), (fun h => nomatch h)⟩
set_option maxRecDepth 100000 in
theorem nl_i73 : nl_okI (yX5_drawFor, cX5_drawFor, 4, some .int, 5, 2, true) := ⟨(nl_w3 87 rfl rfl), (nl_w1 1 rfl rfl), rfl, fun _ => (nl_w3 86 rfl rfl), (fun h => nomatch h)⟩
set_option maxRecDepth 100000 in
theorem nl_i74 : nl_okI (yX5_nextMissAhead, cX5_nextMissAhead, 4, some .int, 5, 2, false) := ⟨(nl_w2 205 rfl rfl), (nl_w1 1 rfl rfl), rfl, (fun h => nomatch h), fun _ => ⟨(nl_w2 204 rfl rfl), (nl_w0 6 rfl rfl)⟩⟩
set_option maxRecDepth 100000 in
theorem nl_i75 : nl_okI (yX5_fitsAllSeen, cX5_fitsAllSeen, 6, some .boolean, 5, 3, false) := ⟨(nl_w3 57 rfl rfl), (nl_w1 1 rfl rfl), rfl, (fun h => nomatch h), fun _ => ⟨(nl_w3 56 rfl rfl), (nl_w0 12 rfl rfl)⟩⟩
set_option maxRecDepth 100000 in
theorem nl_i76 : nl_okI (yX6_in, cX6_in, 3, some .boolean, 6, 3, true) := ⟨(nl_w3 226 rfl rfl), (nl_w1 12 rfl rfl), rfl, fun _ => (nl_w3 225 rfl rfl), (fun h => nomatch h)⟩
set_option maxRecDepth 100000 in
theorem nl_i77 : nl_okI (yX6_has, cX6_has, 2, some .boolean, 6, 2, true) := ⟨(nl_w4 169 rfl rfl), (nl_w1 12 rfl rfl), rfl, fun _ => (nl_w4 168 rfl rfl), (fun h => nomatch h)⟩
set_option maxRecDepth 100000 in
theorem nl_i78 : nl_okI (yX6_bits, cX6_bits, 3, some .int, 6, 1, true) := ⟨(nl_w4 183 rfl rfl), (nl_w1 12 rfl rfl), rfl, fun _ => (nl_w4 182 rfl rfl), (fun h => nomatch h)⟩
set_option maxRecDepth 100000 in
theorem nl_i79 : nl_okI (yX6_lesser, cX6_lesser, 2, some .int, 6, 2, true) := ⟨(nl_w4 85 rfl rfl), (nl_w1 12 rfl rfl), rfl, fun _ => (nl_w4 84 rfl rfl), (fun h => nomatch h)⟩
set_option maxRecDepth 100000 in
theorem nl_i80 : nl_okI (yX6_greater, cX6_greater, 2, some .int, 6, 2, true) := ⟨(nl_w4 54 rfl rfl), (nl_w1 12 rfl rfl), rfl, fun _ => (nl_w4 53 rfl rfl), (fun h => nomatch h)⟩
set_option maxRecDepth 100000 in
theorem nl_i81 : nl_okI (yX6_firstHouse, cX6_firstHouse, 5, none, 6, 4, false) := ⟨(nl_w3 124 rfl rfl), (nl_w1 12 rfl rfl), rfl, (fun h => nomatch h), fun _ => ⟨(nl_w3 123 rfl rfl), (nl_w0 13 rfl rfl)⟩⟩
set_option maxRecDepth 100000 in
theorem nl_i82 : nl_okI (yX6_begin, cX6_begin, 2, none, 6, 0, false) := ⟨(nl_w3 128 rfl rfl), (nl_w1 12 rfl rfl), rfl, (fun h => nomatch h), fun _ => ⟨(nl_w3 127 rfl rfl), (nl_w0 14 rfl rfl)⟩⟩
set_option maxRecDepth 100000 in
theorem nl_i83 : nl_okI (yX6_isOne, cX6_isOne, 2, some .boolean, 6, 1, false) := ⟨(nl_w4 31 rfl rfl), (nl_w1 12 rfl rfl), rfl, (fun h => nomatch h), fun _ => ⟨(nl_w4 30 rfl rfl), (nl_w0 21 rfl rfl)⟩⟩
set_option maxRecDepth 100000 in
theorem nl_i84 : nl_okI (yX6_write, cX6_write, 2, some .int, 6, 1, false) := ⟨(nl_w3 223 rfl rfl), (nl_w1 12 rfl rfl), rfl, (fun h => nomatch h), fun _ => ⟨(nl_w3 221 rfl rfl), (nl_w3 222 rfl rfl)⟩⟩
set_option maxRecDepth 100000 in
theorem nl_i85 : nl_okI (yX6_wipe, cX6_wipe, 2, some .int, 6, 0, false) := ⟨(nl_w3 230 rfl rfl), (nl_w1 12 rfl rfl), rfl, (fun h => nomatch h), fun _ => ⟨(nl_w3 228 rfl rfl), (nl_w3 229 rfl rfl)⟩⟩
set_option maxRecDepth 100000 in
theorem nl_i86 : nl_okI (yX6_here, cX6_here, 1, some .int, 6, 0, false) := ⟨(nl_w4 2 rfl rfl), (nl_w1 12 rfl rfl), rfl, (fun h => nomatch h), fun _ => ⟨(nl_w4 1 rfl rfl), (nl_w0 16 rfl rfl)⟩⟩
set_option maxRecDepth 100000 in
theorem nl_i87 : nl_okI (yX6_isFigure, cX6_isFigure, 1, some .boolean, 6, 0, false) := ⟨(nl_w4 14 rfl rfl), (nl_w1 12 rfl rfl), rfl, (fun h => nomatch h), fun _ => ⟨(nl_w4 13 rfl rfl), (nl_w0 19 rfl rfl)⟩⟩
set_option maxRecDepth 100000 in
theorem nl_i88 : nl_okI (yX6_number, cX6_number, 5, some .boolean, 6, 3, false) := ⟨(nl_w4 10 rfl rfl), (nl_w1 12 rfl rfl), rfl, (fun h => nomatch h), fun _ => ⟨(nl_w4 9 rfl rfl), (nl_w0 18 rfl rfl)⟩⟩
set_option maxRecDepth 100000 in
theorem nl_i89 : nl_okI (yX6_readsHour, cX6_readsHour, 1, some .boolean, 6, 0, false) := ⟨(nl_w4 6 rfl rfl), (nl_w1 12 rfl rfl), rfl, (fun h => nomatch h), fun _ => ⟨(nl_w4 5 rfl rfl), (nl_w0 17 rfl rfl)⟩⟩
set_option maxRecDepth 100000 in
theorem nl_i90 : nl_okI (yX6_readsHouse, cX6_readsHouse, 2, some .boolean, 6, 0, false) := ⟨(nl_w4 18 rfl rfl), (nl_w1 12 rfl rfl), rfl, (fun h => nomatch h), fun _ => ⟨(nl_w4 17 rfl rfl), (nl_w0 20 rfl rfl)⟩⟩
set_option maxRecDepth 100000 in
theorem nl_i91 : nl_okI (yX6_readsItem, cX6_readsItem, 2, some .boolean, 6, 0, false) := ⟨(nl_w3 238 rfl rfl), (nl_w1 12 rfl rfl), rfl, (fun h => nomatch h), fun _ => ⟨(nl_w3 237 rfl rfl), (nl_w0 15 rfl rfl)⟩⟩
set_option maxRecDepth 100000 in
theorem nl_i92 : nl_okI (yX6_fault, cX6_fault, 2, some .int, 6, 0, false) := ⟨(nl_w3 234 rfl rfl), (nl_w1 12 rfl rfl), rfl, (fun h => nomatch h), fun _ => ⟨(nl_w3 232 rfl rfl), (nl_w3 233 rfl rfl)⟩⟩
set_option maxRecDepth 100000 in
theorem nl_i93 : nl_okI (yX6_lay, cX6_lay, 2, some .int, 6, 0, false) := ⟨(nl_w4 22 rfl rfl), (nl_w1 12 rfl rfl), rfl, (fun h => nomatch h), fun _ => ⟨(nl_w4 20 rfl rfl), (nl_w4 21 rfl rfl)⟩⟩
set_option maxRecDepth 100000 in
theorem nl_i94 : nl_okI (yX6_mostOften, cX6_mostOften, 6, some .int, 6, 1, false) := ⟨(nl_w4 51 rfl rfl), (nl_w1 12 rfl rfl), rfl, (fun h => nomatch h), fun _ => ⟨(nl_w4 50 rfl rfl), (nl_w0 24 rfl rfl)⟩⟩
set_option maxRecDepth 100000 in
theorem nl_i95 : nl_okI (yX6_weight, cX6_weight, 4, some .int, 6, 2, false) := ⟨(nl_w4 47 rfl rfl), (nl_w1 12 rfl rfl), rfl, (fun h => nomatch h), fun _ => ⟨(nl_w4 46 rfl rfl), (nl_w0 23 rfl rfl)⟩⟩
set_option maxRecDepth 100000 in
theorem nl_i96 : nl_okI (yX6_keeps, cX6_keeps, 3, some .boolean, 6, 2, false) := ⟨(nl_w4 82 rfl rfl), (nl_w1 12 rfl rfl), rfl, (fun h => nomatch h), fun _ => ⟨(nl_w4 81 rfl rfl), (nl_w0 29 rfl rfl)⟩⟩
set_option maxRecDepth 100000 in
theorem nl_i97 : nl_okI (yX6_gapSet, cX6_gapSet, 3, some .int, 6, 0, false) := ⟨(nl_w4 133 rfl rfl), (nl_w1 12 rfl rfl), rfl, (fun h => nomatch h), fun _ => ⟨(nl_w4 132 rfl rfl), (nl_w0 35 rfl rfl)⟩⟩
set_option maxRecDepth 100000 in
theorem nl_i98 : nl_okI (yX6_passes, cX6_passes, 4, some .int, 6, 0, false) := ⟨(nl_w4 78 rfl rfl), (nl_w1 12 rfl rfl), rfl, (fun h => nomatch h), fun _ => ⟨(nl_w4 77 rfl rfl), (nl_w0 28 rfl rfl)⟩⟩
set_option maxRecDepth 100000 in
theorem nl_i99 : nl_okI (yX6_goesOn, cX6_goesOn, 4, some .int, 6, 1, false) := ⟨(nl_w4 74 rfl rfl), (nl_w1 12 rfl rfl), rfl, (fun h => nomatch h), fun _ => ⟨(nl_w4 73 rfl rfl), (nl_w0 27 rfl rfl)⟩⟩
set_option maxRecDepth 100000 in
theorem nl_i100 : nl_okI (yX6_house, cX6_house, 3, some .int, 6, 2, false) := ⟨(nl_w4 27 rfl rfl), (nl_w1 12 rfl rfl), rfl, (fun h => nomatch h), fun _ => ⟨(nl_w4 25 rfl rfl), (nl_w4 26 rfl rfl)⟩⟩
set_option maxRecDepth 100000 in
theorem nl_i101 : nl_okI (yX6_whoHas, cX6_whoHas, 3, some .int, 6, 1, false) := ⟨(nl_w4 39 rfl rfl), (nl_w1 12 rfl rfl), rfl, (fun h => nomatch h), fun _ => ⟨(nl_w4 38 rfl rfl), (nl_w0 22 rfl rfl)⟩⟩
set_option maxRecDepth 100000 in
theorem nl_i102 : nl_okI (yX6_hour, cX6_hour, 3, some .int, 6, 2, false) := ⟨(nl_w4 35 rfl rfl), (nl_w1 12 rfl rfl), rfl, (fun h => nomatch h), fun _ => ⟨(nl_w4 33 rfl rfl), (nl_w4 34 rfl rfl)⟩⟩
set_option maxRecDepth 100000 in
theorem nl_i103 : nl_okI (yX6_heavy, cX6_heavy, 3, some .int, 6, 2, false) := ⟨(nl_w4 43 rfl rfl), (nl_w1 12 rfl rfl), rfl, (fun h => nomatch h), fun _ => ⟨(nl_w4 41 rfl rfl), (nl_w4 42 rfl rfl)⟩⟩
set_option maxRecDepth 100000 in
theorem nl_i104 : nl_okI (yX6_had, cX6_had, 3, some .int, 6, 2, false) := ⟨(nl_w4 58 rfl rfl), (nl_w1 12 rfl rfl), rfl, (fun h => nomatch h), fun _ => ⟨(nl_w4 56 rfl rfl), (nl_w4 57 rfl rfl)⟩⟩
set_option maxRecDepth 100000 in
theorem nl_i105 : nl_okI (yX6_lays, cX6_lays, 4, none, 6, 2, false) := ⟨(nl_w4 70 rfl rfl), (nl_w1 12 rfl rfl), rfl, (fun h => nomatch h), fun _ => ⟨(nl_w4 69 rfl rfl), (nl_w0 26 rfl rfl)⟩⟩
set_option maxRecDepth 100000 in
theorem nl_i106 : nl_okI (yX6_takes, cX6_takes, 4, none, 6, 2, false) := ⟨(nl_w4 113 rfl rfl), (nl_w1 12 rfl rfl), rfl, (fun h => nomatch h), fun _ => ⟨(nl_w4 112 rfl rfl), (nl_w0 32 rfl rfl)⟩⟩
set_option maxRecDepth 100000 in
theorem nl_i107 : nl_okI (yX6_notes, cX6_notes, 2, none, 6, 0, false) := ⟨(nl_w4 66 rfl rfl), (nl_w1 12 rfl rfl), rfl, (fun h => nomatch h), fun _ => ⟨(nl_w4 65 rfl rfl), (nl_w0 25 rfl rfl)⟩⟩
set_option maxRecDepth 100000 in
theorem nl_i108 : nl_okI (yX6_pass, cX6_pass, 2, some .int, 6, 1, false) := ⟨(nl_w4 62 rfl rfl), (nl_w1 12 rfl rfl), rfl, (fun h => nomatch h), fun _ => ⟨(nl_w4 60 rfl rfl), (nl_w4 61 rfl rfl)⟩⟩
set_option maxRecDepth 100000 in
theorem nl_i109 : nl_okI (yX6_trades, cX6_trades, 4, none, 6, 2, false) := ⟨(nl_w4 93 rfl rfl), (nl_w1 12 rfl rfl), rfl, (fun h => nomatch h), fun _ => ⟨(nl_w4 92 rfl rfl), (nl_w0 30 rfl rfl)⟩⟩
set_option maxRecDepth 100000 in
theorem nl_i110 : nl_okI (yX6_swap, cX6_swap, 3, some .int, 6, 2, false) := ⟨(nl_w4 89 rfl rfl), (nl_w1 12 rfl rfl), rfl, (fun h => nomatch h), fun _ => ⟨(nl_w4 87 rfl rfl), (nl_w4 88 rfl rfl)⟩⟩
set_option maxRecDepth 100000 in
theorem nl_i111 : nl_okI (yX6_rests, cX6_rests, 2, none, 6, 1, false) := ⟨(nl_w4 101 rfl rfl), (nl_w1 12 rfl rfl), rfl, (fun h => nomatch h), fun _ => ⟨(nl_w4 100 rfl rfl), (nl_w0 31 rfl rfl)⟩⟩
set_option maxRecDepth 100000 in
theorem nl_i112 : nl_okI (yX6_rest, cX6_rest, 2, some .int, 6, 1, false) := ⟨(nl_w4 97 rfl rfl), (nl_w1 12 rfl rfl), rfl, (fun h => nomatch h), fun _ => ⟨(nl_w4 95 rfl rfl), (nl_w4 96 rfl rfl)⟩⟩
set_option maxRecDepth 100000 in
theorem nl_i113 : nl_okI (yX6_burden, cX6_burden, 4, some .int, 6, 2, false) := ⟨(nl_w4 105 rfl rfl), (nl_w1 12 rfl rfl), rfl, (fun h => nomatch h), fun _ => ⟨(nl_w4 103 rfl rfl), (nl_w4 104 rfl rfl)⟩⟩
set_option maxRecDepth 100000 in
theorem nl_i114 : nl_okI (yX6_undo, cX6_undo, 1, some .int, 6, 0, false) := ⟨(nl_w4 109 rfl rfl), (nl_w1 12 rfl rfl), rfl, (fun h => nomatch h), fun _ => ⟨(nl_w4 107 rfl rfl), (nl_w4 108 rfl rfl)⟩⟩
set_option maxRecDepth 100000 in
theorem nl_i115 : nl_okI (yX6_start, cX6_start, 1, none, 6, 0, false) := ⟨(nl_w4 121 rfl rfl), (nl_w1 12 rfl rfl), rfl, (fun h => nomatch h), fun _ => ⟨(nl_w4 120 rfl rfl), (nl_w0 33 rfl rfl)⟩⟩
set_option maxRecDepth 100000 in
theorem nl_i116 : nl_okI (yX6_putBack, cX6_putBack, 1, none, 6, 0, false) := ⟨(nl_w4 125 rfl rfl), (nl_w1 12 rfl rfl), rfl, (fun h => nomatch h), fun _ => ⟨(nl_w4 124 rfl rfl), (nl_w0 34 rfl rfl)⟩⟩
set_option maxRecDepth 100000 in
theorem nl_i117 : nl_okI (yX6_behind, cX6_behind, 5, some .int, 6, 3, false) := ⟨(nl_w4 117 rfl rfl), (nl_w1 12 rfl rfl), rfl, (fun h => nomatch h), fun _ => ⟨(nl_w4 115 rfl rfl), (nl_w4 116 rfl rfl)⟩⟩
set_option maxRecDepth 100000 in
theorem nl_i118 : nl_okI (yX6_gaps, cX6_gaps, 1, some .int, 6, 0, false) := ⟨(nl_w4 129 rfl rfl), (nl_w1 12 rfl rfl), rfl, (fun h => nomatch h), fun _ => ⟨(nl_w4 127 rfl rfl), (nl_w4 128 rfl rfl)⟩⟩
set_option maxRecDepth 100000 in
theorem nl_i119 : nl_okI (yX6_first, cX6_first, 5, some .int, 6, 1, false) := ⟨(nl_w4 137 rfl rfl), (nl_w1 12 rfl rfl), rfl, (fun h => nomatch h), fun _ => ⟨(nl_w4 135 rfl rfl), (nl_w4 136 rfl rfl)⟩⟩
set_option maxRecDepth 100000 in
theorem nl_i120 : nl_okI (yX6_firstRow, cX6_firstRow, 2, none, 6, 0, false) := ⟨(nl_w4 146 rfl rfl), (nl_w1 12 rfl rfl), rfl, (fun h => nomatch h), fun _ => ⟨(nl_w4 145 rfl rfl), (nl_w0 36 rfl rfl)⟩⟩
set_option maxRecDepth 100000 in
theorem nl_i121 : nl_okI (yX6_nextRow, cX6_nextRow, 7, some .boolean, 6, 0, false) := ⟨(nl_w4 158 rfl rfl), (nl_w1 12 rfl rfl), rfl, (fun h => nomatch h), fun _ => ⟨(nl_w4 157 rfl rfl), (nl_w0 39 rfl rfl)⟩⟩
set_option maxRecDepth 100000 in
theorem nl_i122 : nl_okI (yX6_gapsBy, cX6_gapsBy, 3, some .int, 6, 0, false) := ⟨(nl_w4 150 rfl rfl), (nl_w1 12 rfl rfl), rfl, (fun h => nomatch h), fun _ => ⟨(nl_w4 149 rfl rfl), (nl_w0 37 rfl rfl)⟩⟩
set_option maxRecDepth 100000 in
theorem nl_i123 : nl_okI (yX6_keptWeight, cX6_keptWeight, 3, some .int, 6, 0, false) := ⟨(nl_w4 154 rfl rfl), (nl_w1 12 rfl rfl), rfl, (fun h => nomatch h), fun _ => ⟨(nl_w4 153 rfl rfl), (nl_w0 38 rfl rfl)⟩⟩
set_option maxRecDepth 100000 in
theorem nl_i124 : nl_okI (yX6_even, cX6_even, 8, some .int, 6, 1, false) := ⟨(nl_w4 141 rfl rfl), (nl_w1 12 rfl rfl), rfl, (fun h => nomatch h), fun _ => ⟨(nl_w4 139 rfl rfl), (nl_w4 140 rfl rfl)⟩⟩
set_option maxRecDepth 100000 in
theorem nl_i125 : nl_okI (yX6_swapsTo, cX6_swapsTo, 5, some .int, 6, 0, false) := ⟨(nl_w4 166 rfl rfl), (nl_w1 12 rfl rfl), rfl, (fun h => nomatch h), fun _ => ⟨(nl_w4 165 rfl rfl), (nl_w0 40 rfl rfl)⟩⟩
set_option maxRecDepth 100000 in
theorem nl_i126 : nl_okI (yX6_swaps, cX6_swaps, 3, some .int, 6, 0, false) := ⟨(nl_w4 162 rfl rfl), (nl_w1 12 rfl rfl), rfl, (fun h => nomatch h), fun _ => ⟨(nl_w4 160 rfl rfl), (nl_w4 161 rfl rfl)⟩⟩
set_option maxRecDepth 100000 in
theorem nl_i127 : nl_okI (yX6_off, cX6_off, 2, some .int, 6, 2, true) := ⟨(nl_w4 176 rfl rfl), (nl_w1 12 rfl rfl), rfl, fun _ => (nl_w4 175 rfl rfl), (fun h => nomatch h)⟩
set_option maxRecDepth 100000 in
theorem nl_i128 : nl_okI (yX6_far, cX6_far, 6, some .int, 6, 1, false) := ⟨(nl_w4 173 rfl rfl), (nl_w1 12 rfl rfl), rfl, (fun h => nomatch h), fun _ => ⟨(nl_w4 171 rfl rfl), (nl_w4 172 rfl rfl)⟩⟩
set_option maxRecDepth 100000 in
theorem nl_i129 : nl_okI (yX6_lamps, cX6_lamps, 7, some .int, 6, 2, false) := ⟨(nl_w4 180 rfl rfl), (nl_w1 12 rfl rfl), rfl, (fun h => nomatch h), fun _ => ⟨(nl_w4 178 rfl rfl), (nl_w4 179 rfl rfl)⟩⟩
set_option maxRecDepth 100000 in
theorem nl_i130 : nl_okI (yX6_seen, cX6_seen, 4, some .int, 6, 3, false) := ⟨(nl_w4 187 rfl rfl), (nl_w1 12 rfl rfl), rfl, (fun h => nomatch h), fun _ => ⟨(nl_w4 185 rfl rfl), (nl_w4 186 rfl rfl)⟩⟩
set_option maxRecDepth 100000 in
theorem nl_i131 : nl_okI (yX6_forget, cX6_forget, 2, some .int, 6, 0, false) := ⟨(nl_w4 191 rfl rfl), (nl_w1 12 rfl rfl), rfl, (fun h => nomatch h), fun _ => ⟨(nl_w4 189 rfl rfl), (nl_w4 190 rfl rfl)⟩⟩
set_option maxRecDepth 100000 in
theorem nl_i132 : nl_okI (yX6_isSo, cX6_isSo, 5, some .boolean, 6, 0, false) := ⟨(nl_w4 199 rfl rfl), (nl_w1 12 rfl rfl), rfl, (fun h => nomatch h), fun _ => ⟨(nl_w4 198 rfl rfl), (nl_w0 41 rfl rfl)⟩⟩
set_option maxRecDepth 100000 in
theorem nl_i133 : nl_okI (yX6_kinds, cX6_kinds, 5, some .int, 6, 1, false) := ⟨(nl_w4 195 rfl rfl), (nl_w1 12 rfl rfl), rfl, (fun h => nomatch h), fun _ => ⟨(nl_w4 193 rfl rfl), (nl_w4 194 rfl rfl)⟩⟩
set_option maxRecDepth 100000 in
theorem nl_i134 : nl_okI (yX6_strengths, cX6_strengths, 8, some .int, 6, 2, false) := ⟨(nl_w4 203 rfl rfl), (nl_w1 12 rfl rfl), rfl, (fun h => nomatch h), fun _ => ⟨(nl_w4 201 rfl rfl), (nl_w4 202 rfl rfl)⟩⟩
set_option maxRecDepth 100000 in
theorem nl_i135 : nl_okI (yX6_common, cX6_common, 10, some .long, 6, 2, true) := ⟨(nl_w4 211 rfl rfl), (nl_w1 12 rfl rfl), rfl, fun _ => (nl_w4 210 rfl rfl), (fun h => nomatch h)⟩
set_option maxRecDepth 100000 in
theorem nl_i136 : nl_okI (yX6_likely, cX6_likely, 11, some .int, 6, 3, false) := ⟨(nl_w4 207 rfl rfl), (nl_w1 12 rfl rfl), rfl, (fun h => nomatch h), fun _ => ⟨(nl_w4 205 rfl rfl), (nl_w4 206 rfl rfl)⟩⟩
set_option maxRecDepth 100000 in
theorem nl_i137 : nl_okI (yX6_tiredAll, cX6_tiredAll, 3, some .int, 6, 0, false) := ⟨(nl_w4 223 rfl rfl), (nl_w1 12 rfl rfl), rfl, (fun h => nomatch h), fun _ => ⟨(nl_w4 222 rfl rfl), (nl_w0 42 rfl rfl)⟩⟩
set_option maxRecDepth 100000 in
theorem nl_i138 : nl_okI (yX6_winter, cX6_winter, 12, some .int, 6, 3, false) := ⟨(nl_w4 215 rfl rfl), (nl_w1 12 rfl rfl), rfl, (fun h => nomatch h), fun _ => ⟨(nl_w4 213 rfl rfl), (nl_w4 214 rfl rfl)⟩⟩
set_option maxRecDepth 100000 in
theorem nl_i139 : nl_okI (yX6_keep, cX6_keep, 1, some .int, 6, 0, false) := ⟨(nl_w4 227 rfl rfl), (nl_w1 12 rfl rfl), rfl, (fun h => nomatch h), fun _ => ⟨(nl_w4 225 rfl rfl), (nl_w4 226 rfl rfl)⟩⟩
set_option maxRecDepth 100000 in
theorem nl_i140 : nl_okI (yX6_back, cX6_back, 1, some .int, 6, 0, false) := ⟨(nl_w4 231 rfl rfl), (nl_w1 12 rfl rfl), rfl, (fun h => nomatch h), fun _ => ⟨(nl_w4 229 rfl rfl), (nl_w4 230 rfl rfl)⟩⟩
set_option maxRecDepth 100000 in
theorem nl_i141 : nl_okI (yX6_count, cX6_count, 2, some .int, 6, 1, false) := ⟨(nl_w4 235 rfl rfl), (nl_w1 12 rfl rfl), rfl, (fun h => nomatch h), fun _ => ⟨(nl_w4 233 rfl rfl), (nl_w4 234 rfl rfl)⟩⟩
set_option maxRecDepth 100000 in
theorem nl_i142 : nl_okI (yJ6_bitCount_0f7a4, cJ6_bitCount_0f7a4, 1, some .int, 8, 1, true) := ⟨(nl_w2 227 rfl rfl), (nl_w1 13 rfl rfl), rfl, fun _ => (nl_w2 226 rfl rfl), (fun h => nomatch h)⟩
theorem nl_ic0 : ∀ e ∈ ([(yX0_choose, cX0_choose, 4, none, 0, 1, false), (yX0_weigh, cX0_weigh, 5, none, 0, 1, false), (yX0_leastOf, cX0_leastOf, 6, some .int, 0, 2, false), (yX0_priceWith, cX0_priceWith, 4, some .int, 0, 3, false), (yX0_dealOut, cX0_dealOut, 5, none, 0, 1, false), (yX0_lowestOfLeast, cX0_lowestOfLeast, 5, some .int, 0, 3, false), (yX0_fewestSwaps, cX0_fewestSwaps, 3, some .int, 0, 1, false), (yX0_canBridge, cX0_canBridge, 8, some .boolean, 0, 5, true), (yX0_exchange, cX0_exchange, 4, none, 0, 3, true), (yX1_read, cX1_read, 5, none, 1, 2, false), (yX1_canBeLaid, cX1_canBeLaid, 1, some .boolean, 1, 0, false), (yX1_readItem, cX1_readItem, 10, some .int, 1, 3, false), (yX1_readNumber, cX1_readNumber, 7, some .int, 1, 4, false), (yX1_addHour, cX1_addHour, 1, some .boolean, 1, 0, false), (yX1_addHouse, cX1_addHouse, 1, some .boolean, 1, 0, false), (yX2_clear, cX2_clear, 1, none, 2, 0, false)] : List nl_I), nl_okI e := List.forall_mem_cons.mpr ⟨nl_i0, List.forall_mem_cons.mpr ⟨nl_i1, List.forall_mem_cons.mpr ⟨nl_i2, List.forall_mem_cons.mpr ⟨nl_i3, List.forall_mem_cons.mpr ⟨nl_i4, List.forall_mem_cons.mpr ⟨nl_i5, List.forall_mem_cons.mpr ⟨nl_i6, List.forall_mem_cons.mpr ⟨nl_i7, List.forall_mem_cons.mpr ⟨nl_i8, List.forall_mem_cons.mpr ⟨nl_i9, List.forall_mem_cons.mpr ⟨nl_i10, List.forall_mem_cons.mpr ⟨nl_i11, List.forall_mem_cons.mpr ⟨nl_i12, List.forall_mem_cons.mpr ⟨nl_i13, List.forall_mem_cons.mpr ⟨nl_i14, List.forall_mem_cons.mpr ⟨nl_i15, fun _ h => absurd h List.not_mem_nil⟩⟩⟩⟩⟩⟩⟩⟩⟩⟩⟩⟩⟩⟩⟩⟩
theorem nl_ic1 : ∀ e ∈ ([(yX2_put, cX2_put, 2, none, 2, 1, false), (yX2_dropOldest, cX2_dropOldest, 3, none, 2, 0, false), (yX2_takeInto, cX2_takeInto, 2, some .boolean, 2, 1, false), (yX3_clear, cX3_clear, 1, none, 3, 0, false), (yX3_add, cX3_add, 4, none, 3, 3, false), (yX3_lastNight, cX3_lastNight, 3, some .int, 3, 0, false), (yX3_fit, cX3_fit, 4, some .boolean, 3, 2, false), (yX4_settle, cX4_settle, 3, none, 4, 1, false), (yX4_copyFrom, cX4_copyFrom, 3, none, 4, 1, false), (yX4_isHouse, cX4_isHouse, 2, some .boolean, 4, 1, false), (yX4_isHour, cX4_isHour, 2, some .boolean, 4, 1, false), (yX4_houseWith, cX4_houseWith, 3, some .int, 4, 1, false), (yX4_timesHad, cX4_timesHad, 3, some .int, 4, 2, false), (yX4_heaviness, cX4_heaviness, 4, some .int, 4, 2, false), (yX4_hourHadMost, cX4_hourHadMost, 6, some .int, 4, 1, false), (yX4_wouldKeep, cX4_wouldKeep, 4, some .boolean, 4, 3, false)] : List nl_I), nl_okI e := List.forall_mem_cons.mpr ⟨nl_i16, List.forall_mem_cons.mpr ⟨nl_i17, List.forall_mem_cons.mpr ⟨nl_i18, List.forall_mem_cons.mpr ⟨nl_i19, List.forall_mem_cons.mpr ⟨nl_i20, List.forall_mem_cons.mpr ⟨nl_i21, List.forall_mem_cons.mpr ⟨nl_i22, List.forall_mem_cons.mpr ⟨nl_i23, List.forall_mem_cons.mpr ⟨nl_i24, List.forall_mem_cons.mpr ⟨nl_i25, List.forall_mem_cons.mpr ⟨nl_i26, List.forall_mem_cons.mpr ⟨nl_i27, List.forall_mem_cons.mpr ⟨nl_i28, List.forall_mem_cons.mpr ⟨nl_i29, List.forall_mem_cons.mpr ⟨nl_i30, List.forall_mem_cons.mpr ⟨nl_i31, fun _ h => absurd h List.not_mem_nil⟩⟩⟩⟩⟩⟩⟩⟩⟩⟩⟩⟩⟩⟩⟩⟩
theorem nl_ic2 : ∀ e ∈ ([(yX4_isGapAt, cX4_isGapAt, 3, some .boolean, 4, 1, false), (yX4_seeThrough, cX4_seeThrough, 4, some .boolean, 4, 1, false), (yX4_letNightsPass, cX4_letNightsPass, 5, some .int, 4, 1, false), (yX4_trade, cX4_trade, 4, none, 4, 2, false), (yX4_giveRest, cX4_giveRest, 2, none, 4, 1, false), (yX4_setBurden, cX4_setBurden, 3, none, 4, 2, false), (yX4_tiredTogether, cX4_tiredTogether, 3, some .int, 4, 0, false), (yX4_handingOver, cX4_handingOver, 5, some .int, 4, 0, false), (yX4_lengthOfRoad, cX4_lengthOfRoad, 4, some .int, 4, 0, false), (yX4_stir, cX4_stir, 4, none, 4, 1, false), (yX5_write, cX5_write, 2, some .int, 5, 1, false), (yX5_wipe, cX5_wipe, 2, some .int, 5, 0, false), (yX5_fault, cX5_fault, 1, some .int, 5, 0, false), (yX5_lay, cX5_lay, 1, some .int, 5, 0, false), (yX5_house, cX5_house, 3, some .int, 5, 2, false), (yX5_hour, cX5_hour, 3, some .int, 5, 2, false)] : List nl_I), nl_okI e := List.forall_mem_cons.mpr ⟨nl_i32, List.forall_mem_cons.mpr ⟨nl_i33, List.forall_mem_cons.mpr ⟨nl_i34, List.forall_mem_cons.mpr ⟨nl_i35, List.forall_mem_cons.mpr ⟨nl_i36, List.forall_mem_cons.mpr ⟨nl_i37, List.forall_mem_cons.mpr ⟨nl_i38, List.forall_mem_cons.mpr ⟨nl_i39, List.forall_mem_cons.mpr ⟨nl_i40, List.forall_mem_cons.mpr ⟨nl_i41, List.forall_mem_cons.mpr ⟨nl_i42, List.forall_mem_cons.mpr ⟨nl_i43, List.forall_mem_cons.mpr ⟨nl_i44, List.forall_mem_cons.mpr ⟨nl_i45, List.forall_mem_cons.mpr ⟨nl_i46, List.forall_mem_cons.mpr ⟨nl_i47, fun _ h => absurd h List.not_mem_nil⟩⟩⟩⟩⟩⟩⟩⟩⟩⟩⟩⟩⟩⟩⟩⟩
theorem nl_ic3 : ∀ e ∈ ([(yX5_heavy, cX5_heavy, 3, some .int, 5, 2, false), (yX5_had, cX5_had, 3, some .int, 5, 2, false), (yX5_pass, cX5_pass, 2, some .int, 5, 1, false), (yX5_swap, cX5_swap, 3, some .int, 5, 2, false), (yX5_rest, cX5_rest, 2, some .int, 5, 1, false), (yX5_burden, cX5_burden, 4, some .int, 5, 2, false), (yX5_undo, cX5_undo, 1, some .int, 5, 0, false), (yX5_behind, cX5_behind, 4, some .int, 5, 3, false), (yX5_gaps, cX5_gaps, 3, some .int, 5, 0, false), (yX5_first, cX5_first, 3, some .int, 5, 1, false), (yX5_even, cX5_even, 2, some .int, 5, 1, false), (yX5_swaps, cX5_swaps, 1, some .int, 5, 0, false), (yX5_far, cX5_far, 2, some .int, 5, 1, false), (yX5_lamps, cX5_lamps, 5, some .int, 5, 2, false), (yX5_seen, cX5_seen, 4, some .int, 5, 3, false), (yX5_forget, cX5_forget, 2, some .int, 5, 0, false)] : List nl_I), nl_okI e := List.forall_mem_cons.mpr ⟨nl_i48, List.forall_mem_cons.mpr ⟨nl_i49, List.forall_mem_cons.mpr ⟨nl_i50, List.forall_mem_cons.mpr ⟨nl_i51, List.forall_mem_cons.mpr ⟨nl_i52, List.forall_mem_cons.mpr ⟨nl_i53, List.forall_mem_cons.mpr ⟨nl_i54, List.forall_mem_cons.mpr ⟨nl_i55, List.forall_mem_cons.mpr ⟨nl_i56, List.forall_mem_cons.mpr ⟨nl_i57, List.forall_mem_cons.mpr ⟨nl_i58, List.forall_mem_cons.mpr ⟨nl_i59, List.forall_mem_cons.mpr ⟨nl_i60, List.forall_mem_cons.mpr ⟨nl_i61, List.forall_mem_cons.mpr ⟨nl_i62, List.forall_mem_cons.mpr ⟨nl_i63, fun _ h => absurd h List.not_mem_nil⟩⟩⟩⟩⟩⟩⟩⟩⟩⟩⟩⟩⟩⟩⟩⟩
theorem nl_ic4 : ∀ e ∈ ([(yX5_kinds, cX5_kinds, 4, some .int, 5, 1, false), (yX5_strengths, cX5_strengths, 6, some .int, 5, 2, false), (yX5_likely, cX5_likely, 9, some .int, 5, 3, false), (yX5_winter, cX5_winter, 6, some .int, 5, 3, false), (yX5_keep, cX5_keep, 1, some .int, 5, 0, false), (yX5_back, cX5_back, 1, some .int, 5, 0, false), (yX5_count, cX5_count, 2, some .int, 5, 1, false), (yX5_isWithin, cX5_isWithin, 3, some .boolean, 5, 3, true), (yX5_largestDivisor, cX5_largestDivisor, 3, some .int, 5, 2, true), (yX5_drawFor, cX5_drawFor, 4, some .int, 5, 2, true), (yX5_nextMissAhead, cX5_nextMissAhead, 4, some .int, 5, 2, false), (yX5_fitsAllSeen, cX5_fitsAllSeen, 6, some .boolean, 5, 3, false), (yX6_in, cX6_in, 3, some .boolean, 6, 3, true), (yX6_has, cX6_has, 2, some .boolean, 6, 2, true), (yX6_bits, cX6_bits, 3, some .int, 6, 1, true), (yX6_lesser, cX6_lesser, 2, some .int, 6, 2, true)] : List nl_I), nl_okI e := List.forall_mem_cons.mpr ⟨nl_i64, List.forall_mem_cons.mpr ⟨nl_i65, List.forall_mem_cons.mpr ⟨nl_i66, List.forall_mem_cons.mpr ⟨nl_i67, List.forall_mem_cons.mpr ⟨nl_i68, List.forall_mem_cons.mpr ⟨nl_i69, List.forall_mem_cons.mpr ⟨nl_i70, List.forall_mem_cons.mpr ⟨nl_i71, List.forall_mem_cons.mpr ⟨nl_i72, List.forall_mem_cons.mpr ⟨nl_i73, List.forall_mem_cons.mpr ⟨nl_i74, List.forall_mem_cons.mpr ⟨nl_i75, List.forall_mem_cons.mpr ⟨nl_i76, List.forall_mem_cons.mpr ⟨nl_i77, List.forall_mem_cons.mpr ⟨nl_i78, List.forall_mem_cons.mpr ⟨nl_i79, fun _ h => absurd h List.not_mem_nil⟩⟩⟩⟩⟩⟩⟩⟩⟩⟩⟩⟩⟩⟩⟩⟩
theorem nl_ic5 : ∀ e ∈ ([(yX6_greater, cX6_greater, 2, some .int, 6, 2, true), (yX6_firstHouse, cX6_firstHouse, 5, none, 6, 4, false), (yX6_begin, cX6_begin, 2, none, 6, 0, false), (yX6_isOne, cX6_isOne, 2, some .boolean, 6, 1, false), (yX6_write, cX6_write, 2, some .int, 6, 1, false), (yX6_wipe, cX6_wipe, 2, some .int, 6, 0, false), (yX6_here, cX6_here, 1, some .int, 6, 0, false), (yX6_isFigure, cX6_isFigure, 1, some .boolean, 6, 0, false), (yX6_number, cX6_number, 5, some .boolean, 6, 3, false), (yX6_readsHour, cX6_readsHour, 1, some .boolean, 6, 0, false), (yX6_readsHouse, cX6_readsHouse, 2, some .boolean, 6, 0, false), (yX6_readsItem, cX6_readsItem, 2, some .boolean, 6, 0, false), (yX6_fault, cX6_fault, 2, some .int, 6, 0, false), (yX6_lay, cX6_lay, 2, some .int, 6, 0, false), (yX6_mostOften, cX6_mostOften, 6, some .int, 6, 1, false), (yX6_weight, cX6_weight, 4, some .int, 6, 2, false)] : List nl_I), nl_okI e := List.forall_mem_cons.mpr ⟨nl_i80, List.forall_mem_cons.mpr ⟨nl_i81, List.forall_mem_cons.mpr ⟨nl_i82, List.forall_mem_cons.mpr ⟨nl_i83, List.forall_mem_cons.mpr ⟨nl_i84, List.forall_mem_cons.mpr ⟨nl_i85, List.forall_mem_cons.mpr ⟨nl_i86, List.forall_mem_cons.mpr ⟨nl_i87, List.forall_mem_cons.mpr ⟨nl_i88, List.forall_mem_cons.mpr ⟨nl_i89, List.forall_mem_cons.mpr ⟨nl_i90, List.forall_mem_cons.mpr ⟨nl_i91, List.forall_mem_cons.mpr ⟨nl_i92, List.forall_mem_cons.mpr ⟨nl_i93, List.forall_mem_cons.mpr ⟨nl_i94, List.forall_mem_cons.mpr ⟨nl_i95, fun _ h => absurd h List.not_mem_nil⟩⟩⟩⟩⟩⟩⟩⟩⟩⟩⟩⟩⟩⟩⟩⟩
theorem nl_ic6 : ∀ e ∈ ([(yX6_keeps, cX6_keeps, 3, some .boolean, 6, 2, false), (yX6_gapSet, cX6_gapSet, 3, some .int, 6, 0, false), (yX6_passes, cX6_passes, 4, some .int, 6, 0, false), (yX6_goesOn, cX6_goesOn, 4, some .int, 6, 1, false), (yX6_house, cX6_house, 3, some .int, 6, 2, false), (yX6_whoHas, cX6_whoHas, 3, some .int, 6, 1, false), (yX6_hour, cX6_hour, 3, some .int, 6, 2, false), (yX6_heavy, cX6_heavy, 3, some .int, 6, 2, false), (yX6_had, cX6_had, 3, some .int, 6, 2, false), (yX6_lays, cX6_lays, 4, none, 6, 2, false), (yX6_takes, cX6_takes, 4, none, 6, 2, false), (yX6_notes, cX6_notes, 2, none, 6, 0, false), (yX6_pass, cX6_pass, 2, some .int, 6, 1, false), (yX6_trades, cX6_trades, 4, none, 6, 2, false), (yX6_swap, cX6_swap, 3, some .int, 6, 2, false), (yX6_rests, cX6_rests, 2, none, 6, 1, false)] : List nl_I), nl_okI e := List.forall_mem_cons.mpr ⟨nl_i96, List.forall_mem_cons.mpr ⟨nl_i97, List.forall_mem_cons.mpr ⟨nl_i98, List.forall_mem_cons.mpr ⟨nl_i99, List.forall_mem_cons.mpr ⟨nl_i100, List.forall_mem_cons.mpr ⟨nl_i101, List.forall_mem_cons.mpr ⟨nl_i102, List.forall_mem_cons.mpr ⟨nl_i103, List.forall_mem_cons.mpr ⟨nl_i104, List.forall_mem_cons.mpr ⟨nl_i105, List.forall_mem_cons.mpr ⟨nl_i106, List.forall_mem_cons.mpr ⟨nl_i107, List.forall_mem_cons.mpr ⟨nl_i108, List.forall_mem_cons.mpr ⟨nl_i109, List.forall_mem_cons.mpr ⟨nl_i110, List.forall_mem_cons.mpr ⟨nl_i111, fun _ h => absurd h List.not_mem_nil⟩⟩⟩⟩⟩⟩⟩⟩⟩⟩⟩⟩⟩⟩⟩⟩
theorem nl_ic7 : ∀ e ∈ ([(yX6_rest, cX6_rest, 2, some .int, 6, 1, false), (yX6_burden, cX6_burden, 4, some .int, 6, 2, false), (yX6_undo, cX6_undo, 1, some .int, 6, 0, false), (yX6_start, cX6_start, 1, none, 6, 0, false), (yX6_putBack, cX6_putBack, 1, none, 6, 0, false), (yX6_behind, cX6_behind, 5, some .int, 6, 3, false), (yX6_gaps, cX6_gaps, 1, some .int, 6, 0, false), (yX6_first, cX6_first, 5, some .int, 6, 1, false), (yX6_firstRow, cX6_firstRow, 2, none, 6, 0, false), (yX6_nextRow, cX6_nextRow, 7, some .boolean, 6, 0, false), (yX6_gapsBy, cX6_gapsBy, 3, some .int, 6, 0, false), (yX6_keptWeight, cX6_keptWeight, 3, some .int, 6, 0, false), (yX6_even, cX6_even, 8, some .int, 6, 1, false), (yX6_swapsTo, cX6_swapsTo, 5, some .int, 6, 0, false), (yX6_swaps, cX6_swaps, 3, some .int, 6, 0, false), (yX6_off, cX6_off, 2, some .int, 6, 2, true)] : List nl_I), nl_okI e := List.forall_mem_cons.mpr ⟨nl_i112, List.forall_mem_cons.mpr ⟨nl_i113, List.forall_mem_cons.mpr ⟨nl_i114, List.forall_mem_cons.mpr ⟨nl_i115, List.forall_mem_cons.mpr ⟨nl_i116, List.forall_mem_cons.mpr ⟨nl_i117, List.forall_mem_cons.mpr ⟨nl_i118, List.forall_mem_cons.mpr ⟨nl_i119, List.forall_mem_cons.mpr ⟨nl_i120, List.forall_mem_cons.mpr ⟨nl_i121, List.forall_mem_cons.mpr ⟨nl_i122, List.forall_mem_cons.mpr ⟨nl_i123, List.forall_mem_cons.mpr ⟨nl_i124, List.forall_mem_cons.mpr ⟨nl_i125, List.forall_mem_cons.mpr ⟨nl_i126, List.forall_mem_cons.mpr ⟨nl_i127, fun _ h => absurd h List.not_mem_nil⟩⟩⟩⟩⟩⟩⟩⟩⟩⟩⟩⟩⟩⟩⟩⟩
theorem nl_ic8 : ∀ e ∈ ([(yX6_far, cX6_far, 6, some .int, 6, 1, false), (yX6_lamps, cX6_lamps, 7, some .int, 6, 2, false), (yX6_seen, cX6_seen, 4, some .int, 6, 3, false), (yX6_forget, cX6_forget, 2, some .int, 6, 0, false), (yX6_isSo, cX6_isSo, 5, some .boolean, 6, 0, false), (yX6_kinds, cX6_kinds, 5, some .int, 6, 1, false), (yX6_strengths, cX6_strengths, 8, some .int, 6, 2, false), (yX6_common, cX6_common, 10, some .long, 6, 2, true), (yX6_likely, cX6_likely, 11, some .int, 6, 3, false), (yX6_tiredAll, cX6_tiredAll, 3, some .int, 6, 0, false), (yX6_winter, cX6_winter, 12, some .int, 6, 3, false), (yX6_keep, cX6_keep, 1, some .int, 6, 0, false), (yX6_back, cX6_back, 1, some .int, 6, 0, false), (yX6_count, cX6_count, 2, some .int, 6, 1, false), (yJ6_bitCount_0f7a4, cJ6_bitCount_0f7a4, 1, some .int, 8, 1, true)] : List nl_I), nl_okI e := List.forall_mem_cons.mpr ⟨nl_i128, List.forall_mem_cons.mpr ⟨nl_i129, List.forall_mem_cons.mpr ⟨nl_i130, List.forall_mem_cons.mpr ⟨nl_i131, List.forall_mem_cons.mpr ⟨nl_i132, List.forall_mem_cons.mpr ⟨nl_i133, List.forall_mem_cons.mpr ⟨nl_i134, List.forall_mem_cons.mpr ⟨nl_i135, List.forall_mem_cons.mpr ⟨nl_i136, List.forall_mem_cons.mpr ⟨nl_i137, List.forall_mem_cons.mpr ⟨nl_i138, List.forall_mem_cons.mpr ⟨nl_i139, List.forall_mem_cons.mpr ⟨nl_i140, List.forall_mem_cons.mpr ⟨nl_i141, List.forall_mem_cons.mpr ⟨nl_i142, fun _ h => absurd h List.not_mem_nil⟩⟩⟩⟩⟩⟩⟩⟩⟩⟩⟩⟩⟩⟩⟩
set_option maxRecDepth 100000 in
theorem nl_inf_eq : nl_inf = ([(yX0_choose, cX0_choose, 4, none, 0, 1, false), (yX0_weigh, cX0_weigh, 5, none, 0, 1, false), (yX0_leastOf, cX0_leastOf, 6, some .int, 0, 2, false), (yX0_priceWith, cX0_priceWith, 4, some .int, 0, 3, false), (yX0_dealOut, cX0_dealOut, 5, none, 0, 1, false), (yX0_lowestOfLeast, cX0_lowestOfLeast, 5, some .int, 0, 3, false), (yX0_fewestSwaps, cX0_fewestSwaps, 3, some .int, 0, 1, false), (yX0_canBridge, cX0_canBridge, 8, some .boolean, 0, 5, true), (yX0_exchange, cX0_exchange, 4, none, 0, 3, true), (yX1_read, cX1_read, 5, none, 1, 2, false), (yX1_canBeLaid, cX1_canBeLaid, 1, some .boolean, 1, 0, false), (yX1_readItem, cX1_readItem, 10, some .int, 1, 3, false), (yX1_readNumber, cX1_readNumber, 7, some .int, 1, 4, false), (yX1_addHour, cX1_addHour, 1, some .boolean, 1, 0, false), (yX1_addHouse, cX1_addHouse, 1, some .boolean, 1, 0, false), (yX2_clear, cX2_clear, 1, none, 2, 0, false)] : List nl_I) ++ (([(yX2_put, cX2_put, 2, none, 2, 1, false), (yX2_dropOldest, cX2_dropOldest, 3, none, 2, 0, false), (yX2_takeInto, cX2_takeInto, 2, some .boolean, 2, 1, false), (yX3_clear, cX3_clear, 1, none, 3, 0, false), (yX3_add, cX3_add, 4, none, 3, 3, false), (yX3_lastNight, cX3_lastNight, 3, some .int, 3, 0, false), (yX3_fit, cX3_fit, 4, some .boolean, 3, 2, false), (yX4_settle, cX4_settle, 3, none, 4, 1, false), (yX4_copyFrom, cX4_copyFrom, 3, none, 4, 1, false), (yX4_isHouse, cX4_isHouse, 2, some .boolean, 4, 1, false), (yX4_isHour, cX4_isHour, 2, some .boolean, 4, 1, false), (yX4_houseWith, cX4_houseWith, 3, some .int, 4, 1, false), (yX4_timesHad, cX4_timesHad, 3, some .int, 4, 2, false), (yX4_heaviness, cX4_heaviness, 4, some .int, 4, 2, false), (yX4_hourHadMost, cX4_hourHadMost, 6, some .int, 4, 1, false), (yX4_wouldKeep, cX4_wouldKeep, 4, some .boolean, 4, 3, false)] : List nl_I) ++ (([(yX4_isGapAt, cX4_isGapAt, 3, some .boolean, 4, 1, false), (yX4_seeThrough, cX4_seeThrough, 4, some .boolean, 4, 1, false), (yX4_letNightsPass, cX4_letNightsPass, 5, some .int, 4, 1, false), (yX4_trade, cX4_trade, 4, none, 4, 2, false), (yX4_giveRest, cX4_giveRest, 2, none, 4, 1, false), (yX4_setBurden, cX4_setBurden, 3, none, 4, 2, false), (yX4_tiredTogether, cX4_tiredTogether, 3, some .int, 4, 0, false), (yX4_handingOver, cX4_handingOver, 5, some .int, 4, 0, false), (yX4_lengthOfRoad, cX4_lengthOfRoad, 4, some .int, 4, 0, false), (yX4_stir, cX4_stir, 4, none, 4, 1, false), (yX5_write, cX5_write, 2, some .int, 5, 1, false), (yX5_wipe, cX5_wipe, 2, some .int, 5, 0, false), (yX5_fault, cX5_fault, 1, some .int, 5, 0, false), (yX5_lay, cX5_lay, 1, some .int, 5, 0, false), (yX5_house, cX5_house, 3, some .int, 5, 2, false), (yX5_hour, cX5_hour, 3, some .int, 5, 2, false)] : List nl_I) ++ (([(yX5_heavy, cX5_heavy, 3, some .int, 5, 2, false), (yX5_had, cX5_had, 3, some .int, 5, 2, false), (yX5_pass, cX5_pass, 2, some .int, 5, 1, false), (yX5_swap, cX5_swap, 3, some .int, 5, 2, false), (yX5_rest, cX5_rest, 2, some .int, 5, 1, false), (yX5_burden, cX5_burden, 4, some .int, 5, 2, false), (yX5_undo, cX5_undo, 1, some .int, 5, 0, false), (yX5_behind, cX5_behind, 4, some .int, 5, 3, false), (yX5_gaps, cX5_gaps, 3, some .int, 5, 0, false), (yX5_first, cX5_first, 3, some .int, 5, 1, false), (yX5_even, cX5_even, 2, some .int, 5, 1, false), (yX5_swaps, cX5_swaps, 1, some .int, 5, 0, false), (yX5_far, cX5_far, 2, some .int, 5, 1, false), (yX5_lamps, cX5_lamps, 5, some .int, 5, 2, false), (yX5_seen, cX5_seen, 4, some .int, 5, 3, false), (yX5_forget, cX5_forget, 2, some .int, 5, 0, false)] : List nl_I) ++ (([(yX5_kinds, cX5_kinds, 4, some .int, 5, 1, false), (yX5_strengths, cX5_strengths, 6, some .int, 5, 2, false), (yX5_likely, cX5_likely, 9, some .int, 5, 3, false), (yX5_winter, cX5_winter, 6, some .int, 5, 3, false), (yX5_keep, cX5_keep, 1, some .int, 5, 0, false), (yX5_back, cX5_back, 1, some .int, 5, 0, false), (yX5_count, cX5_count, 2, some .int, 5, 1, false), (yX5_isWithin, cX5_isWithin, 3, some .boolean, 5, 3, true), (yX5_largestDivisor, cX5_largestDivisor, 3, some .int, 5, 2, true), (yX5_drawFor, cX5_drawFor, 4, some .int, 5, 2, true), (yX5_nextMissAhead, cX5_nextMissAhead, 4, some .int, 5, 2, false), (yX5_fitsAllSeen, cX5_fitsAllSeen, 6, some .boolean, 5, 3, false), (yX6_in, cX6_in, 3, some .boolean, 6, 3, true), (yX6_has, cX6_has, 2, some .boolean, 6, 2, true), (yX6_bits, cX6_bits, 3, some .int, 6, 1, true), (yX6_lesser, cX6_lesser, 2, some .int, 6, 2, true)] : List nl_I) ++ (([(yX6_greater, cX6_greater, 2, some .int, 6, 2, true), (yX6_firstHouse, cX6_firstHouse, 5, none, 6, 4, false), (yX6_begin, cX6_begin, 2, none, 6, 0, false), (yX6_isOne, cX6_isOne, 2, some .boolean, 6, 1, false), (yX6_write, cX6_write, 2, some .int, 6, 1, false), (yX6_wipe, cX6_wipe, 2, some .int, 6, 0, false), (yX6_here, cX6_here, 1, some .int, 6, 0, false), (yX6_isFigure, cX6_isFigure, 1, some .boolean, 6, 0, false), (yX6_number, cX6_number, 5, some .boolean, 6, 3, false), (yX6_readsHour, cX6_readsHour, 1, some .boolean, 6, 0, false), (yX6_readsHouse, cX6_readsHouse, 2, some .boolean, 6, 0, false), (yX6_readsItem, cX6_readsItem, 2, some .boolean, 6, 0, false), (yX6_fault, cX6_fault, 2, some .int, 6, 0, false), (yX6_lay, cX6_lay, 2, some .int, 6, 0, false), (yX6_mostOften, cX6_mostOften, 6, some .int, 6, 1, false), (yX6_weight, cX6_weight, 4, some .int, 6, 2, false)] : List nl_I) ++ (([(yX6_keeps, cX6_keeps, 3, some .boolean, 6, 2, false), (yX6_gapSet, cX6_gapSet, 3, some .int, 6, 0, false), (yX6_passes, cX6_passes, 4, some .int, 6, 0, false), (yX6_goesOn, cX6_goesOn, 4, some .int, 6, 1, false), (yX6_house, cX6_house, 3, some .int, 6, 2, false), (yX6_whoHas, cX6_whoHas, 3, some .int, 6, 1, false), (yX6_hour, cX6_hour, 3, some .int, 6, 2, false), (yX6_heavy, cX6_heavy, 3, some .int, 6, 2, false), (yX6_had, cX6_had, 3, some .int, 6, 2, false), (yX6_lays, cX6_lays, 4, none, 6, 2, false), (yX6_takes, cX6_takes, 4, none, 6, 2, false), (yX6_notes, cX6_notes, 2, none, 6, 0, false), (yX6_pass, cX6_pass, 2, some .int, 6, 1, false), (yX6_trades, cX6_trades, 4, none, 6, 2, false), (yX6_swap, cX6_swap, 3, some .int, 6, 2, false), (yX6_rests, cX6_rests, 2, none, 6, 1, false)] : List nl_I) ++ (([(yX6_rest, cX6_rest, 2, some .int, 6, 1, false), (yX6_burden, cX6_burden, 4, some .int, 6, 2, false), (yX6_undo, cX6_undo, 1, some .int, 6, 0, false), (yX6_start, cX6_start, 1, none, 6, 0, false), (yX6_putBack, cX6_putBack, 1, none, 6, 0, false), (yX6_behind, cX6_behind, 5, some .int, 6, 3, false), (yX6_gaps, cX6_gaps, 1, some .int, 6, 0, false), (yX6_first, cX6_first, 5, some .int, 6, 1, false), (yX6_firstRow, cX6_firstRow, 2, none, 6, 0, false), (yX6_nextRow, cX6_nextRow, 7, some .boolean, 6, 0, false), (yX6_gapsBy, cX6_gapsBy, 3, some .int, 6, 0, false), (yX6_keptWeight, cX6_keptWeight, 3, some .int, 6, 0, false), (yX6_even, cX6_even, 8, some .int, 6, 1, false), (yX6_swapsTo, cX6_swapsTo, 5, some .int, 6, 0, false), (yX6_swaps, cX6_swaps, 3, some .int, 6, 0, false), (yX6_off, cX6_off, 2, some .int, 6, 2, true)] : List nl_I) ++ (([(yX6_far, cX6_far, 6, some .int, 6, 1, false), (yX6_lamps, cX6_lamps, 7, some .int, 6, 2, false), (yX6_seen, cX6_seen, 4, some .int, 6, 3, false), (yX6_forget, cX6_forget, 2, some .int, 6, 0, false), (yX6_isSo, cX6_isSo, 5, some .boolean, 6, 0, false), (yX6_kinds, cX6_kinds, 5, some .int, 6, 1, false), (yX6_strengths, cX6_strengths, 8, some .int, 6, 2, false), (yX6_common, cX6_common, 10, some .long, 6, 2, true), (yX6_likely, cX6_likely, 11, some .int, 6, 3, false), (yX6_tiredAll, cX6_tiredAll, 3, some .int, 6, 0, false), (yX6_winter, cX6_winter, 12, some .int, 6, 3, false), (yX6_keep, cX6_keep, 1, some .int, 6, 0, false), (yX6_back, cX6_back, 1, some .int, 6, 0, false), (yX6_count, cX6_count, 2, some .int, 6, 1, false), (yJ6_bitCount_0f7a4, cJ6_bitCount_0f7a4, 1, some .int, 8, 1, true)] : List nl_I))))))))) := rfl
theorem nl_inf_ok : ∀ e ∈ nl_inf, nl_okI e := by
  rw [nl_inf_eq]
  exact List.forall_mem_append.mpr ⟨nl_ic0, List.forall_mem_append.mpr ⟨nl_ic1, List.forall_mem_append.mpr ⟨nl_ic2, List.forall_mem_append.mpr ⟨nl_ic3, List.forall_mem_append.mpr ⟨nl_ic4, List.forall_mem_append.mpr ⟨nl_ic5, List.forall_mem_append.mpr ⟨nl_ic6, List.forall_mem_append.mpr ⟨nl_ic7, nl_ic8⟩⟩⟩⟩⟩⟩⟩⟩
def nl_FL : List (Nat × Nat × Nat × Nat) := [(0, 11, 0, 0), (0, 15, 0, 1), (0, 18, 0, 2), (0, 21, 0, 3), (0, 24, 0, 4), (0, 27, 0, 5), (0, 35, 4, 0), (0, 48, 4, 7), (0, 76, 4, 8), (1, 9, 1, 0), (1, 15, 1, 1), (1, 18, 1, 2), (1, 21, 1, 3), (1, 24, 1, 4), (1, 27, 1, 5), (1, 31, 1, 6), (1, 34, 1, 7), (2, 7, 2, 1), (2, 21, 2, 0), (3, 9, 3, 0), (3, 15, 3, 1), (3, 18, 3, 2), (3, 22, 3, 3), (4, 9, 4, 0), (4, 15, 4, 1), (4, 18, 4, 2), (4, 21, 4, 3), (4, 25, 4, 4), (4, 28, 4, 5), (4, 31, 4, 6), (4, 34, 4, 7), (4, 37, 4, 8), (4, 40, 4, 9), (4, 43, 4, 10), (4, 46, 1, 6), (4, 55, 1, 0), (4, 56, 1, 1), (4, 57, 1, 2), (4, 58, 1, 3), (5, 9, 5, 0), (5, 13, 5, 1), (5, 20, 5, 2), (5, 27, 5, 3), (5, 31, 5, 4), (5, 39, 5, 5), (5, 43, 5, 6), (5, 49, 5, 7), (5, 56, 5, 8), (5, 90, 1, 7), (5, 105, 4, 0), (5, 112, 4, 4), (5, 115, 4, 5), (5, 118, 4, 6), (5, 121, 4, 7), (5, 124, 4, 8), (5, 127, 4, 9), (5, 133, 4, 3), (5, 146, 4, 1), (5, 170, 2, 1), (5, 185, 0, 5), (5, 188, 0, 2), (5, 206, 3, 3), (5, 234, 4, 2), (6, 9, 6, 1), (6, 13, 6, 2), (6, 16, 6, 3), (6, 19, 6, 6), (6, 22, 6, 7), (6, 25, 6, 8), (6, 28, 6, 9), (6, 31, 6, 10), (6, 34, 6, 12), (6, 37, 6, 13), (6, 40, 6, 14), (6, 43, 6, 15), (6, 46, 6, 20), (6, 49, 6, 21), (6, 52, 6, 23), (6, 55, 6, 25), (6, 58, 6, 26), (6, 61, 6, 27), (6, 64, 6, 28), (6, 74, 6, 0), (6, 78, 6, 4), (6, 81, 6, 5), (6, 88, 6, 16), (6, 91, 6, 17), (6, 102, 6, 22), (6, 105, 6, 18), (6, 111, 6, 19), (6, 126, 6, 11), (6, 129, 6, 24), (6, 132, 6, 29)]
def nl_okFL (e : Nat × Nat × Nat × Nat) : Prop := Cond.fieldLink (nl_R e.1) e.2.1 (nl_R e.2.2.1) (nl_T e.2.2.1 e.2.2.2).2.1 (nl_T e.2.2.1 e.2.2.2).2.2.1 ∈ nl_WL
set_option maxRecDepth 100000 in
theorem nl_FL_0 : nl_okFL (0, 11, 0, 0) := (nl_w1 160 rfl rfl)
set_option maxRecDepth 100000 in
theorem nl_FL_1 : nl_okFL (0, 15, 0, 1) := (nl_w1 161 rfl rfl)
set_option maxRecDepth 100000 in
theorem nl_FL_2 : nl_okFL (0, 18, 0, 2) := (nl_w1 162 rfl rfl)
set_option maxRecDepth 100000 in
theorem nl_FL_3 : nl_okFL (0, 21, 0, 3) := (nl_w1 164 rfl rfl)
set_option maxRecDepth 100000 in
theorem nl_FL_4 : nl_okFL (0, 24, 0, 4) := (nl_w1 165 rfl rfl)
set_option maxRecDepth 100000 in
theorem nl_FL_5 : nl_okFL (0, 27, 0, 5) := (nl_w1 166 rfl rfl)
set_option maxRecDepth 100000 in
theorem nl_FL_6 : nl_okFL (0, 35, 4, 0) := (nl_w1 67 rfl rfl)
set_option maxRecDepth 100000 in
theorem nl_FL_7 : nl_okFL (0, 48, 4, 7) := (nl_w1 82 rfl rfl)
set_option maxRecDepth 100000 in
theorem nl_FL_8 : nl_okFL (0, 76, 4, 8) := (nl_w1 86 rfl rfl)
set_option maxRecDepth 100000 in
theorem nl_FL_9 : nl_okFL (1, 9, 1, 0) := (nl_w1 28 rfl rfl)
set_option maxRecDepth 100000 in
theorem nl_FL_10 : nl_okFL (1, 15, 1, 1) := (nl_w1 30 rfl rfl)
set_option maxRecDepth 100000 in
theorem nl_FL_11 : nl_okFL (1, 18, 1, 2) := (nl_w1 32 rfl rfl)
set_option maxRecDepth 100000 in
theorem nl_FL_12 : nl_okFL (1, 21, 1, 3) := (nl_w1 34 rfl rfl)
set_option maxRecDepth 100000 in
theorem nl_FL_13 : nl_okFL (1, 24, 1, 4) := (nl_w1 36 rfl rfl)
set_option maxRecDepth 100000 in
theorem nl_FL_14 : nl_okFL (1, 27, 1, 5) := (nl_w1 37 rfl rfl)
set_option maxRecDepth 100000 in
theorem nl_FL_15 : nl_okFL (1, 31, 1, 6) := (nl_w1 38 rfl rfl)
set_option maxRecDepth 100000 in
theorem nl_FL_16 : nl_okFL (1, 34, 1, 7) := (nl_w1 40 rfl rfl)
set_option maxRecDepth 100000 in
theorem nl_FL_17 : nl_okFL (2, 7, 2, 1) := (nl_w1 126 rfl rfl)
set_option maxRecDepth 100000 in
theorem nl_FL_18 : nl_okFL (2, 21, 2, 0) := (nl_w1 125 rfl rfl)
set_option maxRecDepth 100000 in
theorem nl_FL_19 : nl_okFL (3, 9, 3, 0) := (nl_w1 139 rfl rfl)
set_option maxRecDepth 100000 in
theorem nl_FL_20 : nl_okFL (3, 15, 3, 1) := (nl_w1 140 rfl rfl)
set_option maxRecDepth 100000 in
theorem nl_FL_21 : nl_okFL (3, 18, 3, 2) := (nl_w1 141 rfl rfl)
set_option maxRecDepth 100000 in
theorem nl_FL_22 : nl_okFL (3, 22, 3, 3) := (nl_w1 142 rfl rfl)
set_option maxRecDepth 100000 in
theorem nl_FL_23 : nl_okFL (4, 9, 4, 0) := (nl_w1 66 rfl rfl)
set_option maxRecDepth 100000 in
theorem nl_FL_24 : nl_okFL (4, 15, 4, 1) := (nl_w1 69 rfl rfl)
set_option maxRecDepth 100000 in
theorem nl_FL_25 : nl_okFL (4, 18, 4, 2) := (nl_w1 71 rfl rfl)
set_option maxRecDepth 100000 in
theorem nl_FL_26 : nl_okFL (4, 21, 4, 3) := (nl_w1 73 rfl rfl)
set_option maxRecDepth 100000 in
theorem nl_FL_27 : nl_okFL (4, 25, 4, 4) := (nl_w1 75 rfl rfl)
set_option maxRecDepth 100000 in
theorem nl_FL_28 : nl_okFL (4, 28, 4, 5) := (nl_w1 77 rfl rfl)
set_option maxRecDepth 100000 in
theorem nl_FL_29 : nl_okFL (4, 31, 4, 6) := (nl_w1 79 rfl rfl)
set_option maxRecDepth 100000 in
theorem nl_FL_30 : nl_okFL (4, 34, 4, 7) := (nl_w1 81 rfl rfl)
set_option maxRecDepth 100000 in
theorem nl_FL_31 : nl_okFL (4, 37, 4, 8) := (nl_w1 84 rfl rfl)
set_option maxRecDepth 100000 in
theorem nl_FL_32 : nl_okFL (4, 40, 4, 9) := (nl_w1 87 rfl rfl)
set_option maxRecDepth 100000 in
theorem nl_FL_33 : nl_okFL (4, 43, 4, 10) := (nl_w1 89 rfl rfl)
set_option maxRecDepth 100000 in
theorem nl_FL_34 : nl_okFL (4, 46, 1, 6) := (nl_w1 39 rfl rfl)
set_option maxRecDepth 100000 in
theorem nl_FL_35 : nl_okFL (4, 55, 1, 0) := (nl_w1 29 rfl rfl)
set_option maxRecDepth 100000 in
theorem nl_FL_36 : nl_okFL (4, 56, 1, 1) := (nl_w1 31 rfl rfl)
set_option maxRecDepth 100000 in
theorem nl_FL_37 : nl_okFL (4, 57, 1, 2) := (nl_w1 33 rfl rfl)
set_option maxRecDepth 100000 in
theorem nl_FL_38 : nl_okFL (4, 58, 1, 3) := (nl_w1 35 rfl rfl)
set_option maxRecDepth 100000 in
theorem nl_FL_39 : nl_okFL (5, 9, 5, 0) := (nl_w2 45 rfl rfl)
set_option maxRecDepth 100000 in
theorem nl_FL_40 : nl_okFL (5, 13, 5, 1) := (nl_w2 46 rfl rfl)
set_option maxRecDepth 100000 in
theorem nl_FL_41 : nl_okFL (5, 20, 5, 2) := (nl_w2 47 rfl rfl)
set_option maxRecDepth 100000 in
theorem nl_FL_42 : nl_okFL (5, 27, 5, 3) := (nl_w2 48 rfl rfl)
set_option maxRecDepth 100000 in
theorem nl_FL_43 : nl_okFL (5, 31, 5, 4) := (nl_w2 49 rfl rfl)
set_option maxRecDepth 100000 in
theorem nl_FL_44 : nl_okFL (5, 39, 5, 5) := (nl_w2 50 rfl rfl)
set_option maxRecDepth 100000 in
theorem nl_FL_45 : nl_okFL (5, 43, 5, 6) := (nl_w2 51 rfl rfl)
set_option maxRecDepth 100000 in
theorem nl_FL_46 : nl_okFL (5, 49, 5, 7) := (nl_w2 52 rfl rfl)
set_option maxRecDepth 100000 in
theorem nl_FL_47 : nl_okFL (5, 56, 5, 8) := (nl_w2 53 rfl rfl)
set_option maxRecDepth 100000 in
theorem nl_FL_48 : nl_okFL (5, 90, 1, 7) := (nl_w1 41 rfl rfl)
set_option maxRecDepth 100000 in
theorem nl_FL_49 : nl_okFL (5, 105, 4, 0) := (nl_w1 68 rfl rfl)
set_option maxRecDepth 100000 in
theorem nl_FL_50 : nl_okFL (5, 112, 4, 4) := (nl_w1 76 rfl rfl)
set_option maxRecDepth 100000 in
theorem nl_FL_51 : nl_okFL (5, 115, 4, 5) := (nl_w1 78 rfl rfl)
set_option maxRecDepth 100000 in
theorem nl_FL_52 : nl_okFL (5, 118, 4, 6) := (nl_w1 80 rfl rfl)
set_option maxRecDepth 100000 in
theorem nl_FL_53 : nl_okFL (5, 121, 4, 7) := (nl_w1 83 rfl rfl)
set_option maxRecDepth 100000 in
theorem nl_FL_54 : nl_okFL (5, 124, 4, 8) := (nl_w1 85 rfl rfl)
set_option maxRecDepth 100000 in
theorem nl_FL_55 : nl_okFL (5, 127, 4, 9) := (nl_w1 88 rfl rfl)
set_option maxRecDepth 100000 in
theorem nl_FL_56 : nl_okFL (5, 133, 4, 3) := (nl_w1 74 rfl rfl)
set_option maxRecDepth 100000 in
theorem nl_FL_57 : nl_okFL (5, 146, 4, 1) := (nl_w1 70 rfl rfl)
set_option maxRecDepth 100000 in
theorem nl_FL_58 : nl_okFL (5, 170, 2, 1) := (nl_w1 127 rfl rfl)
set_option maxRecDepth 100000 in
theorem nl_FL_59 : nl_okFL (5, 185, 0, 5) := (nl_w1 167 rfl rfl)
set_option maxRecDepth 100000 in
theorem nl_FL_60 : nl_okFL (5, 188, 0, 2) := (nl_w1 163 rfl rfl)
set_option maxRecDepth 100000 in
theorem nl_FL_61 : nl_okFL (5, 206, 3, 3) := (nl_w1 143 rfl rfl)
set_option maxRecDepth 100000 in
theorem nl_FL_62 : nl_okFL (5, 234, 4, 2) := (nl_w1 72 rfl rfl)
set_option maxRecDepth 100000 in
theorem nl_FL_63 : nl_okFL (6, 9, 6, 1) := (nl_w3 130 rfl rfl)
set_option maxRecDepth 100000 in
theorem nl_FL_64 : nl_okFL (6, 13, 6, 2) := (nl_w3 131 rfl rfl)
set_option maxRecDepth 100000 in
theorem nl_FL_65 : nl_okFL (6, 16, 6, 3) := (nl_w3 132 rfl rfl)
set_option maxRecDepth 100000 in
theorem nl_FL_66 : nl_okFL (6, 19, 6, 6) := (nl_w3 135 rfl rfl)
set_option maxRecDepth 100000 in
theorem nl_FL_67 : nl_okFL (6, 22, 6, 7) := (nl_w3 136 rfl rfl)
set_option maxRecDepth 100000 in
theorem nl_FL_68 : nl_okFL (6, 25, 6, 8) := (nl_w3 137 rfl rfl)
set_option maxRecDepth 100000 in
theorem nl_FL_69 : nl_okFL (6, 28, 6, 9) := (nl_w3 138 rfl rfl)
set_option maxRecDepth 100000 in
theorem nl_FL_70 : nl_okFL (6, 31, 6, 10) := (nl_w3 139 rfl rfl)
set_option maxRecDepth 100000 in
theorem nl_FL_71 : nl_okFL (6, 34, 6, 12) := (nl_w3 141 rfl rfl)
set_option maxRecDepth 100000 in
theorem nl_FL_72 : nl_okFL (6, 37, 6, 13) := (nl_w3 142 rfl rfl)
set_option maxRecDepth 100000 in
theorem nl_FL_73 : nl_okFL (6, 40, 6, 14) := (nl_w3 143 rfl rfl)
set_option maxRecDepth 100000 in
theorem nl_FL_74 : nl_okFL (6, 43, 6, 15) := (nl_w3 144 rfl rfl)
set_option maxRecDepth 100000 in
theorem nl_FL_75 : nl_okFL (6, 46, 6, 20) := (nl_w3 149 rfl rfl)
set_option maxRecDepth 100000 in
theorem nl_FL_76 : nl_okFL (6, 49, 6, 21) := (nl_w3 150 rfl rfl)
set_option maxRecDepth 100000 in
theorem nl_FL_77 : nl_okFL (6, 52, 6, 23) := (nl_w3 152 rfl rfl)
set_option maxRecDepth 100000 in
theorem nl_FL_78 : nl_okFL (6, 55, 6, 25) := (nl_w3 154 rfl rfl)
set_option maxRecDepth 100000 in
theorem nl_FL_79 : nl_okFL (6, 58, 6, 26) := (nl_w3 155 rfl rfl)
set_option maxRecDepth 100000 in
theorem nl_FL_80 : nl_okFL (6, 61, 6, 27) := (nl_w3 156 rfl rfl)
set_option maxRecDepth 100000 in
theorem nl_FL_81 : nl_okFL (6, 64, 6, 28) := (nl_w3 157 rfl rfl)
set_option maxRecDepth 100000 in
theorem nl_FL_82 : nl_okFL (6, 74, 6, 0) := (nl_w3 129 rfl rfl)
set_option maxRecDepth 100000 in
theorem nl_FL_83 : nl_okFL (6, 78, 6, 4) := (nl_w3 133 rfl rfl)
set_option maxRecDepth 100000 in
theorem nl_FL_84 : nl_okFL (6, 81, 6, 5) := (nl_w3 134 rfl rfl)
set_option maxRecDepth 100000 in
theorem nl_FL_85 : nl_okFL (6, 88, 6, 16) := (nl_w3 145 rfl rfl)
set_option maxRecDepth 100000 in
theorem nl_FL_86 : nl_okFL (6, 91, 6, 17) := (nl_w3 146 rfl rfl)
set_option maxRecDepth 100000 in
theorem nl_FL_87 : nl_okFL (6, 102, 6, 22) := (nl_w3 151 rfl rfl)
set_option maxRecDepth 100000 in
theorem nl_FL_88 : nl_okFL (6, 105, 6, 18) := (nl_w3 147 rfl rfl)
set_option maxRecDepth 100000 in
theorem nl_FL_89 : nl_okFL (6, 111, 6, 19) := (nl_w3 148 rfl rfl)
set_option maxRecDepth 100000 in
theorem nl_FL_90 : nl_okFL (6, 126, 6, 11) := (nl_w3 140 rfl rfl)
set_option maxRecDepth 100000 in
theorem nl_FL_91 : nl_okFL (6, 129, 6, 24) := (nl_w3 153 rfl rfl)
set_option maxRecDepth 100000 in
theorem nl_FL_92 : nl_okFL (6, 132, 6, 29) := (nl_w3 158 rfl rfl)
theorem nl_FLc0 : ∀ e ∈ ([(0, 11, 0, 0), (0, 15, 0, 1), (0, 18, 0, 2), (0, 21, 0, 3), (0, 24, 0, 4), (0, 27, 0, 5), (0, 35, 4, 0), (0, 48, 4, 7), (0, 76, 4, 8), (1, 9, 1, 0), (1, 15, 1, 1), (1, 18, 1, 2), (1, 21, 1, 3), (1, 24, 1, 4), (1, 27, 1, 5), (1, 31, 1, 6), (1, 34, 1, 7), (2, 7, 2, 1), (2, 21, 2, 0), (3, 9, 3, 0)] : List (Nat × Nat × Nat × Nat)), nl_okFL e := List.forall_mem_cons.mpr ⟨nl_FL_0, List.forall_mem_cons.mpr ⟨nl_FL_1, List.forall_mem_cons.mpr ⟨nl_FL_2, List.forall_mem_cons.mpr ⟨nl_FL_3, List.forall_mem_cons.mpr ⟨nl_FL_4, List.forall_mem_cons.mpr ⟨nl_FL_5, List.forall_mem_cons.mpr ⟨nl_FL_6, List.forall_mem_cons.mpr ⟨nl_FL_7, List.forall_mem_cons.mpr ⟨nl_FL_8, List.forall_mem_cons.mpr ⟨nl_FL_9, List.forall_mem_cons.mpr ⟨nl_FL_10, List.forall_mem_cons.mpr ⟨nl_FL_11, List.forall_mem_cons.mpr ⟨nl_FL_12, List.forall_mem_cons.mpr ⟨nl_FL_13, List.forall_mem_cons.mpr ⟨nl_FL_14, List.forall_mem_cons.mpr ⟨nl_FL_15, List.forall_mem_cons.mpr ⟨nl_FL_16, List.forall_mem_cons.mpr ⟨nl_FL_17, List.forall_mem_cons.mpr ⟨nl_FL_18, List.forall_mem_cons.mpr ⟨nl_FL_19, fun _ h => absurd h List.not_mem_nil⟩⟩⟩⟩⟩⟩⟩⟩⟩⟩⟩⟩⟩⟩⟩⟩⟩⟩⟩⟩
theorem nl_FLc1 : ∀ e ∈ ([(3, 15, 3, 1), (3, 18, 3, 2), (3, 22, 3, 3), (4, 9, 4, 0), (4, 15, 4, 1), (4, 18, 4, 2), (4, 21, 4, 3), (4, 25, 4, 4), (4, 28, 4, 5), (4, 31, 4, 6), (4, 34, 4, 7), (4, 37, 4, 8), (4, 40, 4, 9), (4, 43, 4, 10), (4, 46, 1, 6), (4, 55, 1, 0), (4, 56, 1, 1), (4, 57, 1, 2), (4, 58, 1, 3), (5, 9, 5, 0)] : List (Nat × Nat × Nat × Nat)), nl_okFL e := List.forall_mem_cons.mpr ⟨nl_FL_20, List.forall_mem_cons.mpr ⟨nl_FL_21, List.forall_mem_cons.mpr ⟨nl_FL_22, List.forall_mem_cons.mpr ⟨nl_FL_23, List.forall_mem_cons.mpr ⟨nl_FL_24, List.forall_mem_cons.mpr ⟨nl_FL_25, List.forall_mem_cons.mpr ⟨nl_FL_26, List.forall_mem_cons.mpr ⟨nl_FL_27, List.forall_mem_cons.mpr ⟨nl_FL_28, List.forall_mem_cons.mpr ⟨nl_FL_29, List.forall_mem_cons.mpr ⟨nl_FL_30, List.forall_mem_cons.mpr ⟨nl_FL_31, List.forall_mem_cons.mpr ⟨nl_FL_32, List.forall_mem_cons.mpr ⟨nl_FL_33, List.forall_mem_cons.mpr ⟨nl_FL_34, List.forall_mem_cons.mpr ⟨nl_FL_35, List.forall_mem_cons.mpr ⟨nl_FL_36, List.forall_mem_cons.mpr ⟨nl_FL_37, List.forall_mem_cons.mpr ⟨nl_FL_38, List.forall_mem_cons.mpr ⟨nl_FL_39, fun _ h => absurd h List.not_mem_nil⟩⟩⟩⟩⟩⟩⟩⟩⟩⟩⟩⟩⟩⟩⟩⟩⟩⟩⟩⟩
theorem nl_FLc2 : ∀ e ∈ ([(5, 13, 5, 1), (5, 20, 5, 2), (5, 27, 5, 3), (5, 31, 5, 4), (5, 39, 5, 5), (5, 43, 5, 6), (5, 49, 5, 7), (5, 56, 5, 8), (5, 90, 1, 7), (5, 105, 4, 0), (5, 112, 4, 4), (5, 115, 4, 5), (5, 118, 4, 6), (5, 121, 4, 7), (5, 124, 4, 8), (5, 127, 4, 9), (5, 133, 4, 3), (5, 146, 4, 1), (5, 170, 2, 1), (5, 185, 0, 5)] : List (Nat × Nat × Nat × Nat)), nl_okFL e := List.forall_mem_cons.mpr ⟨nl_FL_40, List.forall_mem_cons.mpr ⟨nl_FL_41, List.forall_mem_cons.mpr ⟨nl_FL_42, List.forall_mem_cons.mpr ⟨nl_FL_43, List.forall_mem_cons.mpr ⟨nl_FL_44, List.forall_mem_cons.mpr ⟨nl_FL_45, List.forall_mem_cons.mpr ⟨nl_FL_46, List.forall_mem_cons.mpr ⟨nl_FL_47, List.forall_mem_cons.mpr ⟨nl_FL_48, List.forall_mem_cons.mpr ⟨nl_FL_49, List.forall_mem_cons.mpr ⟨nl_FL_50, List.forall_mem_cons.mpr ⟨nl_FL_51, List.forall_mem_cons.mpr ⟨nl_FL_52, List.forall_mem_cons.mpr ⟨nl_FL_53, List.forall_mem_cons.mpr ⟨nl_FL_54, List.forall_mem_cons.mpr ⟨nl_FL_55, List.forall_mem_cons.mpr ⟨nl_FL_56, List.forall_mem_cons.mpr ⟨nl_FL_57, List.forall_mem_cons.mpr ⟨nl_FL_58, List.forall_mem_cons.mpr ⟨nl_FL_59, fun _ h => absurd h List.not_mem_nil⟩⟩⟩⟩⟩⟩⟩⟩⟩⟩⟩⟩⟩⟩⟩⟩⟩⟩⟩⟩
theorem nl_FLc3 : ∀ e ∈ ([(5, 188, 0, 2), (5, 206, 3, 3), (5, 234, 4, 2), (6, 9, 6, 1), (6, 13, 6, 2), (6, 16, 6, 3), (6, 19, 6, 6), (6, 22, 6, 7), (6, 25, 6, 8), (6, 28, 6, 9), (6, 31, 6, 10), (6, 34, 6, 12), (6, 37, 6, 13), (6, 40, 6, 14), (6, 43, 6, 15), (6, 46, 6, 20), (6, 49, 6, 21), (6, 52, 6, 23), (6, 55, 6, 25), (6, 58, 6, 26)] : List (Nat × Nat × Nat × Nat)), nl_okFL e := List.forall_mem_cons.mpr ⟨nl_FL_60, List.forall_mem_cons.mpr ⟨nl_FL_61, List.forall_mem_cons.mpr ⟨nl_FL_62, List.forall_mem_cons.mpr ⟨nl_FL_63, List.forall_mem_cons.mpr ⟨nl_FL_64, List.forall_mem_cons.mpr ⟨nl_FL_65, List.forall_mem_cons.mpr ⟨nl_FL_66, List.forall_mem_cons.mpr ⟨nl_FL_67, List.forall_mem_cons.mpr ⟨nl_FL_68, List.forall_mem_cons.mpr ⟨nl_FL_69, List.forall_mem_cons.mpr ⟨nl_FL_70, List.forall_mem_cons.mpr ⟨nl_FL_71, List.forall_mem_cons.mpr ⟨nl_FL_72, List.forall_mem_cons.mpr ⟨nl_FL_73, List.forall_mem_cons.mpr ⟨nl_FL_74, List.forall_mem_cons.mpr ⟨nl_FL_75, List.forall_mem_cons.mpr ⟨nl_FL_76, List.forall_mem_cons.mpr ⟨nl_FL_77, List.forall_mem_cons.mpr ⟨nl_FL_78, List.forall_mem_cons.mpr ⟨nl_FL_79, fun _ h => absurd h List.not_mem_nil⟩⟩⟩⟩⟩⟩⟩⟩⟩⟩⟩⟩⟩⟩⟩⟩⟩⟩⟩⟩
theorem nl_FLc4 : ∀ e ∈ ([(6, 61, 6, 27), (6, 64, 6, 28), (6, 74, 6, 0), (6, 78, 6, 4), (6, 81, 6, 5), (6, 88, 6, 16), (6, 91, 6, 17), (6, 102, 6, 22), (6, 105, 6, 18), (6, 111, 6, 19), (6, 126, 6, 11), (6, 129, 6, 24), (6, 132, 6, 29)] : List (Nat × Nat × Nat × Nat)), nl_okFL e := List.forall_mem_cons.mpr ⟨nl_FL_80, List.forall_mem_cons.mpr ⟨nl_FL_81, List.forall_mem_cons.mpr ⟨nl_FL_82, List.forall_mem_cons.mpr ⟨nl_FL_83, List.forall_mem_cons.mpr ⟨nl_FL_84, List.forall_mem_cons.mpr ⟨nl_FL_85, List.forall_mem_cons.mpr ⟨nl_FL_86, List.forall_mem_cons.mpr ⟨nl_FL_87, List.forall_mem_cons.mpr ⟨nl_FL_88, List.forall_mem_cons.mpr ⟨nl_FL_89, List.forall_mem_cons.mpr ⟨nl_FL_90, List.forall_mem_cons.mpr ⟨nl_FL_91, List.forall_mem_cons.mpr ⟨nl_FL_92, fun _ h => absurd h List.not_mem_nil⟩⟩⟩⟩⟩⟩⟩⟩⟩⟩⟩⟩⟩
set_option maxRecDepth 100000 in
theorem nl_FL_eq : nl_FL = ([(0, 11, 0, 0), (0, 15, 0, 1), (0, 18, 0, 2), (0, 21, 0, 3), (0, 24, 0, 4), (0, 27, 0, 5), (0, 35, 4, 0), (0, 48, 4, 7), (0, 76, 4, 8), (1, 9, 1, 0), (1, 15, 1, 1), (1, 18, 1, 2), (1, 21, 1, 3), (1, 24, 1, 4), (1, 27, 1, 5), (1, 31, 1, 6), (1, 34, 1, 7), (2, 7, 2, 1), (2, 21, 2, 0), (3, 9, 3, 0)] : List (Nat × Nat × Nat × Nat)) ++ (([(3, 15, 3, 1), (3, 18, 3, 2), (3, 22, 3, 3), (4, 9, 4, 0), (4, 15, 4, 1), (4, 18, 4, 2), (4, 21, 4, 3), (4, 25, 4, 4), (4, 28, 4, 5), (4, 31, 4, 6), (4, 34, 4, 7), (4, 37, 4, 8), (4, 40, 4, 9), (4, 43, 4, 10), (4, 46, 1, 6), (4, 55, 1, 0), (4, 56, 1, 1), (4, 57, 1, 2), (4, 58, 1, 3), (5, 9, 5, 0)] : List (Nat × Nat × Nat × Nat)) ++ (([(5, 13, 5, 1), (5, 20, 5, 2), (5, 27, 5, 3), (5, 31, 5, 4), (5, 39, 5, 5), (5, 43, 5, 6), (5, 49, 5, 7), (5, 56, 5, 8), (5, 90, 1, 7), (5, 105, 4, 0), (5, 112, 4, 4), (5, 115, 4, 5), (5, 118, 4, 6), (5, 121, 4, 7), (5, 124, 4, 8), (5, 127, 4, 9), (5, 133, 4, 3), (5, 146, 4, 1), (5, 170, 2, 1), (5, 185, 0, 5)] : List (Nat × Nat × Nat × Nat)) ++ (([(5, 188, 0, 2), (5, 206, 3, 3), (5, 234, 4, 2), (6, 9, 6, 1), (6, 13, 6, 2), (6, 16, 6, 3), (6, 19, 6, 6), (6, 22, 6, 7), (6, 25, 6, 8), (6, 28, 6, 9), (6, 31, 6, 10), (6, 34, 6, 12), (6, 37, 6, 13), (6, 40, 6, 14), (6, 43, 6, 15), (6, 46, 6, 20), (6, 49, 6, 21), (6, 52, 6, 23), (6, 55, 6, 25), (6, 58, 6, 26)] : List (Nat × Nat × Nat × Nat)) ++ (([(6, 61, 6, 27), (6, 64, 6, 28), (6, 74, 6, 0), (6, 78, 6, 4), (6, 81, 6, 5), (6, 88, 6, 16), (6, 91, 6, 17), (6, 102, 6, 22), (6, 105, 6, 18), (6, 111, 6, 19), (6, 126, 6, 11), (6, 129, 6, 24), (6, 132, 6, 29)] : List (Nat × Nat × Nat × Nat)))))) := rfl
theorem nl_FL_all : ∀ e ∈ nl_FL, nl_okFL e := by
  rw [nl_FL_eq]
  exact List.forall_mem_append.mpr ⟨nl_FLc0, List.forall_mem_append.mpr ⟨nl_FLc1, List.forall_mem_append.mpr ⟨nl_FLc2, List.forall_mem_append.mpr ⟨nl_FLc3, nl_FLc4⟩⟩⟩⟩
def nl_nm (y : Nat) : MethodName := (nl_inf.getD y (yX0_choose, cX0_choose, 4, none, 0, 1, false)).1
def nl_ML : List (Nat × Nat × Nat) := [(0, 31, 1), (0, 40, 2), (0, 44, 4), (0, 51, 31), (0, 55, 29), (0, 58, 142), (0, 64, 3), (0, 73, 5), (0, 79, 7), (0, 83, 8), (1, 37, 11), (1, 41, 12), (1, 45, 13), (1, 49, 14), (2, 26, 17), (2, 29, 24), (3, 32, 32), (4, 59, 30), (4, 66, 29), (4, 69, 27), (4, 72, 31), (4, 76, 26), (4, 80, 33), (4, 86, 35), (4, 90, 36), (4, 94, 37), (5, 82, 71), (5, 86, 9), (5, 93, 10), (5, 97, 23), (5, 101, 15), (5, 104, 19), (5, 108, 25), (5, 130, 26), (5, 136, 27), (5, 139, 29), (5, 143, 28), (5, 149, 16), (5, 153, 34), (5, 156, 35), (5, 160, 36), (5, 163, 37), (5, 166, 18), (5, 173, 24), (5, 176, 32), (5, 179, 74), (5, 182, 0), (5, 191, 6), (5, 195, 39), (5, 198, 40), (5, 201, 142), (5, 207, 20), (5, 211, 75), (5, 219, 31), (5, 222, 72), (5, 225, 73), (5, 228, 41), (5, 231, 38), (5, 245, 33), (5, 248, 21), (5, 251, 22), (6, 67, 81), (6, 71, 82), (6, 84, 76), (6, 94, 86), (6, 98, 87), (6, 108, 88), (6, 114, 89), (6, 117, 90), (6, 120, 91), (6, 123, 92), (6, 135, 80), (6, 139, 94), (6, 143, 95), (6, 146, 96), (6, 150, 79), (6, 153, 98), (6, 156, 83), (6, 160, 101), (6, 163, 105), (6, 167, 107), (6, 170, 99), (6, 173, 109), (6, 177, 111), (6, 181, 106), (6, 184, 115), (6, 187, 116), (6, 190, 97), (6, 194, 120), (6, 197, 122), (6, 200, 123), (6, 203, 121), (6, 206, 77), (6, 209, 125), (6, 212, 127), (6, 215, 78), (6, 218, 132), (6, 223, 135), (6, 235, 137), (7, 13, 42), (7, 17, 84), (7, 18, 43), (7, 22, 85), (7, 23, 44), (7, 26, 92), (7, 27, 45), (7, 30, 93), (7, 31, 46), (7, 35, 100), (7, 36, 47), (7, 39, 102), (7, 40, 48), (7, 43, 103), (7, 44, 49), (7, 47, 104), (7, 48, 50), (7, 51, 108), (7, 52, 51), (7, 55, 110), (7, 56, 52), (7, 59, 112), (7, 60, 53), (7, 63, 113), (7, 64, 54), (7, 67, 114), (7, 68, 55), (7, 72, 117), (7, 73, 56), (7, 76, 118), (7, 77, 57), (7, 80, 119), (7, 81, 58), (7, 84, 124), (7, 85, 59), (7, 88, 126), (7, 89, 60), (7, 92, 128), (7, 93, 61), (7, 96, 129), (7, 97, 62), (7, 100, 130), (7, 101, 63), (7, 104, 131), (7, 105, 64), (7, 108, 133), (7, 109, 65), (7, 112, 134), (7, 113, 66), (7, 116, 136), (7, 117, 67), (7, 120, 138), (7, 121, 68), (7, 124, 139), (7, 125, 69), (7, 128, 140), (7, 129, 70), (7, 132, 141)]
def nl_okML (e : Nat × Nat × Nat) : Prop := Cond.methodLink (nl_R e.1) e.2.1 (nl_nm e.2.2) ∈ nl_WL
set_option maxRecDepth 100000 in
theorem nl_ML_0 : nl_okML (0, 31, 1) := (nl_w2 215 rfl rfl)
set_option maxRecDepth 100000 in
theorem nl_ML_1 : nl_okML (0, 40, 2) := (nl_w2 221 rfl rfl)
set_option maxRecDepth 100000 in
theorem nl_ML_2 : nl_okML (0, 44, 4) := (nl_w2 236 rfl rfl)
set_option maxRecDepth 100000 in
theorem nl_ML_3 : nl_okML (0, 51, 31) := (nl_w2 219 rfl rfl)
set_option maxRecDepth 100000 in
theorem nl_ML_4 : nl_okML (0, 55, 29) := (nl_w2 220 rfl rfl)
set_option maxRecDepth 100000 in
theorem nl_ML_5 : nl_okML (0, 58, 142) := (nl_w2 225 rfl rfl)
set_option maxRecDepth 100000 in
theorem nl_ML_6 : nl_okML (0, 64, 3) := (nl_w2 231 rfl rfl)
set_option maxRecDepth 100000 in
theorem nl_ML_7 : nl_okML (0, 73, 5) := (nl_w3 0 rfl rfl)
set_option maxRecDepth 100000 in
theorem nl_ML_8 : nl_okML (0, 79, 7) := (nl_w3 12 rfl rfl)
set_option maxRecDepth 100000 in
theorem nl_ML_9 : nl_okML (0, 83, 8) := (nl_w3 15 rfl rfl)
set_option maxRecDepth 100000 in
theorem nl_ML_10 : nl_okML (1, 37, 11) := (nl_w2 5 rfl rfl)
set_option maxRecDepth 100000 in
theorem nl_ML_11 : nl_okML (1, 41, 12) := (nl_w2 9 rfl rfl)
set_option maxRecDepth 100000 in
theorem nl_ML_12 : nl_okML (1, 45, 13) := (nl_w2 14 rfl rfl)
set_option maxRecDepth 100000 in
theorem nl_ML_13 : nl_okML (1, 49, 14) := (nl_w2 18 rfl rfl)
set_option maxRecDepth 100000 in
theorem nl_ML_14 : nl_okML (2, 26, 17) := (nl_w2 130 rfl rfl)
set_option maxRecDepth 100000 in
theorem nl_ML_15 : nl_okML (2, 29, 24) := (nl_w2 134 rfl rfl)
set_option maxRecDepth 100000 in
theorem nl_ML_16 : nl_okML (3, 32, 32) := (nl_w3 67 rfl rfl)
set_option maxRecDepth 100000 in
theorem nl_ML_17 : nl_okML (4, 59, 30) := (nl_w2 109 rfl rfl)
set_option maxRecDepth 100000 in
theorem nl_ML_18 : nl_okML (4, 66, 29) := (nl_w2 151 rfl rfl)
set_option maxRecDepth 100000 in
theorem nl_ML_19 : nl_okML (4, 69, 27) := (nl_w2 197 rfl rfl)
set_option maxRecDepth 100000 in
theorem nl_ML_20 : nl_okML (4, 72, 31) := (nl_w2 147 rfl rfl)
set_option maxRecDepth 100000 in
theorem nl_ML_21 : nl_okML (4, 76, 26) := (nl_w2 146 rfl rfl)
set_option maxRecDepth 100000 in
theorem nl_ML_22 : nl_okML (4, 80, 33) := (nl_w2 142 rfl rfl)
set_option maxRecDepth 100000 in
theorem nl_ML_23 : nl_okML (4, 86, 35) := (nl_w3 96 rfl rfl)
set_option maxRecDepth 100000 in
theorem nl_ML_24 : nl_okML (4, 90, 36) := (nl_w3 97 rfl rfl)
set_option maxRecDepth 100000 in
theorem nl_ML_25 : nl_okML (4, 94, 37) := (nl_w3 98 rfl rfl)
set_option maxRecDepth 100000 in
theorem nl_ML_26 : nl_okML (5, 82, 71) := (nl_w1 234 rfl rfl)
set_option maxRecDepth 100000 in
theorem nl_ML_27 : nl_okML (5, 86, 9) := (nl_w2 1 rfl rfl)
set_option maxRecDepth 100000 in
theorem nl_ML_28 : nl_okML (5, 93, 10) := (nl_w2 22 rfl rfl)
set_option maxRecDepth 100000 in
theorem nl_ML_29 : nl_okML (5, 97, 23) := (nl_w2 26 rfl rfl)
set_option maxRecDepth 100000 in
theorem nl_ML_30 : nl_okML (5, 101, 15) := (nl_w2 33 rfl rfl)
set_option maxRecDepth 100000 in
theorem nl_ML_31 : nl_okML (5, 104, 19) := (nl_w2 37 rfl rfl)
set_option maxRecDepth 100000 in
theorem nl_ML_32 : nl_okML (5, 108, 25) := (nl_w2 85 rfl rfl)
set_option maxRecDepth 100000 in
theorem nl_ML_33 : nl_okML (5, 130, 26) := (nl_w2 93 rfl rfl)
set_option maxRecDepth 100000 in
theorem nl_ML_34 : nl_okML (5, 136, 27) := (nl_w2 97 rfl rfl)
set_option maxRecDepth 100000 in
theorem nl_ML_35 : nl_okML (5, 139, 29) := (nl_w2 105 rfl rfl)
set_option maxRecDepth 100000 in
theorem nl_ML_36 : nl_okML (5, 143, 28) := (nl_w2 118 rfl rfl)
set_option maxRecDepth 100000 in
theorem nl_ML_37 : nl_okML (5, 149, 16) := (nl_w2 126 rfl rfl)
set_option maxRecDepth 100000 in
theorem nl_ML_38 : nl_okML (5, 153, 34) := (nl_w2 138 rfl rfl)
set_option maxRecDepth 100000 in
theorem nl_ML_39 : nl_okML (5, 156, 35) := (nl_w2 156 rfl rfl)
set_option maxRecDepth 100000 in
theorem nl_ML_40 : nl_okML (5, 160, 36) := (nl_w2 164 rfl rfl)
set_option maxRecDepth 100000 in
theorem nl_ML_41 : nl_okML (5, 163, 37) := (nl_w2 172 rfl rfl)
set_option maxRecDepth 100000 in
theorem nl_ML_42 : nl_okML (5, 166, 18) := (nl_w2 180 rfl rfl)
set_option maxRecDepth 100000 in
theorem nl_ML_43 : nl_okML (5, 173, 24) := (nl_w2 188 rfl rfl)
set_option maxRecDepth 100000 in
theorem nl_ML_44 : nl_okML (5, 176, 32) := (nl_w2 193 rfl rfl)
set_option maxRecDepth 100000 in
theorem nl_ML_45 : nl_okML (5, 179, 74) := (nl_w2 202 rfl rfl)
set_option maxRecDepth 100000 in
theorem nl_ML_46 : nl_okML (5, 182, 0) := (nl_w2 211 rfl rfl)
set_option maxRecDepth 100000 in
theorem nl_ML_47 : nl_okML (5, 191, 6) := (nl_w3 8 rfl rfl)
set_option maxRecDepth 100000 in
theorem nl_ML_48 : nl_okML (5, 195, 39) := (nl_w3 22 rfl rfl)
set_option maxRecDepth 100000 in
theorem nl_ML_49 : nl_okML (5, 198, 40) := (nl_w3 29 rfl rfl)
set_option maxRecDepth 100000 in
theorem nl_ML_50 : nl_okML (5, 201, 142) := (nl_w3 37 rfl rfl)
set_option maxRecDepth 100000 in
theorem nl_ML_51 : nl_okML (5, 207, 20) := (nl_w3 42 rfl rfl)
set_option maxRecDepth 100000 in
theorem nl_ML_52 : nl_okML (5, 211, 75) := (nl_w3 54 rfl rfl)
set_option maxRecDepth 100000 in
theorem nl_ML_53 : nl_okML (5, 219, 31) := (nl_w3 77 rfl rfl)
set_option maxRecDepth 100000 in
theorem nl_ML_54 : nl_okML (5, 222, 72) := (nl_w3 78 rfl rfl)
set_option maxRecDepth 100000 in
theorem nl_ML_55 : nl_okML (5, 225, 73) := (nl_w3 85 rfl rfl)
set_option maxRecDepth 100000 in
theorem nl_ML_56 : nl_okML (5, 228, 41) := (nl_w3 92 rfl rfl)
set_option maxRecDepth 100000 in
theorem nl_ML_57 : nl_okML (5, 231, 38) := (nl_w3 99 rfl rfl)
set_option maxRecDepth 100000 in
theorem nl_ML_58 : nl_okML (5, 245, 33) := (nl_w2 206 rfl rfl)
set_option maxRecDepth 100000 in
theorem nl_ML_59 : nl_okML (5, 248, 21) := (nl_w3 58 rfl rfl)
set_option maxRecDepth 100000 in
theorem nl_ML_60 : nl_okML (5, 251, 22) := (nl_w3 63 rfl rfl)
set_option maxRecDepth 100000 in
theorem nl_ML_61 : nl_okML (6, 67, 81) := (nl_w3 121 rfl rfl)
set_option maxRecDepth 100000 in
theorem nl_ML_62 : nl_okML (6, 71, 82) := (nl_w3 125 rfl rfl)
set_option maxRecDepth 100000 in
theorem nl_ML_63 : nl_okML (6, 84, 76) := (nl_w3 224 rfl rfl)
set_option maxRecDepth 100000 in
theorem nl_ML_64 : nl_okML (6, 94, 86) := (nl_w3 239 rfl rfl)
set_option maxRecDepth 100000 in
theorem nl_ML_65 : nl_okML (6, 98, 87) := (nl_w4 11 rfl rfl)
set_option maxRecDepth 100000 in
theorem nl_ML_66 : nl_okML (6, 108, 88) := (nl_w4 7 rfl rfl)
set_option maxRecDepth 100000 in
theorem nl_ML_67 : nl_okML (6, 114, 89) := (nl_w4 3 rfl rfl)
set_option maxRecDepth 100000 in
theorem nl_ML_68 : nl_okML (6, 117, 90) := (nl_w4 15 rfl rfl)
set_option maxRecDepth 100000 in
theorem nl_ML_69 : nl_okML (6, 120, 91) := (nl_w3 235 rfl rfl)
set_option maxRecDepth 100000 in
theorem nl_ML_70 : nl_okML (6, 123, 92) := (nl_w4 23 rfl rfl)
set_option maxRecDepth 100000 in
theorem nl_ML_71 : nl_okML (6, 135, 80) := (nl_w4 52 rfl rfl)
set_option maxRecDepth 100000 in
theorem nl_ML_72 : nl_okML (6, 139, 94) := (nl_w4 48 rfl rfl)
set_option maxRecDepth 100000 in
theorem nl_ML_73 : nl_okML (6, 143, 95) := (nl_w4 44 rfl rfl)
set_option maxRecDepth 100000 in
theorem nl_ML_74 : nl_okML (6, 146, 96) := (nl_w4 79 rfl rfl)
set_option maxRecDepth 100000 in
theorem nl_ML_75 : nl_okML (6, 150, 79) := (nl_w4 83 rfl rfl)
set_option maxRecDepth 100000 in
theorem nl_ML_76 : nl_okML (6, 153, 98) := (nl_w4 75 rfl rfl)
set_option maxRecDepth 100000 in
theorem nl_ML_77 : nl_okML (6, 156, 83) := (nl_w4 28 rfl rfl)
set_option maxRecDepth 100000 in
theorem nl_ML_78 : nl_okML (6, 160, 101) := (nl_w4 36 rfl rfl)
set_option maxRecDepth 100000 in
theorem nl_ML_79 : nl_okML (6, 163, 105) := (nl_w4 67 rfl rfl)
set_option maxRecDepth 100000 in
theorem nl_ML_80 : nl_okML (6, 167, 107) := (nl_w4 63 rfl rfl)
set_option maxRecDepth 100000 in
theorem nl_ML_81 : nl_okML (6, 170, 99) := (nl_w4 71 rfl rfl)
set_option maxRecDepth 100000 in
theorem nl_ML_82 : nl_okML (6, 173, 109) := (nl_w4 90 rfl rfl)
set_option maxRecDepth 100000 in
theorem nl_ML_83 : nl_okML (6, 177, 111) := (nl_w4 98 rfl rfl)
set_option maxRecDepth 100000 in
theorem nl_ML_84 : nl_okML (6, 181, 106) := (nl_w4 110 rfl rfl)
set_option maxRecDepth 100000 in
theorem nl_ML_85 : nl_okML (6, 184, 115) := (nl_w4 118 rfl rfl)
set_option maxRecDepth 100000 in
theorem nl_ML_86 : nl_okML (6, 187, 116) := (nl_w4 122 rfl rfl)
set_option maxRecDepth 100000 in
theorem nl_ML_87 : nl_okML (6, 190, 97) := (nl_w4 130 rfl rfl)
set_option maxRecDepth 100000 in
theorem nl_ML_88 : nl_okML (6, 194, 120) := (nl_w4 143 rfl rfl)
set_option maxRecDepth 100000 in
theorem nl_ML_89 : nl_okML (6, 197, 122) := (nl_w4 147 rfl rfl)
set_option maxRecDepth 100000 in
theorem nl_ML_90 : nl_okML (6, 200, 123) := (nl_w4 151 rfl rfl)
set_option maxRecDepth 100000 in
theorem nl_ML_91 : nl_okML (6, 203, 121) := (nl_w4 155 rfl rfl)
set_option maxRecDepth 100000 in
theorem nl_ML_92 : nl_okML (6, 206, 77) := (nl_w4 167 rfl rfl)
set_option maxRecDepth 100000 in
theorem nl_ML_93 : nl_okML (6, 209, 125) := (nl_w4 163 rfl rfl)
set_option maxRecDepth 100000 in
theorem nl_ML_94 : nl_okML (6, 212, 127) := (nl_w4 174 rfl rfl)
set_option maxRecDepth 100000 in
theorem nl_ML_95 : nl_okML (6, 215, 78) := (nl_w4 181 rfl rfl)
set_option maxRecDepth 100000 in
theorem nl_ML_96 : nl_okML (6, 218, 132) := (nl_w4 196 rfl rfl)
set_option maxRecDepth 100000 in
theorem nl_ML_97 : nl_okML (6, 223, 135) := (nl_w4 209 rfl rfl)
set_option maxRecDepth 100000 in
theorem nl_ML_98 : nl_okML (6, 235, 137) := (nl_w4 220 rfl rfl)
set_option maxRecDepth 100000 in
theorem nl_ML_99 : nl_okML (7, 13, 42) := (nl_w2 74 rfl rfl)
set_option maxRecDepth 100000 in
theorem nl_ML_100 : nl_okML (7, 17, 84) := (nl_w3 220 rfl rfl)
set_option maxRecDepth 100000 in
theorem nl_ML_101 : nl_okML (7, 18, 43) := (nl_w2 75 rfl rfl)
set_option maxRecDepth 100000 in
theorem nl_ML_102 : nl_okML (7, 22, 85) := (nl_w3 227 rfl rfl)
set_option maxRecDepth 100000 in
theorem nl_ML_103 : nl_okML (7, 23, 44) := (nl_w2 76 rfl rfl)
set_option maxRecDepth 100000 in
theorem nl_ML_104 : nl_okML (7, 26, 92) := (nl_w3 231 rfl rfl)
set_option maxRecDepth 100000 in
theorem nl_ML_105 : nl_okML (7, 27, 45) := (nl_w2 80 rfl rfl)
set_option maxRecDepth 100000 in
theorem nl_ML_106 : nl_okML (7, 30, 93) := (nl_w4 19 rfl rfl)
set_option maxRecDepth 100000 in
theorem nl_ML_107 : nl_okML (7, 31, 46) := (nl_w2 81 rfl rfl)
set_option maxRecDepth 100000 in
theorem nl_ML_108 : nl_okML (7, 35, 100) := (nl_w4 24 rfl rfl)
set_option maxRecDepth 100000 in
theorem nl_ML_109 : nl_okML (7, 36, 47) := (nl_w2 89 rfl rfl)
set_option maxRecDepth 100000 in
theorem nl_ML_110 : nl_okML (7, 39, 102) := (nl_w4 32 rfl rfl)
set_option maxRecDepth 100000 in
theorem nl_ML_111 : nl_okML (7, 40, 48) := (nl_w2 101 rfl rfl)
set_option maxRecDepth 100000 in
theorem nl_ML_112 : nl_okML (7, 43, 103) := (nl_w4 40 rfl rfl)
set_option maxRecDepth 100000 in
theorem nl_ML_113 : nl_okML (7, 44, 49) := (nl_w2 114 rfl rfl)
set_option maxRecDepth 100000 in
theorem nl_ML_114 : nl_okML (7, 47, 104) := (nl_w4 55 rfl rfl)
set_option maxRecDepth 100000 in
theorem nl_ML_115 : nl_okML (7, 48, 50) := (nl_w2 122 rfl rfl)
set_option maxRecDepth 100000 in
theorem nl_ML_116 : nl_okML (7, 51, 108) := (nl_w4 59 rfl rfl)
set_option maxRecDepth 100000 in
theorem nl_ML_117 : nl_okML (7, 52, 51) := (nl_w2 152 rfl rfl)
set_option maxRecDepth 100000 in
theorem nl_ML_118 : nl_okML (7, 55, 110) := (nl_w4 86 rfl rfl)
set_option maxRecDepth 100000 in
theorem nl_ML_119 : nl_okML (7, 56, 52) := (nl_w2 160 rfl rfl)
set_option maxRecDepth 100000 in
theorem nl_ML_120 : nl_okML (7, 59, 112) := (nl_w4 94 rfl rfl)
set_option maxRecDepth 100000 in
theorem nl_ML_121 : nl_okML (7, 60, 53) := (nl_w2 168 rfl rfl)
set_option maxRecDepth 100000 in
theorem nl_ML_122 : nl_okML (7, 63, 113) := (nl_w4 102 rfl rfl)
set_option maxRecDepth 100000 in
theorem nl_ML_123 : nl_okML (7, 64, 54) := (nl_w2 176 rfl rfl)
set_option maxRecDepth 100000 in
theorem nl_ML_124 : nl_okML (7, 67, 114) := (nl_w4 106 rfl rfl)
set_option maxRecDepth 100000 in
theorem nl_ML_125 : nl_okML (7, 68, 55) := (nl_w2 184 rfl rfl)
set_option maxRecDepth 100000 in
theorem nl_ML_126 : nl_okML (7, 72, 117) := (nl_w4 114 rfl rfl)
set_option maxRecDepth 100000 in
theorem nl_ML_127 : nl_okML (7, 73, 56) := (nl_w2 189 rfl rfl)
set_option maxRecDepth 100000 in
theorem nl_ML_128 : nl_okML (7, 76, 118) := (nl_w4 126 rfl rfl)
set_option maxRecDepth 100000 in
theorem nl_ML_129 : nl_okML (7, 77, 57) := (nl_w2 198 rfl rfl)
set_option maxRecDepth 100000 in
theorem nl_ML_130 : nl_okML (7, 80, 119) := (nl_w4 134 rfl rfl)
set_option maxRecDepth 100000 in
theorem nl_ML_131 : nl_okML (7, 81, 58) := (nl_w2 207 rfl rfl)
set_option maxRecDepth 100000 in
theorem nl_ML_132 : nl_okML (7, 84, 124) := (nl_w4 138 rfl rfl)
set_option maxRecDepth 100000 in
theorem nl_ML_133 : nl_okML (7, 85, 59) := (nl_w3 4 rfl rfl)
set_option maxRecDepth 100000 in
theorem nl_ML_134 : nl_okML (7, 88, 126) := (nl_w4 159 rfl rfl)
set_option maxRecDepth 100000 in
theorem nl_ML_135 : nl_okML (7, 89, 60) := (nl_w3 18 rfl rfl)
set_option maxRecDepth 100000 in
theorem nl_ML_136 : nl_okML (7, 92, 128) := (nl_w4 170 rfl rfl)
set_option maxRecDepth 100000 in
theorem nl_ML_137 : nl_okML (7, 93, 61) := (nl_w3 33 rfl rfl)
set_option maxRecDepth 100000 in
theorem nl_ML_138 : nl_okML (7, 96, 129) := (nl_w4 177 rfl rfl)
set_option maxRecDepth 100000 in
theorem nl_ML_139 : nl_okML (7, 97, 62) := (nl_w3 38 rfl rfl)
set_option maxRecDepth 100000 in
theorem nl_ML_140 : nl_okML (7, 100, 130) := (nl_w4 184 rfl rfl)
set_option maxRecDepth 100000 in
theorem nl_ML_141 : nl_okML (7, 101, 63) := (nl_w3 46 rfl rfl)
set_option maxRecDepth 100000 in
theorem nl_ML_142 : nl_okML (7, 104, 131) := (nl_w4 188 rfl rfl)
set_option maxRecDepth 100000 in
theorem nl_ML_143 : nl_okML (7, 105, 64) := (nl_w3 50 rfl rfl)
set_option maxRecDepth 100000 in
theorem nl_ML_144 : nl_okML (7, 108, 133) := (nl_w4 192 rfl rfl)
set_option maxRecDepth 100000 in
theorem nl_ML_145 : nl_okML (7, 109, 65) := (nl_w3 68 rfl rfl)
set_option maxRecDepth 100000 in
theorem nl_ML_146 : nl_okML (7, 112, 134) := (nl_w4 200 rfl rfl)
set_option maxRecDepth 100000 in
theorem nl_ML_147 : nl_okML (7, 113, 66) := (nl_w3 72 rfl rfl)
set_option maxRecDepth 100000 in
theorem nl_ML_148 : nl_okML (7, 116, 136) := (nl_w4 204 rfl rfl)
set_option maxRecDepth 100000 in
theorem nl_ML_149 : nl_okML (7, 117, 67) := (nl_w3 81 rfl rfl)
set_option maxRecDepth 100000 in
theorem nl_ML_150 : nl_okML (7, 120, 138) := (nl_w4 212 rfl rfl)
set_option maxRecDepth 100000 in
theorem nl_ML_151 : nl_okML (7, 121, 68) := (nl_w3 103 rfl rfl)
set_option maxRecDepth 100000 in
theorem nl_ML_152 : nl_okML (7, 124, 139) := (nl_w4 224 rfl rfl)
set_option maxRecDepth 100000 in
theorem nl_ML_153 : nl_okML (7, 125, 69) := (nl_w3 107 rfl rfl)
set_option maxRecDepth 100000 in
theorem nl_ML_154 : nl_okML (7, 128, 140) := (nl_w4 228 rfl rfl)
set_option maxRecDepth 100000 in
theorem nl_ML_155 : nl_okML (7, 129, 70) := (nl_w3 111 rfl rfl)
set_option maxRecDepth 100000 in
theorem nl_ML_156 : nl_okML (7, 132, 141) := (nl_w4 232 rfl rfl)
theorem nl_MLc0 : ∀ e ∈ ([(0, 31, 1), (0, 40, 2), (0, 44, 4), (0, 51, 31), (0, 55, 29), (0, 58, 142), (0, 64, 3), (0, 73, 5), (0, 79, 7), (0, 83, 8), (1, 37, 11), (1, 41, 12), (1, 45, 13), (1, 49, 14), (2, 26, 17), (2, 29, 24), (3, 32, 32), (4, 59, 30), (4, 66, 29), (4, 69, 27)] : List (Nat × Nat × Nat)), nl_okML e := List.forall_mem_cons.mpr ⟨nl_ML_0, List.forall_mem_cons.mpr ⟨nl_ML_1, List.forall_mem_cons.mpr ⟨nl_ML_2, List.forall_mem_cons.mpr ⟨nl_ML_3, List.forall_mem_cons.mpr ⟨nl_ML_4, List.forall_mem_cons.mpr ⟨nl_ML_5, List.forall_mem_cons.mpr ⟨nl_ML_6, List.forall_mem_cons.mpr ⟨nl_ML_7, List.forall_mem_cons.mpr ⟨nl_ML_8, List.forall_mem_cons.mpr ⟨nl_ML_9, List.forall_mem_cons.mpr ⟨nl_ML_10, List.forall_mem_cons.mpr ⟨nl_ML_11, List.forall_mem_cons.mpr ⟨nl_ML_12, List.forall_mem_cons.mpr ⟨nl_ML_13, List.forall_mem_cons.mpr ⟨nl_ML_14, List.forall_mem_cons.mpr ⟨nl_ML_15, List.forall_mem_cons.mpr ⟨nl_ML_16, List.forall_mem_cons.mpr ⟨nl_ML_17, List.forall_mem_cons.mpr ⟨nl_ML_18, List.forall_mem_cons.mpr ⟨nl_ML_19, fun _ h => absurd h List.not_mem_nil⟩⟩⟩⟩⟩⟩⟩⟩⟩⟩⟩⟩⟩⟩⟩⟩⟩⟩⟩⟩
theorem nl_MLc1 : ∀ e ∈ ([(4, 72, 31), (4, 76, 26), (4, 80, 33), (4, 86, 35), (4, 90, 36), (4, 94, 37), (5, 82, 71), (5, 86, 9), (5, 93, 10), (5, 97, 23), (5, 101, 15), (5, 104, 19), (5, 108, 25), (5, 130, 26), (5, 136, 27), (5, 139, 29), (5, 143, 28), (5, 149, 16), (5, 153, 34), (5, 156, 35)] : List (Nat × Nat × Nat)), nl_okML e := List.forall_mem_cons.mpr ⟨nl_ML_20, List.forall_mem_cons.mpr ⟨nl_ML_21, List.forall_mem_cons.mpr ⟨nl_ML_22, List.forall_mem_cons.mpr ⟨nl_ML_23, List.forall_mem_cons.mpr ⟨nl_ML_24, List.forall_mem_cons.mpr ⟨nl_ML_25, List.forall_mem_cons.mpr ⟨nl_ML_26, List.forall_mem_cons.mpr ⟨nl_ML_27, List.forall_mem_cons.mpr ⟨nl_ML_28, List.forall_mem_cons.mpr ⟨nl_ML_29, List.forall_mem_cons.mpr ⟨nl_ML_30, List.forall_mem_cons.mpr ⟨nl_ML_31, List.forall_mem_cons.mpr ⟨nl_ML_32, List.forall_mem_cons.mpr ⟨nl_ML_33, List.forall_mem_cons.mpr ⟨nl_ML_34, List.forall_mem_cons.mpr ⟨nl_ML_35, List.forall_mem_cons.mpr ⟨nl_ML_36, List.forall_mem_cons.mpr ⟨nl_ML_37, List.forall_mem_cons.mpr ⟨nl_ML_38, List.forall_mem_cons.mpr ⟨nl_ML_39, fun _ h => absurd h List.not_mem_nil⟩⟩⟩⟩⟩⟩⟩⟩⟩⟩⟩⟩⟩⟩⟩⟩⟩⟩⟩⟩
theorem nl_MLc2 : ∀ e ∈ ([(5, 160, 36), (5, 163, 37), (5, 166, 18), (5, 173, 24), (5, 176, 32), (5, 179, 74), (5, 182, 0), (5, 191, 6), (5, 195, 39), (5, 198, 40), (5, 201, 142), (5, 207, 20), (5, 211, 75), (5, 219, 31), (5, 222, 72), (5, 225, 73), (5, 228, 41), (5, 231, 38), (5, 245, 33), (5, 248, 21)] : List (Nat × Nat × Nat)), nl_okML e := List.forall_mem_cons.mpr ⟨nl_ML_40, List.forall_mem_cons.mpr ⟨nl_ML_41, List.forall_mem_cons.mpr ⟨nl_ML_42, List.forall_mem_cons.mpr ⟨nl_ML_43, List.forall_mem_cons.mpr ⟨nl_ML_44, List.forall_mem_cons.mpr ⟨nl_ML_45, List.forall_mem_cons.mpr ⟨nl_ML_46, List.forall_mem_cons.mpr ⟨nl_ML_47, List.forall_mem_cons.mpr ⟨nl_ML_48, List.forall_mem_cons.mpr ⟨nl_ML_49, List.forall_mem_cons.mpr ⟨nl_ML_50, List.forall_mem_cons.mpr ⟨nl_ML_51, List.forall_mem_cons.mpr ⟨nl_ML_52, List.forall_mem_cons.mpr ⟨nl_ML_53, List.forall_mem_cons.mpr ⟨nl_ML_54, List.forall_mem_cons.mpr ⟨nl_ML_55, List.forall_mem_cons.mpr ⟨nl_ML_56, List.forall_mem_cons.mpr ⟨nl_ML_57, List.forall_mem_cons.mpr ⟨nl_ML_58, List.forall_mem_cons.mpr ⟨nl_ML_59, fun _ h => absurd h List.not_mem_nil⟩⟩⟩⟩⟩⟩⟩⟩⟩⟩⟩⟩⟩⟩⟩⟩⟩⟩⟩⟩
theorem nl_MLc3 : ∀ e ∈ ([(5, 251, 22), (6, 67, 81), (6, 71, 82), (6, 84, 76), (6, 94, 86), (6, 98, 87), (6, 108, 88), (6, 114, 89), (6, 117, 90), (6, 120, 91), (6, 123, 92), (6, 135, 80), (6, 139, 94), (6, 143, 95), (6, 146, 96), (6, 150, 79), (6, 153, 98), (6, 156, 83), (6, 160, 101), (6, 163, 105)] : List (Nat × Nat × Nat)), nl_okML e := List.forall_mem_cons.mpr ⟨nl_ML_60, List.forall_mem_cons.mpr ⟨nl_ML_61, List.forall_mem_cons.mpr ⟨nl_ML_62, List.forall_mem_cons.mpr ⟨nl_ML_63, List.forall_mem_cons.mpr ⟨nl_ML_64, List.forall_mem_cons.mpr ⟨nl_ML_65, List.forall_mem_cons.mpr ⟨nl_ML_66, List.forall_mem_cons.mpr ⟨nl_ML_67, List.forall_mem_cons.mpr ⟨nl_ML_68, List.forall_mem_cons.mpr ⟨nl_ML_69, List.forall_mem_cons.mpr ⟨nl_ML_70, List.forall_mem_cons.mpr ⟨nl_ML_71, List.forall_mem_cons.mpr ⟨nl_ML_72, List.forall_mem_cons.mpr ⟨nl_ML_73, List.forall_mem_cons.mpr ⟨nl_ML_74, List.forall_mem_cons.mpr ⟨nl_ML_75, List.forall_mem_cons.mpr ⟨nl_ML_76, List.forall_mem_cons.mpr ⟨nl_ML_77, List.forall_mem_cons.mpr ⟨nl_ML_78, List.forall_mem_cons.mpr ⟨nl_ML_79, fun _ h => absurd h List.not_mem_nil⟩⟩⟩⟩⟩⟩⟩⟩⟩⟩⟩⟩⟩⟩⟩⟩⟩⟩⟩⟩
theorem nl_MLc4 : ∀ e ∈ ([(6, 167, 107), (6, 170, 99), (6, 173, 109), (6, 177, 111), (6, 181, 106), (6, 184, 115), (6, 187, 116), (6, 190, 97), (6, 194, 120), (6, 197, 122), (6, 200, 123), (6, 203, 121), (6, 206, 77), (6, 209, 125), (6, 212, 127), (6, 215, 78), (6, 218, 132), (6, 223, 135), (6, 235, 137), (7, 13, 42)] : List (Nat × Nat × Nat)), nl_okML e := List.forall_mem_cons.mpr ⟨nl_ML_80, List.forall_mem_cons.mpr ⟨nl_ML_81, List.forall_mem_cons.mpr ⟨nl_ML_82, List.forall_mem_cons.mpr ⟨nl_ML_83, List.forall_mem_cons.mpr ⟨nl_ML_84, List.forall_mem_cons.mpr ⟨nl_ML_85, List.forall_mem_cons.mpr ⟨nl_ML_86, List.forall_mem_cons.mpr ⟨nl_ML_87, List.forall_mem_cons.mpr ⟨nl_ML_88, List.forall_mem_cons.mpr ⟨nl_ML_89, List.forall_mem_cons.mpr ⟨nl_ML_90, List.forall_mem_cons.mpr ⟨nl_ML_91, List.forall_mem_cons.mpr ⟨nl_ML_92, List.forall_mem_cons.mpr ⟨nl_ML_93, List.forall_mem_cons.mpr ⟨nl_ML_94, List.forall_mem_cons.mpr ⟨nl_ML_95, List.forall_mem_cons.mpr ⟨nl_ML_96, List.forall_mem_cons.mpr ⟨nl_ML_97, List.forall_mem_cons.mpr ⟨nl_ML_98, List.forall_mem_cons.mpr ⟨nl_ML_99, fun _ h => absurd h List.not_mem_nil⟩⟩⟩⟩⟩⟩⟩⟩⟩⟩⟩⟩⟩⟩⟩⟩⟩⟩⟩⟩
theorem nl_MLc5 : ∀ e ∈ ([(7, 17, 84), (7, 18, 43), (7, 22, 85), (7, 23, 44), (7, 26, 92), (7, 27, 45), (7, 30, 93), (7, 31, 46), (7, 35, 100), (7, 36, 47), (7, 39, 102), (7, 40, 48), (7, 43, 103), (7, 44, 49), (7, 47, 104), (7, 48, 50), (7, 51, 108), (7, 52, 51), (7, 55, 110), (7, 56, 52)] : List (Nat × Nat × Nat)), nl_okML e := List.forall_mem_cons.mpr ⟨nl_ML_100, List.forall_mem_cons.mpr ⟨nl_ML_101, List.forall_mem_cons.mpr ⟨nl_ML_102, List.forall_mem_cons.mpr ⟨nl_ML_103, List.forall_mem_cons.mpr ⟨nl_ML_104, List.forall_mem_cons.mpr ⟨nl_ML_105, List.forall_mem_cons.mpr ⟨nl_ML_106, List.forall_mem_cons.mpr ⟨nl_ML_107, List.forall_mem_cons.mpr ⟨nl_ML_108, List.forall_mem_cons.mpr ⟨nl_ML_109, List.forall_mem_cons.mpr ⟨nl_ML_110, List.forall_mem_cons.mpr ⟨nl_ML_111, List.forall_mem_cons.mpr ⟨nl_ML_112, List.forall_mem_cons.mpr ⟨nl_ML_113, List.forall_mem_cons.mpr ⟨nl_ML_114, List.forall_mem_cons.mpr ⟨nl_ML_115, List.forall_mem_cons.mpr ⟨nl_ML_116, List.forall_mem_cons.mpr ⟨nl_ML_117, List.forall_mem_cons.mpr ⟨nl_ML_118, List.forall_mem_cons.mpr ⟨nl_ML_119, fun _ h => absurd h List.not_mem_nil⟩⟩⟩⟩⟩⟩⟩⟩⟩⟩⟩⟩⟩⟩⟩⟩⟩⟩⟩⟩
theorem nl_MLc6 : ∀ e ∈ ([(7, 59, 112), (7, 60, 53), (7, 63, 113), (7, 64, 54), (7, 67, 114), (7, 68, 55), (7, 72, 117), (7, 73, 56), (7, 76, 118), (7, 77, 57), (7, 80, 119), (7, 81, 58), (7, 84, 124), (7, 85, 59), (7, 88, 126), (7, 89, 60), (7, 92, 128), (7, 93, 61), (7, 96, 129), (7, 97, 62)] : List (Nat × Nat × Nat)), nl_okML e := List.forall_mem_cons.mpr ⟨nl_ML_120, List.forall_mem_cons.mpr ⟨nl_ML_121, List.forall_mem_cons.mpr ⟨nl_ML_122, List.forall_mem_cons.mpr ⟨nl_ML_123, List.forall_mem_cons.mpr ⟨nl_ML_124, List.forall_mem_cons.mpr ⟨nl_ML_125, List.forall_mem_cons.mpr ⟨nl_ML_126, List.forall_mem_cons.mpr ⟨nl_ML_127, List.forall_mem_cons.mpr ⟨nl_ML_128, List.forall_mem_cons.mpr ⟨nl_ML_129, List.forall_mem_cons.mpr ⟨nl_ML_130, List.forall_mem_cons.mpr ⟨nl_ML_131, List.forall_mem_cons.mpr ⟨nl_ML_132, List.forall_mem_cons.mpr ⟨nl_ML_133, List.forall_mem_cons.mpr ⟨nl_ML_134, List.forall_mem_cons.mpr ⟨nl_ML_135, List.forall_mem_cons.mpr ⟨nl_ML_136, List.forall_mem_cons.mpr ⟨nl_ML_137, List.forall_mem_cons.mpr ⟨nl_ML_138, List.forall_mem_cons.mpr ⟨nl_ML_139, fun _ h => absurd h List.not_mem_nil⟩⟩⟩⟩⟩⟩⟩⟩⟩⟩⟩⟩⟩⟩⟩⟩⟩⟩⟩⟩
theorem nl_MLc7 : ∀ e ∈ ([(7, 100, 130), (7, 101, 63), (7, 104, 131), (7, 105, 64), (7, 108, 133), (7, 109, 65), (7, 112, 134), (7, 113, 66), (7, 116, 136), (7, 117, 67), (7, 120, 138), (7, 121, 68), (7, 124, 139), (7, 125, 69), (7, 128, 140), (7, 129, 70), (7, 132, 141)] : List (Nat × Nat × Nat)), nl_okML e := List.forall_mem_cons.mpr ⟨nl_ML_140, List.forall_mem_cons.mpr ⟨nl_ML_141, List.forall_mem_cons.mpr ⟨nl_ML_142, List.forall_mem_cons.mpr ⟨nl_ML_143, List.forall_mem_cons.mpr ⟨nl_ML_144, List.forall_mem_cons.mpr ⟨nl_ML_145, List.forall_mem_cons.mpr ⟨nl_ML_146, List.forall_mem_cons.mpr ⟨nl_ML_147, List.forall_mem_cons.mpr ⟨nl_ML_148, List.forall_mem_cons.mpr ⟨nl_ML_149, List.forall_mem_cons.mpr ⟨nl_ML_150, List.forall_mem_cons.mpr ⟨nl_ML_151, List.forall_mem_cons.mpr ⟨nl_ML_152, List.forall_mem_cons.mpr ⟨nl_ML_153, List.forall_mem_cons.mpr ⟨nl_ML_154, List.forall_mem_cons.mpr ⟨nl_ML_155, List.forall_mem_cons.mpr ⟨nl_ML_156, fun _ h => absurd h List.not_mem_nil⟩⟩⟩⟩⟩⟩⟩⟩⟩⟩⟩⟩⟩⟩⟩⟩⟩
set_option maxRecDepth 100000 in
theorem nl_ML_eq : nl_ML = ([(0, 31, 1), (0, 40, 2), (0, 44, 4), (0, 51, 31), (0, 55, 29), (0, 58, 142), (0, 64, 3), (0, 73, 5), (0, 79, 7), (0, 83, 8), (1, 37, 11), (1, 41, 12), (1, 45, 13), (1, 49, 14), (2, 26, 17), (2, 29, 24), (3, 32, 32), (4, 59, 30), (4, 66, 29), (4, 69, 27)] : List (Nat × Nat × Nat)) ++ (([(4, 72, 31), (4, 76, 26), (4, 80, 33), (4, 86, 35), (4, 90, 36), (4, 94, 37), (5, 82, 71), (5, 86, 9), (5, 93, 10), (5, 97, 23), (5, 101, 15), (5, 104, 19), (5, 108, 25), (5, 130, 26), (5, 136, 27), (5, 139, 29), (5, 143, 28), (5, 149, 16), (5, 153, 34), (5, 156, 35)] : List (Nat × Nat × Nat)) ++ (([(5, 160, 36), (5, 163, 37), (5, 166, 18), (5, 173, 24), (5, 176, 32), (5, 179, 74), (5, 182, 0), (5, 191, 6), (5, 195, 39), (5, 198, 40), (5, 201, 142), (5, 207, 20), (5, 211, 75), (5, 219, 31), (5, 222, 72), (5, 225, 73), (5, 228, 41), (5, 231, 38), (5, 245, 33), (5, 248, 21)] : List (Nat × Nat × Nat)) ++ (([(5, 251, 22), (6, 67, 81), (6, 71, 82), (6, 84, 76), (6, 94, 86), (6, 98, 87), (6, 108, 88), (6, 114, 89), (6, 117, 90), (6, 120, 91), (6, 123, 92), (6, 135, 80), (6, 139, 94), (6, 143, 95), (6, 146, 96), (6, 150, 79), (6, 153, 98), (6, 156, 83), (6, 160, 101), (6, 163, 105)] : List (Nat × Nat × Nat)) ++ (([(6, 167, 107), (6, 170, 99), (6, 173, 109), (6, 177, 111), (6, 181, 106), (6, 184, 115), (6, 187, 116), (6, 190, 97), (6, 194, 120), (6, 197, 122), (6, 200, 123), (6, 203, 121), (6, 206, 77), (6, 209, 125), (6, 212, 127), (6, 215, 78), (6, 218, 132), (6, 223, 135), (6, 235, 137), (7, 13, 42)] : List (Nat × Nat × Nat)) ++ (([(7, 17, 84), (7, 18, 43), (7, 22, 85), (7, 23, 44), (7, 26, 92), (7, 27, 45), (7, 30, 93), (7, 31, 46), (7, 35, 100), (7, 36, 47), (7, 39, 102), (7, 40, 48), (7, 43, 103), (7, 44, 49), (7, 47, 104), (7, 48, 50), (7, 51, 108), (7, 52, 51), (7, 55, 110), (7, 56, 52)] : List (Nat × Nat × Nat)) ++ (([(7, 59, 112), (7, 60, 53), (7, 63, 113), (7, 64, 54), (7, 67, 114), (7, 68, 55), (7, 72, 117), (7, 73, 56), (7, 76, 118), (7, 77, 57), (7, 80, 119), (7, 81, 58), (7, 84, 124), (7, 85, 59), (7, 88, 126), (7, 89, 60), (7, 92, 128), (7, 93, 61), (7, 96, 129), (7, 97, 62)] : List (Nat × Nat × Nat)) ++ (([(7, 100, 130), (7, 101, 63), (7, 104, 131), (7, 105, 64), (7, 108, 133), (7, 109, 65), (7, 112, 134), (7, 113, 66), (7, 116, 136), (7, 117, 67), (7, 120, 138), (7, 121, 68), (7, 124, 139), (7, 125, 69), (7, 128, 140), (7, 129, 70), (7, 132, 141)] : List (Nat × Nat × Nat))))))))) := rfl
theorem nl_ML_all : ∀ e ∈ nl_ML, nl_okML e := by
  rw [nl_ML_eq]
  exact List.forall_mem_append.mpr ⟨nl_MLc0, List.forall_mem_append.mpr ⟨nl_MLc1, List.forall_mem_append.mpr ⟨nl_MLc2, List.forall_mem_append.mpr ⟨nl_MLc3, List.forall_mem_append.mpr ⟨nl_MLc4, List.forall_mem_append.mpr ⟨nl_MLc5, List.forall_mem_append.mpr ⟨nl_MLc6, nl_MLc7⟩⟩⟩⟩⟩⟩⟩
def nl_mm (c : Nat) : MethodName := match c with
  | 3 => Lib.Math.max.name
  | 4 => Lib.Math.min.name
  | _ => Lib.Math.abs.name
def nl_MM : List (Nat × Nat × Nat) := [(0, 68, 4), (3, 26, 3), (4, 49, 4), (4, 63, 3), (4, 83, 5), (5, 214, 4)]
def nl_okMM (e : Nat × Nat × Nat) : Prop := Cond.methodLink (nl_R e.1) e.2.1 (nl_mm e.2.2) ∈ nl_WL
set_option maxRecDepth 100000 in
theorem nl_MM_0 : nl_okMM (0, 68, 4) := (nl_w2 235 rfl rfl)
set_option maxRecDepth 100000 in
theorem nl_MM_1 : nl_okMM (3, 26, 3) := (nl_w3 62 rfl rfl)
set_option maxRecDepth 100000 in
theorem nl_MM_2 : nl_okMM (4, 49, 4) := (nl_w2 30 rfl rfl)
set_option maxRecDepth 100000 in
theorem nl_MM_3 : nl_okMM (4, 63, 3) := (nl_w2 113 rfl rfl)
set_option maxRecDepth 100000 in
theorem nl_MM_4 : nl_okMM (4, 83, 5) := (nl_w3 26 rfl rfl)
set_option maxRecDepth 100000 in
theorem nl_MM_5 : nl_okMM (5, 214, 4) := (nl_w3 76 rfl rfl)
theorem nl_MMc0 : ∀ e ∈ ([(0, 68, 4), (3, 26, 3), (4, 49, 4), (4, 63, 3), (4, 83, 5), (5, 214, 4)] : List (Nat × Nat × Nat)), nl_okMM e := List.forall_mem_cons.mpr ⟨nl_MM_0, List.forall_mem_cons.mpr ⟨nl_MM_1, List.forall_mem_cons.mpr ⟨nl_MM_2, List.forall_mem_cons.mpr ⟨nl_MM_3, List.forall_mem_cons.mpr ⟨nl_MM_4, List.forall_mem_cons.mpr ⟨nl_MM_5, fun _ h => absurd h List.not_mem_nil⟩⟩⟩⟩⟩⟩
set_option maxRecDepth 100000 in
theorem nl_MM_eq : nl_MM = ([(0, 68, 4), (3, 26, 3), (4, 49, 4), (4, 63, 3), (4, 83, 5), (5, 214, 4)] : List (Nat × Nat × Nat)) := rfl
theorem nl_MM_all : ∀ e ∈ nl_MM, nl_okMM e := by
  rw [nl_MM_eq]
  exact nl_MMc0
set_option maxRecDepth 100000 in
theorem nl_ma3 : Cond.static Lib.Math.max.name ∈ nl_WL ∧ Cond.code Lib.Math.max.name Lib.Math.max.code 2 (some .int) ∈ nl_WL := ⟨(nl_w1 120 rfl rfl), (nl_w1 121 rfl rfl)⟩
set_option maxRecDepth 100000 in
theorem nl_ma4 : Cond.static Lib.Math.min.name ∈ nl_WL ∧ Cond.code Lib.Math.min.name Lib.Math.min.code 2 (some .int) ∈ nl_WL := ⟨(nl_w2 31 rfl rfl), (nl_w2 32 rfl rfl)⟩
set_option maxRecDepth 100000 in
theorem nl_ma5 : Cond.static Lib.Math.abs.name ∈ nl_WL ∧ Cond.code Lib.Math.abs.name Lib.Math.abs.code 1 (some .int) ∈ nl_WL := ⟨(nl_w3 27 rfl rfl), (nl_w3 28 rfl rfl)⟩
theorem nl_mi : Cond.initialized "java/lang/Math" ∈ nl_WL := (nl_w1 5 rfl rfl)
def nl_KI : List (Nat × Nat × Nat) := [(6, 193, 1048576), (8, 265, 1431655765), (8, 266, 858993459), (8, 267, 252645135)]
def nl_okKI (e : Nat × Nat × Nat) : Prop := Cond.constant (nl_R e.1) e.2.1 (Int32.ofInt e.2.2) ∈ nl_WL
set_option maxRecDepth 100000 in
theorem nl_KI_0 : nl_okKI (6, 193, 1048576) := (nl_w4 142 rfl rfl)
set_option maxRecDepth 100000 in
theorem nl_KI_1 : nl_okKI (8, 265, 1431655765) := (nl_w2 228 rfl rfl)
set_option maxRecDepth 100000 in
theorem nl_KI_2 : nl_okKI (8, 266, 858993459) := (nl_w2 229 rfl rfl)
set_option maxRecDepth 100000 in
theorem nl_KI_3 : nl_okKI (8, 267, 252645135) := (nl_w2 230 rfl rfl)
theorem nl_KIc0 : ∀ e ∈ ([(6, 193, 1048576), (8, 265, 1431655765), (8, 266, 858993459), (8, 267, 252645135)] : List (Nat × Nat × Nat)), nl_okKI e := List.forall_mem_cons.mpr ⟨nl_KI_0, List.forall_mem_cons.mpr ⟨nl_KI_1, List.forall_mem_cons.mpr ⟨nl_KI_2, List.forall_mem_cons.mpr ⟨nl_KI_3, fun _ h => absurd h List.not_mem_nil⟩⟩⟩⟩
set_option maxRecDepth 100000 in
theorem nl_KI_eq : nl_KI = ([(6, 193, 1048576), (8, 265, 1431655765), (8, 266, 858993459), (8, 267, 252645135)] : List (Nat × Nat × Nat)) := rfl
theorem nl_KI_all : ∀ e ∈ nl_KI, nl_okKI e := by
  rw [nl_KI_eq]
  exact nl_KIc0
def nl_KL : List (Nat × Nat × Nat) := [(5, 237, 7919), (5, 239, 6151), (5, 241, 65521), (5, 243, 2), (6, 221, 10), (6, 227, 7919), (6, 229, 6151), (6, 231, 65521), (6, 233, 2)]
def nl_okKL (e : Nat × Nat × Nat) : Prop := Cond.constantLong (nl_R e.1) e.2.1 (Int64.ofInt e.2.2) ∈ nl_WL
set_option maxRecDepth 100000 in
theorem nl_KL_0 : nl_okKL (5, 237, 7919) := (nl_w3 88 rfl rfl)
set_option maxRecDepth 100000 in
theorem nl_KL_1 : nl_okKL (5, 239, 6151) := (nl_w3 89 rfl rfl)
set_option maxRecDepth 100000 in
theorem nl_KL_2 : nl_okKL (5, 241, 65521) := (nl_w3 90 rfl rfl)
set_option maxRecDepth 100000 in
theorem nl_KL_3 : nl_okKL (5, 243, 2) := (nl_w3 91 rfl rfl)
set_option maxRecDepth 100000 in
theorem nl_KL_4 : nl_okKL (6, 221, 10) := (nl_w4 208 rfl rfl)
set_option maxRecDepth 100000 in
theorem nl_KL_5 : nl_okKL (6, 227, 7919) := (nl_w4 216 rfl rfl)
set_option maxRecDepth 100000 in
theorem nl_KL_6 : nl_okKL (6, 229, 6151) := (nl_w4 217 rfl rfl)
set_option maxRecDepth 100000 in
theorem nl_KL_7 : nl_okKL (6, 231, 65521) := (nl_w4 218 rfl rfl)
set_option maxRecDepth 100000 in
theorem nl_KL_8 : nl_okKL (6, 233, 2) := (nl_w4 219 rfl rfl)
theorem nl_KLc0 : ∀ e ∈ ([(5, 237, 7919), (5, 239, 6151), (5, 241, 65521), (5, 243, 2), (6, 221, 10), (6, 227, 7919), (6, 229, 6151), (6, 231, 65521), (6, 233, 2)] : List (Nat × Nat × Nat)), nl_okKL e := List.forall_mem_cons.mpr ⟨nl_KL_0, List.forall_mem_cons.mpr ⟨nl_KL_1, List.forall_mem_cons.mpr ⟨nl_KL_2, List.forall_mem_cons.mpr ⟨nl_KL_3, List.forall_mem_cons.mpr ⟨nl_KL_4, List.forall_mem_cons.mpr ⟨nl_KL_5, List.forall_mem_cons.mpr ⟨nl_KL_6, List.forall_mem_cons.mpr ⟨nl_KL_7, List.forall_mem_cons.mpr ⟨nl_KL_8, fun _ h => absurd h List.not_mem_nil⟩⟩⟩⟩⟩⟩⟩⟩⟩
set_option maxRecDepth 100000 in
theorem nl_KL_eq : nl_KL = ([(5, 237, 7919), (5, 239, 6151), (5, 241, 65521), (5, 243, 2), (6, 221, 10), (6, 227, 7919), (6, 229, 6151), (6, 231, 65521), (6, 233, 2)] : List (Nat × Nat × Nat)) := rfl
theorem nl_KL_all : ∀ e ∈ nl_KL, nl_okKL e := by
  rw [nl_KL_eq]
  exact nl_KLc0
set_option maxRecDepth 100000 in
theorem nl_la0_0 : u_lay (nl_R 0) (nl_T 0) 0 ∈ nl_WL := (nl_w1 168 rfl rfl)
set_option maxRecDepth 100000 in
theorem nl_la0_1 : u_lay (nl_R 0) (nl_T 0) 1 ∈ nl_WL := (nl_w1 170 rfl rfl)
set_option maxRecDepth 100000 in
theorem nl_la0_2 : u_lay (nl_R 0) (nl_T 0) 2 ∈ nl_WL := (nl_w1 172 rfl rfl)
set_option maxRecDepth 100000 in
theorem nl_la0_3 : u_lay (nl_R 0) (nl_T 0) 3 ∈ nl_WL := (nl_w1 174 rfl rfl)
set_option maxRecDepth 100000 in
theorem nl_la0_4 : u_lay (nl_R 0) (nl_T 0) 4 ∈ nl_WL := (nl_w1 176 rfl rfl)
set_option maxRecDepth 100000 in
theorem nl_la0_5 : u_lay (nl_R 0) (nl_T 0) 5 ∈ nl_WL := (nl_w1 178 rfl rfl)
theorem nl_la0 : ∀ k, k < 6 → u_lay (nl_R 0) (nl_T 0) k ∈ nl_WL := by
  intro k hk
  match k, hk with
  | 0, _ => exact nl_la0_0
  | 1, _ => exact nl_la0_1
  | 2, _ => exact nl_la0_2
  | 3, _ => exact nl_la0_3
  | 4, _ => exact nl_la0_4
  | 5, _ => exact nl_la0_5
  | n + 6, h => exact absurd h (by omega)
set_option maxRecDepth 100000 in
theorem nl_la1_0 : u_lay (nl_R 1) (nl_T 1) 0 ∈ nl_WL := (nl_w1 42 rfl rfl)
set_option maxRecDepth 100000 in
theorem nl_la1_1 : u_lay (nl_R 1) (nl_T 1) 1 ∈ nl_WL := (nl_w1 44 rfl rfl)
set_option maxRecDepth 100000 in
theorem nl_la1_2 : u_lay (nl_R 1) (nl_T 1) 2 ∈ nl_WL := (nl_w1 46 rfl rfl)
set_option maxRecDepth 100000 in
theorem nl_la1_3 : u_lay (nl_R 1) (nl_T 1) 3 ∈ nl_WL := (nl_w1 48 rfl rfl)
set_option maxRecDepth 100000 in
theorem nl_la1_4 : u_lay (nl_R 1) (nl_T 1) 4 ∈ nl_WL := (nl_w1 50 rfl rfl)
set_option maxRecDepth 100000 in
theorem nl_la1_5 : u_lay (nl_R 1) (nl_T 1) 5 ∈ nl_WL := (nl_w1 52 rfl rfl)
set_option maxRecDepth 100000 in
theorem nl_la1_6 : u_lay (nl_R 1) (nl_T 1) 6 ∈ nl_WL := (nl_w1 54 rfl rfl)
set_option maxRecDepth 100000 in
theorem nl_la1_7 : u_lay (nl_R 1) (nl_T 1) 7 ∈ nl_WL := (nl_w1 56 rfl rfl)
theorem nl_la1 : ∀ k, k < 8 → u_lay (nl_R 1) (nl_T 1) k ∈ nl_WL := by
  intro k hk
  match k, hk with
  | 0, _ => exact nl_la1_0
  | 1, _ => exact nl_la1_1
  | 2, _ => exact nl_la1_2
  | 3, _ => exact nl_la1_3
  | 4, _ => exact nl_la1_4
  | 5, _ => exact nl_la1_5
  | 6, _ => exact nl_la1_6
  | 7, _ => exact nl_la1_7
  | n + 8, h => exact absurd h (by omega)
set_option maxRecDepth 100000 in
theorem nl_la2_0 : u_lay (nl_R 2) (nl_T 2) 0 ∈ nl_WL := (nl_w1 128 rfl rfl)
set_option maxRecDepth 100000 in
theorem nl_la2_1 : u_lay (nl_R 2) (nl_T 2) 1 ∈ nl_WL := (nl_w1 130 rfl rfl)
theorem nl_la2 : ∀ k, k < 2 → u_lay (nl_R 2) (nl_T 2) k ∈ nl_WL := by
  intro k hk
  match k, hk with
  | 0, _ => exact nl_la2_0
  | 1, _ => exact nl_la2_1
  | n + 2, h => exact absurd h (by omega)
set_option maxRecDepth 100000 in
theorem nl_la3_0 : u_lay (nl_R 3) (nl_T 3) 0 ∈ nl_WL := (nl_w1 144 rfl rfl)
set_option maxRecDepth 100000 in
theorem nl_la3_1 : u_lay (nl_R 3) (nl_T 3) 1 ∈ nl_WL := (nl_w1 146 rfl rfl)
set_option maxRecDepth 100000 in
theorem nl_la3_2 : u_lay (nl_R 3) (nl_T 3) 2 ∈ nl_WL := (nl_w1 148 rfl rfl)
set_option maxRecDepth 100000 in
theorem nl_la3_3 : u_lay (nl_R 3) (nl_T 3) 3 ∈ nl_WL := (nl_w1 150 rfl rfl)
theorem nl_la3 : ∀ k, k < 4 → u_lay (nl_R 3) (nl_T 3) k ∈ nl_WL := by
  intro k hk
  match k, hk with
  | 0, _ => exact nl_la3_0
  | 1, _ => exact nl_la3_1
  | 2, _ => exact nl_la3_2
  | 3, _ => exact nl_la3_3
  | n + 4, h => exact absurd h (by omega)
set_option maxRecDepth 100000 in
theorem nl_la4_0 : u_lay (nl_R 4) (nl_T 4) 0 ∈ nl_WL := (nl_w1 90 rfl rfl)
set_option maxRecDepth 100000 in
theorem nl_la4_1 : u_lay (nl_R 4) (nl_T 4) 1 ∈ nl_WL := (nl_w1 92 rfl rfl)
set_option maxRecDepth 100000 in
theorem nl_la4_2 : u_lay (nl_R 4) (nl_T 4) 2 ∈ nl_WL := (nl_w1 94 rfl rfl)
set_option maxRecDepth 100000 in
theorem nl_la4_3 : u_lay (nl_R 4) (nl_T 4) 3 ∈ nl_WL := (nl_w1 96 rfl rfl)
set_option maxRecDepth 100000 in
theorem nl_la4_4 : u_lay (nl_R 4) (nl_T 4) 4 ∈ nl_WL := (nl_w1 98 rfl rfl)
set_option maxRecDepth 100000 in
theorem nl_la4_5 : u_lay (nl_R 4) (nl_T 4) 5 ∈ nl_WL := (nl_w1 100 rfl rfl)
set_option maxRecDepth 100000 in
theorem nl_la4_6 : u_lay (nl_R 4) (nl_T 4) 6 ∈ nl_WL := (nl_w1 102 rfl rfl)
set_option maxRecDepth 100000 in
theorem nl_la4_7 : u_lay (nl_R 4) (nl_T 4) 7 ∈ nl_WL := (nl_w1 104 rfl rfl)
set_option maxRecDepth 100000 in
theorem nl_la4_8 : u_lay (nl_R 4) (nl_T 4) 8 ∈ nl_WL := (nl_w1 106 rfl rfl)
set_option maxRecDepth 100000 in
theorem nl_la4_9 : u_lay (nl_R 4) (nl_T 4) 9 ∈ nl_WL := (nl_w1 108 rfl rfl)
set_option maxRecDepth 100000 in
theorem nl_la4_10 : u_lay (nl_R 4) (nl_T 4) 10 ∈ nl_WL := (nl_w1 110 rfl rfl)
theorem nl_la4 : ∀ k, k < 11 → u_lay (nl_R 4) (nl_T 4) k ∈ nl_WL := by
  intro k hk
  match k, hk with
  | 0, _ => exact nl_la4_0
  | 1, _ => exact nl_la4_1
  | 2, _ => exact nl_la4_2
  | 3, _ => exact nl_la4_3
  | 4, _ => exact nl_la4_4
  | 5, _ => exact nl_la4_5
  | 6, _ => exact nl_la4_6
  | 7, _ => exact nl_la4_7
  | 8, _ => exact nl_la4_8
  | 9, _ => exact nl_la4_9
  | 10, _ => exact nl_la4_10
  | n + 11, h => exact absurd h (by omega)
set_option maxRecDepth 100000 in
theorem nl_la5_0 : u_lay (nl_R 5) (nl_T 5) 0 ∈ nl_WL := (nl_w2 54 rfl rfl)
set_option maxRecDepth 100000 in
theorem nl_la5_1 : u_lay (nl_R 5) (nl_T 5) 1 ∈ nl_WL := (nl_w2 56 rfl rfl)
set_option maxRecDepth 100000 in
theorem nl_la5_2 : u_lay (nl_R 5) (nl_T 5) 2 ∈ nl_WL := (nl_w2 58 rfl rfl)
set_option maxRecDepth 100000 in
theorem nl_la5_3 : u_lay (nl_R 5) (nl_T 5) 3 ∈ nl_WL := (nl_w2 60 rfl rfl)
set_option maxRecDepth 100000 in
theorem nl_la5_4 : u_lay (nl_R 5) (nl_T 5) 4 ∈ nl_WL := (nl_w2 62 rfl rfl)
set_option maxRecDepth 100000 in
theorem nl_la5_5 : u_lay (nl_R 5) (nl_T 5) 5 ∈ nl_WL := (nl_w2 64 rfl rfl)
set_option maxRecDepth 100000 in
theorem nl_la5_6 : u_lay (nl_R 5) (nl_T 5) 6 ∈ nl_WL := (nl_w2 66 rfl rfl)
set_option maxRecDepth 100000 in
theorem nl_la5_7 : u_lay (nl_R 5) (nl_T 5) 7 ∈ nl_WL := (nl_w2 68 rfl rfl)
set_option maxRecDepth 100000 in
theorem nl_la5_8 : u_lay (nl_R 5) (nl_T 5) 8 ∈ nl_WL := (nl_w2 70 rfl rfl)
theorem nl_la5 : ∀ k, k < 9 → u_lay (nl_R 5) (nl_T 5) k ∈ nl_WL := by
  intro k hk
  match k, hk with
  | 0, _ => exact nl_la5_0
  | 1, _ => exact nl_la5_1
  | 2, _ => exact nl_la5_2
  | 3, _ => exact nl_la5_3
  | 4, _ => exact nl_la5_4
  | 5, _ => exact nl_la5_5
  | 6, _ => exact nl_la5_6
  | 7, _ => exact nl_la5_7
  | 8, _ => exact nl_la5_8
  | n + 9, h => exact absurd h (by omega)
set_option maxRecDepth 100000 in
theorem nl_la6_0 : u_lay (nl_R 6) (nl_T 6) 0 ∈ nl_WL := (nl_w3 159 rfl rfl)
set_option maxRecDepth 100000 in
theorem nl_la6_1 : u_lay (nl_R 6) (nl_T 6) 1 ∈ nl_WL := (nl_w3 161 rfl rfl)
set_option maxRecDepth 100000 in
theorem nl_la6_2 : u_lay (nl_R 6) (nl_T 6) 2 ∈ nl_WL := (nl_w3 163 rfl rfl)
set_option maxRecDepth 100000 in
theorem nl_la6_3 : u_lay (nl_R 6) (nl_T 6) 3 ∈ nl_WL := (nl_w3 165 rfl rfl)
set_option maxRecDepth 100000 in
theorem nl_la6_4 : u_lay (nl_R 6) (nl_T 6) 4 ∈ nl_WL := (nl_w3 167 rfl rfl)
set_option maxRecDepth 100000 in
theorem nl_la6_5 : u_lay (nl_R 6) (nl_T 6) 5 ∈ nl_WL := (nl_w3 169 rfl rfl)
set_option maxRecDepth 100000 in
theorem nl_la6_6 : u_lay (nl_R 6) (nl_T 6) 6 ∈ nl_WL := (nl_w3 171 rfl rfl)
set_option maxRecDepth 100000 in
theorem nl_la6_7 : u_lay (nl_R 6) (nl_T 6) 7 ∈ nl_WL := (nl_w3 173 rfl rfl)
set_option maxRecDepth 100000 in
theorem nl_la6_8 : u_lay (nl_R 6) (nl_T 6) 8 ∈ nl_WL := (nl_w3 175 rfl rfl)
set_option maxRecDepth 100000 in
theorem nl_la6_9 : u_lay (nl_R 6) (nl_T 6) 9 ∈ nl_WL := (nl_w3 177 rfl rfl)
set_option maxRecDepth 100000 in
theorem nl_la6_10 : u_lay (nl_R 6) (nl_T 6) 10 ∈ nl_WL := (nl_w3 179 rfl rfl)
set_option maxRecDepth 100000 in
theorem nl_la6_11 : u_lay (nl_R 6) (nl_T 6) 11 ∈ nl_WL := (nl_w3 181 rfl rfl)
set_option maxRecDepth 100000 in
theorem nl_la6_12 : u_lay (nl_R 6) (nl_T 6) 12 ∈ nl_WL := (nl_w3 183 rfl rfl)
set_option maxRecDepth 100000 in
theorem nl_la6_13 : u_lay (nl_R 6) (nl_T 6) 13 ∈ nl_WL := (nl_w3 185 rfl rfl)
set_option maxRecDepth 100000 in
theorem nl_la6_14 : u_lay (nl_R 6) (nl_T 6) 14 ∈ nl_WL := (nl_w3 187 rfl rfl)
set_option maxRecDepth 100000 in
theorem nl_la6_15 : u_lay (nl_R 6) (nl_T 6) 15 ∈ nl_WL := (nl_w3 189 rfl rfl)
set_option maxRecDepth 100000 in
theorem nl_la6_16 : u_lay (nl_R 6) (nl_T 6) 16 ∈ nl_WL := (nl_w3 191 rfl rfl)
set_option maxRecDepth 100000 in
theorem nl_la6_17 : u_lay (nl_R 6) (nl_T 6) 17 ∈ nl_WL := (nl_w3 193 rfl rfl)
set_option maxRecDepth 100000 in
theorem nl_la6_18 : u_lay (nl_R 6) (nl_T 6) 18 ∈ nl_WL := (nl_w3 195 rfl rfl)
set_option maxRecDepth 100000 in
theorem nl_la6_19 : u_lay (nl_R 6) (nl_T 6) 19 ∈ nl_WL := (nl_w3 197 rfl rfl)
set_option maxRecDepth 100000 in
theorem nl_la6_20 : u_lay (nl_R 6) (nl_T 6) 20 ∈ nl_WL := (nl_w3 199 rfl rfl)
set_option maxRecDepth 100000 in
theorem nl_la6_21 : u_lay (nl_R 6) (nl_T 6) 21 ∈ nl_WL := (nl_w3 201 rfl rfl)
set_option maxRecDepth 100000 in
theorem nl_la6_22 : u_lay (nl_R 6) (nl_T 6) 22 ∈ nl_WL := (nl_w3 203 rfl rfl)
set_option maxRecDepth 100000 in
theorem nl_la6_23 : u_lay (nl_R 6) (nl_T 6) 23 ∈ nl_WL := (nl_w3 205 rfl rfl)
set_option maxRecDepth 100000 in
theorem nl_la6_24 : u_lay (nl_R 6) (nl_T 6) 24 ∈ nl_WL := (nl_w3 207 rfl rfl)
set_option maxRecDepth 100000 in
theorem nl_la6_25 : u_lay (nl_R 6) (nl_T 6) 25 ∈ nl_WL := (nl_w3 209 rfl rfl)
set_option maxRecDepth 100000 in
theorem nl_la6_26 : u_lay (nl_R 6) (nl_T 6) 26 ∈ nl_WL := (nl_w3 211 rfl rfl)
set_option maxRecDepth 100000 in
theorem nl_la6_27 : u_lay (nl_R 6) (nl_T 6) 27 ∈ nl_WL := (nl_w3 213 rfl rfl)
set_option maxRecDepth 100000 in
theorem nl_la6_28 : u_lay (nl_R 6) (nl_T 6) 28 ∈ nl_WL := (nl_w3 215 rfl rfl)
set_option maxRecDepth 100000 in
theorem nl_la6_29 : u_lay (nl_R 6) (nl_T 6) 29 ∈ nl_WL := (nl_w3 217 rfl rfl)
theorem nl_la6 : ∀ k, k < 30 → u_lay (nl_R 6) (nl_T 6) k ∈ nl_WL := by
  intro k hk
  match k, hk with
  | 0, _ => exact nl_la6_0
  | 1, _ => exact nl_la6_1
  | 2, _ => exact nl_la6_2
  | 3, _ => exact nl_la6_3
  | 4, _ => exact nl_la6_4
  | 5, _ => exact nl_la6_5
  | 6, _ => exact nl_la6_6
  | 7, _ => exact nl_la6_7
  | 8, _ => exact nl_la6_8
  | 9, _ => exact nl_la6_9
  | 10, _ => exact nl_la6_10
  | 11, _ => exact nl_la6_11
  | 12, _ => exact nl_la6_12
  | 13, _ => exact nl_la6_13
  | 14, _ => exact nl_la6_14
  | 15, _ => exact nl_la6_15
  | 16, _ => exact nl_la6_16
  | 17, _ => exact nl_la6_17
  | 18, _ => exact nl_la6_18
  | 19, _ => exact nl_la6_19
  | 20, _ => exact nl_la6_20
  | 21, _ => exact nl_la6_21
  | 22, _ => exact nl_la6_22
  | 23, _ => exact nl_la6_23
  | 24, _ => exact nl_la6_24
  | 25, _ => exact nl_la6_25
  | 26, _ => exact nl_la6_26
  | 27, _ => exact nl_la6_27
  | 28, _ => exact nl_la6_28
  | 29, _ => exact nl_la6_29
  | n + 30, h => exact absurd h (by omega)
theorem nl_lays (c : Nat) (hc : c < 7) : ∀ w ∈ u_ws (nl_R c) (nl_T c) (nl_N c), w ∈ nl_WL := by
  intro w hw
  obtain ⟨k, hk, rfl⟩ := List.mem_map.mp hw
  have hk := List.mem_range.mp hk
  match c, hc with
  | 0, _ => exact nl_la0 k hk
  | 1, _ => exact nl_la1 k hk
  | 2, _ => exact nl_la2 k hk
  | 3, _ => exact nl_la3 k hk
  | 4, _ => exact nl_la4 k hk
  | 5, _ => exact nl_la5 k hk
  | 6, _ => exact nl_la6 k hk
