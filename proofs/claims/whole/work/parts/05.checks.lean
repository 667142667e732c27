/-! The tables are what the bytes say. -/
def nl_fk (c k : Nat) : Nat := match c with
  | 0 => match k with
    | 0 => 1
    | 1 => 1
    | 2 => 1
    | 3 => 1
    | 4 => 1
    | _ => 0
  | 1 => match k with
    | 0 => 1
    | 1 => 1
    | 2 => 1
    | 3 => 1
    | 4 => 1
    | 5 => 0
    | 6 => 0
    | _ => 0
  | 2 => match k with
    | 0 => 1
    | _ => 0
  | 3 => match k with
    | 0 => 1
    | 1 => 1
    | 2 => 1
    | _ => 0
  | 4 => match k with
    | 0 => 0
    | 1 => 0
    | 2 => 0
    | 3 => 1
    | 4 => 1
    | 5 => 1
    | 6 => 1
    | 7 => 1
    | 8 => 1
    | 9 => 1
    | _ => 1
  | 5 => match k with
    | 0 => 1
    | 1 => 0
    | 2 => 34
    | 3 => 130
    | 4 => 131
    | 5 => 66
    | 6 => 67
    | 7 => 98
    | _ => 2
  | _ => match k with
    | 0 => 0
    | 1 => 1
    | 2 => 1
    | 3 => 1
    | 4 => 0
    | 5 => 0
    | 6 => 1
    | 7 => 1
    | 8 => 1
    | 9 => 1
    | 10 => 1
    | 11 => 0
    | 12 => 1
    | 13 => 1
    | 14 => 1
    | 15 => 1
    | 16 => 0
    | 17 => 0
    | 18 => 0
    | 19 => 0
    | 20 => 1
    | 21 => 1
    | 22 => 0
    | 23 => 1
    | 24 => 0
    | 25 => 1
    | 26 => 1
    | 27 => 1
    | 28 => 1
    | _ => 0
theorem nl_fi0 : ∀ k, k < 6 → nl_fk 0 k = 0 → (nl_T 0 k).2.2.2 = false ∧ (nl_T 0 k).2.2.1 = "I" := by
  intro k hk h
  match k, hk, h with
  | 0, _, h => exact absurd h (by decide)
  | 1, _, h => exact absurd h (by decide)
  | 2, _, h => exact absurd h (by decide)
  | 3, _, h => exact absurd h (by decide)
  | 4, _, h => exact absurd h (by decide)
  | 5, _, h => exact ⟨rfl, rfl⟩
  | n + 6, hk, _ => exact absurd hk (by omega)
theorem nl_fi1 : ∀ k, k < 8 → nl_fk 1 k = 0 → (nl_T 1 k).2.2.2 = false ∧ (nl_T 1 k).2.2.1 = "I" := by
  intro k hk h
  match k, hk, h with
  | 0, _, h => exact absurd h (by decide)
  | 1, _, h => exact absurd h (by decide)
  | 2, _, h => exact absurd h (by decide)
  | 3, _, h => exact absurd h (by decide)
  | 4, _, h => exact absurd h (by decide)
  | 5, _, h => exact ⟨rfl, rfl⟩
  | 6, _, h => exact ⟨rfl, rfl⟩
  | 7, _, h => exact ⟨rfl, rfl⟩
  | n + 8, hk, _ => exact absurd hk (by omega)
theorem nl_fi2 : ∀ k, k < 2 → nl_fk 2 k = 0 → (nl_T 2 k).2.2.2 = false ∧ (nl_T 2 k).2.2.1 = "I" := by
  intro k hk h
  match k, hk, h with
  | 0, _, h => exact absurd h (by decide)
  | 1, _, h => exact ⟨rfl, rfl⟩
  | n + 2, hk, _ => exact absurd hk (by omega)
theorem nl_fi3 : ∀ k, k < 4 → nl_fk 3 k = 0 → (nl_T 3 k).2.2.2 = false ∧ (nl_T 3 k).2.2.1 = "I" := by
  intro k hk h
  match k, hk, h with
  | 0, _, h => exact absurd h (by decide)
  | 1, _, h => exact absurd h (by decide)
  | 2, _, h => exact absurd h (by decide)
  | 3, _, h => exact ⟨rfl, rfl⟩
  | n + 4, hk, _ => exact absurd hk (by omega)
theorem nl_fi4 : ∀ k, k < 11 → nl_fk 4 k = 0 → (nl_T 4 k).2.2.2 = false ∧ (nl_T 4 k).2.2.1 = "I" := by
  intro k hk h
  match k, hk, h with
  | 0, _, h => exact ⟨rfl, rfl⟩
  | 1, _, h => exact ⟨rfl, rfl⟩
  | 2, _, h => exact ⟨rfl, rfl⟩
  | 3, _, h => exact absurd h (by decide)
  | 4, _, h => exact absurd h (by decide)
  | 5, _, h => exact absurd h (by decide)
  | 6, _, h => exact absurd h (by decide)
  | 7, _, h => exact absurd h (by decide)
  | 8, _, h => exact absurd h (by decide)
  | 9, _, h => exact absurd h (by decide)
  | 10, _, h => exact absurd h (by decide)
  | n + 11, hk, _ => exact absurd hk (by omega)
theorem nl_fi5 : ∀ k, k < 9 → nl_fk 5 k = 0 → (nl_T 5 k).2.2.2 = false ∧ (nl_T 5 k).2.2.1 = "I" := by
  intro k hk h
  match k, hk, h with
  | 0, _, h => exact absurd h (by decide)
  | 1, _, h => exact ⟨rfl, rfl⟩
  | 2, _, h => exact absurd h (by decide)
  | 3, _, h => exact absurd h (by decide)
  | 4, _, h => exact absurd h (by decide)
  | 5, _, h => exact absurd h (by decide)
  | 6, _, h => exact absurd h (by decide)
  | 7, _, h => exact absurd h (by decide)
  | 8, _, h => exact absurd h (by decide)
  | n + 9, hk, _ => exact absurd hk (by omega)
theorem nl_fi6 : ∀ k, k < 30 → nl_fk 6 k = 0 → (nl_T 6 k).2.2.2 = false ∧ (nl_T 6 k).2.2.1 = "I" := by
  intro k hk h
  match k, hk, h with
  | 0, _, h => exact ⟨rfl, rfl⟩
  | 1, _, h => exact absurd h (by decide)
  | 2, _, h => exact absurd h (by decide)
  | 3, _, h => exact absurd h (by decide)
  | 4, _, h => exact ⟨rfl, rfl⟩
  | 5, _, h => exact ⟨rfl, rfl⟩
  | 6, _, h => exact absurd h (by decide)
  | 7, _, h => exact absurd h (by decide)
  | 8, _, h => exact absurd h (by decide)
  | 9, _, h => exact absurd h (by decide)
  | 10, _, h => exact absurd h (by decide)
  | 11, _, h => exact ⟨rfl, rfl⟩
  | 12, _, h => exact absurd h (by decide)
  | 13, _, h => exact absurd h (by decide)
  | 14, _, h => exact absurd h (by decide)
  | 15, _, h => exact absurd h (by decide)
  | 16, _, h => exact ⟨rfl, rfl⟩
  | 17, _, h => exact ⟨rfl, rfl⟩
  | 18, _, h => exact ⟨rfl, rfl⟩
  | 19, _, h => exact ⟨rfl, rfl⟩
  | 20, _, h => exact absurd h (by decide)
  | 21, _, h => exact absurd h (by decide)
  | 22, _, h => exact ⟨rfl, rfl⟩
  | 23, _, h => exact absurd h (by decide)
  | 24, _, h => exact ⟨rfl, rfl⟩
  | 25, _, h => exact absurd h (by decide)
  | 26, _, h => exact absurd h (by decide)
  | 27, _, h => exact absurd h (by decide)
  | 28, _, h => exact absurd h (by decide)
  | 29, _, h => exact ⟨rfl, rfl⟩
  | n + 30, hk, _ => exact absurd hk (by omega)
theorem nl_fint (c : Nat) (hc : c < 7) (k : Nat) (hk : k < nl_N c) (h : nl_fk c k = 0) : (nl_T c k).2.2.2 = false ∧ (nl_T c k).2.2.1 = "I" := by
  match c, hc with
  | 0, _ => exact nl_fi0 k hk h
  | 1, _ => exact nl_fi1 k hk h
  | 2, _ => exact nl_fi2 k hk h
  | 3, _ => exact nl_fi3 k hk h
  | 4, _ => exact nl_fi4 k hk h
  | 5, _ => exact nl_fi5 k hk h
  | 6, _ => exact nl_fi6 k hk h
  | n + 7, hc => exact absurd hc (by omega)
def nl_r3 : Option FieldType → Nat
  | none => 0
  | some .int => 1
  | some .long => 2
  | some .boolean => 3
  | _ => 9
def nl_rc (r : Nat) : Nat := match r with
  | 3 => 1
  | r => r
/-- what a row of the code needs beside its bytes -/
def nl_ok (ci nL : Nat) (e : nl_E) : Bool := match e with
  | (pc, i, len, a, b, c) => match i with
    | .iconst _ => len == 1
    | .bipush n => decide (-128 ≤ n) && decide (n < 128) && len == 2
    | .sipush n => decide (-32768 ≤ n) && decide (n < 32768) && len == 3
    | .ldc k => nl_KI.contains (ci, k, a) && len == 2
    | .ldc_w k => nl_KI.contains (ci, k, a) && len == 3
    | .ldc2_w k => nl_KL.contains (ci, k, a) && len == 3
    | .iload _ => len == 2
    | .lload _ => len == 2
    | .aload _ => len == 2
    | .istore k => Nat.blt k nL && len == 2
    | .astore k => Nat.blt k nL && len == 2
    | .lstore k => Nat.blt (k + 1) nL && len == 2
    | .istore_n k => Nat.blt k nL && len == 1
    | .astore_n k => Nat.blt k nL && len == 1
    | .lstore_n k => Nat.blt (k + 1) nL && len == 1
    | .iinc k _ => Nat.blt k nL && len == 3
    | .ifCond _ off => decide ((pc : Int) + off = a) && len == 3
    | .if_icmp _ off => decide ((pc : Int) + off = a) && len == 3
    | .goto off => decide ((pc : Int) + off = a) && len == 3
    | .tableswitch d lo hi offs => decide ((pc : Int) + d = a) && decide (hi - lo + 1 = (c : Int)) && decide (offs.toList.map (fun o => (pc : Int) + o) = (nl_ts c b).map (fun t : Nat => (t : Int)))
    | .getfield k => nl_FL.contains (ci, k, a, b) && Nat.blt a 7 && Nat.blt b (nl_N a) && Nat.beq (nl_fk a b) c && len == 3
    | .putfield k => nl_FL.contains (ci, k, a, b) && Nat.blt a 7 && Nat.blt b (nl_N a) && Nat.beq (nl_fk a b) 0 && len == 3
    | .invokevirtual k => nl_ML.contains (ci, k, a) && len == 3 && (match nl_inf[a]? with
      | some I => Nat.beq I.2.2.2.2.2.1 b && !I.2.2.2.2.2.2 && Nat.beq (nl_rc (nl_r3 I.2.2.2.1)) (c % 4) && Nat.beq I.2.2.2.2.1 (c / 4)
      | none => false)
    | .invokestatic k => if 3 ≤ c then c ≤ 5 && nl_MM.contains (ci, k, c) && len == 3 else (nl_ML.contains (ci, k, a) || (Nat.beq ci 1 && Nat.beq k 52 && Nat.beq a 71)) && len == 3 && (match nl_inf[a]? with
      | some I => Nat.beq I.2.2.2.2.2.1 b && I.2.2.2.2.2.2 && Nat.beq (nl_rc (nl_r3 I.2.2.2.1)) c
      | none => false)
    | _ => len == 1
abbrev nl_okM (M : nl_M) (I : nl_I) : Prop := M.2.2.1 = nl_r3 I.2.2.2.1 ∧ M.2.2.2 = I.2.2.1 ∧ (∀ e ∈ M.1, decode I.2.1 e.1 = .ok (e.2.1, e.2.2.1)) ∧ M.1.all (nl_ok I.2.2.2.2.1 I.2.2.1) = true ∧ M.2.2.2 ≤ 60 ∧ (parseMethodDescriptor I.1.desc).map (fun d => d.parameters.length) = some I.2.2.2.2.2.1
set_option maxRecDepth 100000 in
theorem nl_d0 : nl_okM (cd_X0_choose, ct_X0_choose, 0, 4) (yX0_choose, cX0_choose, 4, none, 0, 1, false) := ⟨rfl, rfl, by decide +kernel, by decide +kernel, by decide, by decide +kernel⟩
set_option maxRecDepth 100000 in
theorem nl_d1 : nl_okM (cd_X0_weigh, ct_X0_weigh, 0, 5) (yX0_weigh, cX0_weigh, 5, none, 0, 1, false) := ⟨rfl, rfl, by decide +kernel, by decide +kernel, by decide, by decide +kernel⟩
set_option maxRecDepth 100000 in
theorem nl_d2 : nl_okM (cd_X0_leastOf, ct_X0_leastOf, 1, 6) (yX0_leastOf, cX0_leastOf, 6, some .int, 0, 2, false) := ⟨rfl, rfl, by decide +kernel, by decide +kernel, by decide, by decide +kernel⟩
set_option maxRecDepth 100000 in
theorem nl_d3 : nl_okM (cd_X0_priceWith, ct_X0_priceWith, 1, 4) (yX0_priceWith, cX0_priceWith, 4, some .int, 0, 3, false) := ⟨rfl, rfl, by decide +kernel, by decide +kernel, by decide, by decide +kernel⟩
set_option maxRecDepth 100000 in
theorem nl_d4 : nl_okM (cd_X0_dealOut, ct_X0_dealOut, 0, 5) (yX0_dealOut, cX0_dealOut, 5, none, 0, 1, false) := ⟨rfl, rfl, by decide +kernel, by decide +kernel, by decide, by decide +kernel⟩
set_option maxRecDepth 100000 in
theorem nl_d5 : nl_okM (cd_X0_lowestOfLeast, ct_X0_lowestOfLeast, 1, 5) (yX0_lowestOfLeast, cX0_lowestOfLeast, 5, some .int, 0, 3, false) := ⟨rfl, rfl, by decide +kernel, by decide +kernel, by decide, by decide +kernel⟩
set_option maxRecDepth 100000 in
theorem nl_d6 : nl_okM (cd_X0_fewestSwaps, ct_X0_fewestSwaps, 1, 3) (yX0_fewestSwaps, cX0_fewestSwaps, 3, some .int, 0, 1, false) := ⟨rfl, rfl, by decide +kernel, by decide +kernel, by decide, by decide +kernel⟩
set_option maxRecDepth 100000 in
theorem nl_d7 : nl_okM (cd_X0_canBridge, ct_X0_canBridge, 3, 8) (yX0_canBridge, cX0_canBridge, 8, some .boolean, 0, 5, true) := ⟨rfl, rfl, by decide +kernel, by decide +kernel, by decide, by decide +kernel⟩
set_option maxRecDepth 100000 in
theorem nl_d8 : nl_okM (cd_X0_exchange, ct_X0_exchange, 0, 4) (yX0_exchange, cX0_exchange, 4, none, 0, 3, true) := ⟨rfl, rfl, by decide +kernel, by decide +kernel, by decide, by decide +kernel⟩
set_option maxRecDepth 100000 in
theorem nl_d9 : nl_okM (cd_X1_read, ct_X1_read, 0, 5) (yX1_read, cX1_read, 5, none, 1, 2, false) := ⟨rfl, rfl, by decide +kernel, by decide +kernel, by decide, by decide +kernel⟩
set_option maxRecDepth 100000 in
theorem nl_d10 : nl_okM (cd_X1_canBeLaid, ct_X1_canBeLaid, 3, 1) (yX1_canBeLaid, cX1_canBeLaid, 1, some .boolean, 1, 0, false) := ⟨rfl, rfl, by decide +kernel, by decide +kernel, by decide, by decide +kernel⟩
set_option maxRecDepth 100000 in
theorem nl_d11 : nl_okM (cd_X1_readItem, ct_X1_readItem, 1, 10) (yX1_readItem, cX1_readItem, 10, some .int, 1, 3, false) := ⟨rfl, rfl, by decide +kernel, by decide +kernel, by decide, by decide +kernel⟩
set_option maxRecDepth 100000 in
theorem nl_d12 : nl_okM (cd_X1_readNumber, ct_X1_readNumber, 1, 7) (yX1_readNumber, cX1_readNumber, 7, some .int, 1, 4, false) := ⟨rfl, rfl, by decide +kernel, by decide +kernel, by decide, by decide +kernel⟩
set_option maxRecDepth 100000 in
theorem nl_d13 : nl_okM (cd_X1_addHour, ct_X1_addHour, 3, 1) (yX1_addHour, cX1_addHour, 1, some .boolean, 1, 0, false) := ⟨rfl, rfl, by decide +kernel, by decide +kernel, by decide, by decide +kernel⟩
set_option maxRecDepth 100000 in
theorem nl_d14 : nl_okM (cd_X1_addHouse, ct_X1_addHouse, 3, 1) (yX1_addHouse, cX1_addHouse, 1, some .boolean, 1, 0, false) := ⟨rfl, rfl, by decide +kernel, by decide +kernel, by decide, by decide +kernel⟩
set_option maxRecDepth 100000 in
theorem nl_d15 : nl_okM (cd_X2_clear, ct_X2_clear, 0, 1) (yX2_clear, cX2_clear, 1, none, 2, 0, false) := ⟨rfl, rfl, by decide +kernel, by decide +kernel, by decide, by decide +kernel⟩
set_option maxRecDepth 100000 in
theorem nl_d16 : nl_okM (cd_X2_put, ct_X2_put, 0, 2) (yX2_put, cX2_put, 2, none, 2, 1, false) := ⟨rfl, rfl, by decide +kernel, by decide +kernel, by decide, by decide +kernel⟩
set_option maxRecDepth 100000 in
theorem nl_d17 : nl_okM (cd_X2_dropOldest, ct_X2_dropOldest, 0, 3) (yX2_dropOldest, cX2_dropOldest, 3, none, 2, 0, false) := ⟨rfl, rfl, by decide +kernel, by decide +kernel, by decide, by decide +kernel⟩
set_option maxRecDepth 100000 in
theorem nl_d18 : nl_okM (cd_X2_takeInto, ct_X2_takeInto, 3, 2) (yX2_takeInto, cX2_takeInto, 2, some .boolean, 2, 1, false) := ⟨rfl, rfl, by decide +kernel, by decide +kernel, by decide, by decide +kernel⟩
set_option maxRecDepth 100000 in
theorem nl_d19 : nl_okM (cd_X3_clear, ct_X3_clear, 0, 1) (yX3_clear, cX3_clear, 1, none, 3, 0, false) := ⟨rfl, rfl, by decide +kernel, by decide +kernel, by decide, by decide +kernel⟩
set_option maxRecDepth 100000 in
theorem nl_d20 : nl_okM (cd_X3_add, ct_X3_add, 0, 4) (yX3_add, cX3_add, 4, none, 3, 3, false) := ⟨rfl, rfl, by decide +kernel, by decide +kernel, by decide, by decide +kernel⟩
set_option maxRecDepth 100000 in
theorem nl_d21 : nl_okM (cd_X3_lastNight, ct_X3_lastNight, 1, 3) (yX3_lastNight, cX3_lastNight, 3, some .int, 3, 0, false) := ⟨rfl, rfl, by decide +kernel, by decide +kernel, by decide, by decide +kernel⟩
set_option maxRecDepth 100000 in
theorem nl_d22 : nl_okM (cd_X3_fit, ct_X3_fit, 3, 4) (yX3_fit, cX3_fit, 4, some .boolean, 3, 2, false) := ⟨rfl, rfl, by decide +kernel, by decide +kernel, by decide, by decide +kernel⟩
set_option maxRecDepth 100000 in
theorem nl_d23 : nl_okM (cd_X4_settle, ct_X4_settle, 0, 3) (yX4_settle, cX4_settle, 3, none, 4, 1, false) := ⟨rfl, rfl, by decide +kernel, by decide +kernel, by decide, by decide +kernel⟩
set_option maxRecDepth 100000 in
theorem nl_d24 : nl_okM (cd_X4_copyFrom, ct_X4_copyFrom, 0, 3) (yX4_copyFrom, cX4_copyFrom, 3, none, 4, 1, false) := ⟨rfl, rfl, by decide +kernel, by decide +kernel, by decide, by decide +kernel⟩
set_option maxRecDepth 100000 in
theorem nl_d25 : nl_okM (cd_X4_isHouse, ct_X4_isHouse, 3, 2) (yX4_isHouse, cX4_isHouse, 2, some .boolean, 4, 1, false) := ⟨rfl, rfl, by decide +kernel, by decide +kernel, by decide, by decide +kernel⟩
set_option maxRecDepth 100000 in
theorem nl_d26 : nl_okM (cd_X4_isHour, ct_X4_isHour, 3, 2) (yX4_isHour, cX4_isHour, 2, some .boolean, 4, 1, false) := ⟨rfl, rfl, by decide +kernel, by decide +kernel, by decide, by decide +kernel⟩
set_option maxRecDepth 100000 in
theorem nl_d27 : nl_okM (cd_X4_houseWith, ct_X4_houseWith, 1, 3) (yX4_houseWith, cX4_houseWith, 3, some .int, 4, 1, false) := ⟨rfl, rfl, by decide +kernel, by decide +kernel, by decide, by decide +kernel⟩
set_option maxRecDepth 100000 in
theorem nl_d28 : nl_okM (cd_X4_timesHad, ct_X4_timesHad, 1, 3) (yX4_timesHad, cX4_timesHad, 3, some .int, 4, 2, false) := ⟨rfl, rfl, by decide +kernel, by decide +kernel, by decide, by decide +kernel⟩
set_option maxRecDepth 100000 in
theorem nl_d29 : nl_okM (cd_X4_heaviness, ct_X4_heaviness, 1, 4) (yX4_heaviness, cX4_heaviness, 4, some .int, 4, 2, false) := ⟨rfl, rfl, by decide +kernel, by decide +kernel, by decide, by decide +kernel⟩
set_option maxRecDepth 100000 in
theorem nl_d30 : nl_okM (cd_X4_hourHadMost, ct_X4_hourHadMost, 1, 6) (yX4_hourHadMost, cX4_hourHadMost, 6, some .int, 4, 1, false) := ⟨rfl, rfl, by decide +kernel, by decide +kernel, by decide, by decide +kernel⟩
set_option maxRecDepth 100000 in
theorem nl_d31 : nl_okM (cd_X4_wouldKeep, ct_X4_wouldKeep, 3, 4) (yX4_wouldKeep, cX4_wouldKeep, 4, some .boolean, 4, 3, false) := ⟨rfl, rfl, by decide +kernel, by decide +kernel, by decide, by decide +kernel⟩
set_option maxRecDepth 100000 in
theorem nl_d32 : nl_okM (cd_X4_isGapAt, ct_X4_isGapAt, 3, 3) (yX4_isGapAt, cX4_isGapAt, 3, some .boolean, 4, 1, false) := ⟨rfl, rfl, by decide +kernel, by decide +kernel, by decide, by decide +kernel⟩
set_option maxRecDepth 100000 in
theorem nl_d33 : nl_okM (cd_X4_seeThrough, ct_X4_seeThrough, 3, 4) (yX4_seeThrough, cX4_seeThrough, 4, some .boolean, 4, 1, false) := ⟨rfl, rfl, by decide +kernel, by decide +kernel, by decide, by decide +kernel⟩
set_option maxRecDepth 100000 in
theorem nl_d34 : nl_okM (cd_X4_letNightsPass, ct_X4_letNightsPass, 1, 5) (yX4_letNightsPass, cX4_letNightsPass, 5, some .int, 4, 1, false) := ⟨rfl, rfl, by decide +kernel, by decide +kernel, by decide, by decide +kernel⟩
set_option maxRecDepth 100000 in
theorem nl_d35 : nl_okM (cd_X4_trade, ct_X4_trade, 0, 4) (yX4_trade, cX4_trade, 4, none, 4, 2, false) := ⟨rfl, rfl, by decide +kernel, by decide +kernel, by decide, by decide +kernel⟩
set_option maxRecDepth 100000 in
theorem nl_d36 : nl_okM (cd_X4_giveRest, ct_X4_giveRest, 0, 2) (yX4_giveRest, cX4_giveRest, 2, none, 4, 1, false) := ⟨rfl, rfl, by decide +kernel, by decide +kernel, by decide, by decide +kernel⟩
set_option maxRecDepth 100000 in
theorem nl_d37 : nl_okM (cd_X4_setBurden, ct_X4_setBurden, 0, 3) (yX4_setBurden, cX4_setBurden, 3, none, 4, 2, false) := ⟨rfl, rfl, by decide +kernel, by decide +kernel, by decide, by decide +kernel⟩
set_option maxRecDepth 100000 in
theorem nl_d38 : nl_okM (cd_X4_tiredTogether, ct_X4_tiredTogether, 1, 3) (yX4_tiredTogether, cX4_tiredTogether, 3, some .int, 4, 0, false) := ⟨rfl, rfl, by decide +kernel, by decide +kernel, by decide, by decide +kernel⟩
set_option maxRecDepth 100000 in
theorem nl_d39 : nl_okM (cd_X4_handingOver, ct_X4_handingOver, 1, 5) (yX4_handingOver, cX4_handingOver, 5, some .int, 4, 0, false) := ⟨rfl, rfl, by decide +kernel, by decide +kernel, by decide, by decide +kernel⟩
set_option maxRecDepth 100000 in
theorem nl_d40 : nl_okM (cd_X4_lengthOfRoad, ct_X4_lengthOfRoad, 1, 4) (yX4_lengthOfRoad, cX4_lengthOfRoad, 4, some .int, 4, 0, false) := ⟨rfl, rfl, by decide +kernel, by decide +kernel, by decide, by decide +kernel⟩
set_option maxRecDepth 100000 in
theorem nl_d41 : nl_okM (cd_X4_stir, ct_X4_stir, 0, 4) (yX4_stir, cX4_stir, 4, none, 4, 1, false) := ⟨rfl, rfl, by decide +kernel, by decide +kernel, by decide, by decide +kernel⟩
set_option maxRecDepth 100000 in
theorem nl_d42 : nl_okM (cd_X5_write, ct_X5_write, 1, 2) (yX5_write, cX5_write, 2, some .int, 5, 1, false) := ⟨rfl, rfl, by decide +kernel, by decide +kernel, by decide, by decide +kernel⟩
set_option maxRecDepth 100000 in
theorem nl_d43 : nl_okM (cd_X5_wipe, ct_X5_wipe, 1, 2) (yX5_wipe, cX5_wipe, 2, some .int, 5, 0, false) := ⟨rfl, rfl, by decide +kernel, by decide +kernel, by decide, by decide +kernel⟩
set_option maxRecDepth 100000 in
theorem nl_d44 : nl_okM (cd_X5_fault, ct_X5_fault, 1, 1) (yX5_fault, cX5_fault, 1, some .int, 5, 0, false) := ⟨rfl, rfl, by decide +kernel, by decide +kernel, by decide, by decide +kernel⟩
set_option maxRecDepth 100000 in
theorem nl_d45 : nl_okM (cd_X5_lay, ct_X5_lay, 1, 1) (yX5_lay, cX5_lay, 1, some .int, 5, 0, false) := ⟨rfl, rfl, by decide +kernel, by decide +kernel, by decide, by decide +kernel⟩
set_option maxRecDepth 100000 in
theorem nl_d46 : nl_okM (cd_X5_house, ct_X5_house, 1, 3) (yX5_house, cX5_house, 3, some .int, 5, 2, false) := ⟨rfl, rfl, by decide +kernel, by decide +kernel, by decide, by decide +kernel⟩
set_option maxRecDepth 100000 in
theorem nl_d47 : nl_okM (cd_X5_hour, ct_X5_hour, 1, 3) (yX5_hour, cX5_hour, 3, some .int, 5, 2, false) := ⟨rfl, rfl, by decide +kernel, by decide +kernel, by decide, by decide +kernel⟩
set_option maxRecDepth 100000 in
theorem nl_d48 : nl_okM (cd_X5_heavy, ct_X5_heavy, 1, 3) (yX5_heavy, cX5_heavy, 3, some .int, 5, 2, false) := ⟨rfl, rfl, by decide +kernel, by decide +kernel, by decide, by decide +kernel⟩
set_option maxRecDepth 100000 in
theorem nl_d49 : nl_okM (cd_X5_had, ct_X5_had, 1, 3) (yX5_had, cX5_had, 3, some .int, 5, 2, false) := ⟨rfl, rfl, by decide +kernel, by decide +kernel, by decide, by decide +kernel⟩
set_option maxRecDepth 100000 in
theorem nl_d50 : nl_okM (cd_X5_pass, ct_X5_pass, 1, 2) (yX5_pass, cX5_pass, 2, some .int, 5, 1, false) := ⟨rfl, rfl, by decide +kernel, by decide +kernel, by decide, by decide +kernel⟩
set_option maxRecDepth 100000 in
theorem nl_d51 : nl_okM (cd_X5_swap, ct_X5_swap, 1, 3) (yX5_swap, cX5_swap, 3, some .int, 5, 2, false) := ⟨rfl, rfl, by decide +kernel, by decide +kernel, by decide, by decide +kernel⟩
set_option maxRecDepth 100000 in
theorem nl_d52 : nl_okM (cd_X5_rest, ct_X5_rest, 1, 2) (yX5_rest, cX5_rest, 2, some .int, 5, 1, false) := ⟨rfl, rfl, by decide +kernel, by decide +kernel, by decide, by decide +kernel⟩
set_option maxRecDepth 100000 in
theorem nl_d53 : nl_okM (cd_X5_burden, ct_X5_burden, 1, 4) (yX5_burden, cX5_burden, 4, some .int, 5, 2, false) := ⟨rfl, rfl, by decide +kernel, by decide +kernel, by decide, by decide +kernel⟩
set_option maxRecDepth 100000 in
theorem nl_d54 : nl_okM (cd_X5_undo, ct_X5_undo, 1, 1) (yX5_undo, cX5_undo, 1, some .int, 5, 0, false) := ⟨rfl, rfl, by decide +kernel, by decide +kernel, by decide, by decide +kernel⟩
set_option maxRecDepth 100000 in
theorem nl_d55 : nl_okM (cd_X5_behind, ct_X5_behind, 1, 4) (yX5_behind, cX5_behind, 4, some .int, 5, 3, false) := ⟨rfl, rfl, by decide +kernel, by decide +kernel, by decide, by decide +kernel⟩
set_option maxRecDepth 100000 in
theorem nl_d56 : nl_okM (cd_X5_gaps, ct_X5_gaps, 1, 3) (yX5_gaps, cX5_gaps, 3, some .int, 5, 0, false) := ⟨rfl, rfl, by decide +kernel, by decide +kernel, by decide, by decide +kernel⟩
set_option maxRecDepth 100000 in
theorem nl_d57 : nl_okM (cd_X5_first, ct_X5_first, 1, 3) (yX5_first, cX5_first, 3, some .int, 5, 1, false) := ⟨rfl, rfl, by decide +kernel, by decide +kernel, by decide, by decide +kernel⟩
set_option maxRecDepth 100000 in
theorem nl_d58 : nl_okM (cd_X5_even, ct_X5_even, 1, 2) (yX5_even, cX5_even, 2, some .int, 5, 1, false) := ⟨rfl, rfl, by decide +kernel, by decide +kernel, by decide, by decide +kernel⟩
set_option maxRecDepth 100000 in
theorem nl_d59 : nl_okM (cd_X5_swaps, ct_X5_swaps, 1, 1) (yX5_swaps, cX5_swaps, 1, some .int, 5, 0, false) := ⟨rfl, rfl, by decide +kernel, by decide +kernel, by decide, by decide +kernel⟩
set_option maxRecDepth 100000 in
theorem nl_d60 : nl_okM (cd_X5_far, ct_X5_far, 1, 2) (yX5_far, cX5_far, 2, some .int, 5, 1, false) := ⟨rfl, rfl, by decide +kernel, by decide +kernel, by decide, by decide +kernel⟩
set_option maxRecDepth 100000 in
theorem nl_d61 : nl_okM (cd_X5_lamps, ct_X5_lamps, 1, 5) (yX5_lamps, cX5_lamps, 5, some .int, 5, 2, false) := ⟨rfl, rfl, by decide +kernel, by decide +kernel, by decide, by decide +kernel⟩
set_option maxRecDepth 100000 in
theorem nl_d62 : nl_okM (cd_X5_seen, ct_X5_seen, 1, 4) (yX5_seen, cX5_seen, 4, some .int, 5, 3, false) := ⟨rfl, rfl, by decide +kernel, by decide +kernel, by decide, by decide +kernel⟩
set_option maxRecDepth 100000 in
theorem nl_d63 : nl_okM (cd_X5_forget, ct_X5_forget, 1, 2) (yX5_forget, cX5_forget, 2, some .int, 5, 0, false) := ⟨rfl, rfl, by decide +kernel, by decide +kernel, by decide, by decide +kernel⟩
set_option maxRecDepth 100000 in
theorem nl_d64 : nl_okM (cd_X5_kinds, ct_X5_kinds, 1, 4) (yX5_kinds, cX5_kinds, 4, some .int, 5, 1, false) := ⟨rfl, rfl, by decide +kernel, by decide +kernel, by decide, by decide +kernel⟩
set_option maxRecDepth 100000 in
theorem nl_d65 : nl_okM (cd_X5_strengths, ct_X5_strengths, 1, 6) (yX5_strengths, cX5_strengths, 6, some .int, 5, 2, false) := ⟨rfl, rfl, by decide +kernel, by decide +kernel, by decide, by decide +kernel⟩
set_option maxRecDepth 100000 in
theorem nl_d66 : nl_okM (cd_X5_likely, ct_X5_likely, 1, 9) (yX5_likely, cX5_likely, 9, some .int, 5, 3, false) := ⟨rfl, rfl, by decide +kernel, by decide +kernel, by decide, by decide +kernel⟩
set_option maxRecDepth 100000 in
theorem nl_d67 : nl_okM (cd_X5_winter, ct_X5_winter, 1, 6) (yX5_winter, cX5_winter, 6, some .int, 5, 3, false) := ⟨rfl, rfl, by decide +kernel, by decide +kernel, by decide, by decide +kernel⟩
set_option maxRecDepth 100000 in
theorem nl_d68 : nl_okM (cd_X5_keep, ct_X5_keep, 1, 1) (yX5_keep, cX5_keep, 1, some .int, 5, 0, false) := ⟨rfl, rfl, by decide +kernel, by decide +kernel, by decide, by decide +kernel⟩
set_option maxRecDepth 100000 in
theorem nl_d69 : nl_okM (cd_X5_back, ct_X5_back, 1, 1) (yX5_back, cX5_back, 1, some .int, 5, 0, false) := ⟨rfl, rfl, by decide +kernel, by decide +kernel, by decide, by decide +kernel⟩
set_option maxRecDepth 100000 in
theorem nl_d70 : nl_okM (cd_X5_count, ct_X5_count, 1, 2) (yX5_count, cX5_count, 2, some .int, 5, 1, false) := ⟨rfl, rfl, by decide +kernel, by decide +kernel, by decide, by decide +kernel⟩
set_option maxRecDepth 100000 in
theorem nl_d71 : nl_okM (cd_X5_isWithin, ct_X5_isWithin, 3, 3) (yX5_isWithin, cX5_isWithin, 3, some .boolean, 5, 3, true) := ⟨rfl, rfl, by decide +kernel, by decide +kernel, by decide, by decide +kernel⟩
set_option maxRecDepth 100000 in
theorem nl_d72 : nl_okM (cd_X5_largestDivisor, ct_X5_largestDivisor, 1, 3) (yX5_largestDivisor, cX5_largestDivisor, 3, some .int, 5, 2, true) := ⟨rfl, rfl, by decide +kernel, by decide +kernel, by decide, by decide +kernel⟩
set_option maxRecDepth 100000 in
theorem nl_d73 : nl_okM (cd_X5_drawFor, ct_X5_drawFor, 1, 4) (yX5_drawFor, cX5_drawFor, 4, some .int, 5, 2, true) := ⟨rfl, rfl, by decide +kernel, by decide +kernel, by decide, by decide +kernel⟩
set_option maxRecDepth 100000 in
theorem nl_d74 : nl_okM (cd_X5_nextMissAhead, ct_X5_nextMissAhead, 1, 4) (yX5_nextMissAhead, cX5_nextMissAhead, 4, some .int, 5, 2, false) := ⟨rfl, rfl, by decide +kernel, by decide +kernel, by decide, by decide +kernel⟩
set_option maxRecDepth 100000 in
theorem nl_d75 : nl_okM (cd_X5_fitsAllSeen, ct_X5_fitsAllSeen, 3, 6) (yX5_fitsAllSeen, cX5_fitsAllSeen, 6, some .boolean, 5, 3, false) := ⟨rfl, rfl, by decide +kernel, by decide +kernel, by decide, by decide +kernel⟩
set_option maxRecDepth 100000 in
theorem nl_d76 : nl_okM (cd_X6_in, ct_X6_in, 3, 3) (yX6_in, cX6_in, 3, some .boolean, 6, 3, true) := ⟨rfl, rfl, by decide +kernel, by decide +kernel, by decide, by decide +kernel⟩
set_option maxRecDepth 100000 in
theorem nl_d77 : nl_okM (cd_X6_has, ct_X6_has, 3, 2) (yX6_has, cX6_has, 2, some .boolean, 6, 2, true) := ⟨rfl, rfl, by decide +kernel, by decide +kernel, by decide, by decide +kernel⟩
set_option maxRecDepth 100000 in
theorem nl_d78 : nl_okM (cd_X6_bits, ct_X6_bits, 1, 3) (yX6_bits, cX6_bits, 3, some .int, 6, 1, true) := ⟨rfl, rfl, by decide +kernel, by decide +kernel, by decide, by decide +kernel⟩
set_option maxRecDepth 100000 in
theorem nl_d79 : nl_okM (cd_X6_lesser, ct_X6_lesser, 1, 2) (yX6_lesser, cX6_lesser, 2, some .int, 6, 2, true) := ⟨rfl, rfl, by decide +kernel, by decide +kernel, by decide, by decide +kernel⟩
set_option maxRecDepth 100000 in
theorem nl_d80 : nl_okM (cd_X6_greater, ct_X6_greater, 1, 2) (yX6_greater, cX6_greater, 2, some .int, 6, 2, true) := ⟨rfl, rfl, by decide +kernel, by decide +kernel, by decide, by decide +kernel⟩
set_option maxRecDepth 100000 in
theorem nl_d81 : nl_okM (cd_X6_firstHouse, ct_X6_firstHouse, 0, 5) (yX6_firstHouse, cX6_firstHouse, 5, none, 6, 4, false) := ⟨rfl, rfl, by decide +kernel, by decide +kernel, by decide, by decide +kernel⟩
set_option maxRecDepth 100000 in
theorem nl_d82 : nl_okM (cd_X6_begin, ct_X6_begin, 0, 2) (yX6_begin, cX6_begin, 2, none, 6, 0, false) := ⟨rfl, rfl, by decide +kernel, by decide +kernel, by decide, by decide +kernel⟩
set_option maxRecDepth 100000 in
theorem nl_d83 : nl_okM (cd_X6_isOne, ct_X6_isOne, 3, 2) (yX6_isOne, cX6_isOne, 2, some .boolean, 6, 1, false) := ⟨rfl, rfl, by decide +kernel, by decide +kernel, by decide, by decide +kernel⟩
set_option maxRecDepth 100000 in
theorem nl_d84 : nl_okM (cd_X6_write, ct_X6_write, 1, 2) (yX6_write, cX6_write, 2, some .int, 6, 1, false) := ⟨rfl, rfl, by decide +kernel, by decide +kernel, by decide, by decide +kernel⟩
set_option maxRecDepth 100000 in
theorem nl_d85 : nl_okM (cd_X6_wipe, ct_X6_wipe, 1, 2) (yX6_wipe, cX6_wipe, 2, some .int, 6, 0, false) := ⟨rfl, rfl, by decide +kernel, by decide +kernel, by decide, by decide +kernel⟩
set_option maxRecDepth 100000 in
theorem nl_d86 : nl_okM (cd_X6_here, ct_X6_here, 1, 1) (yX6_here, cX6_here, 1, some .int, 6, 0, false) := ⟨rfl, rfl, by decide +kernel, by decide +kernel, by decide, by decide +kernel⟩
set_option maxRecDepth 100000 in
theorem nl_d87 : nl_okM (cd_X6_isFigure, ct_X6_isFigure, 3, 1) (yX6_isFigure, cX6_isFigure, 1, some .boolean, 6, 0, false) := ⟨rfl, rfl, by decide +kernel, by decide +kernel, by decide, by decide +kernel⟩
set_option maxRecDepth 100000 in
theorem nl_d88 : nl_okM (cd_X6_number, ct_X6_number, 3, 5) (yX6_number, cX6_number, 5, some .boolean, 6, 3, false) := ⟨rfl, rfl, by decide +kernel, by decide +kernel, by decide, by decide +kernel⟩
set_option maxRecDepth 100000 in
theorem nl_d89 : nl_okM (cd_X6_readsHour, ct_X6_readsHour, 3, 1) (yX6_readsHour, cX6_readsHour, 1, some .boolean, 6, 0, false) := ⟨rfl, rfl, by decide +kernel, by decide +kernel, by decide, by decide +kernel⟩
set_option maxRecDepth 100000 in
theorem nl_d90 : nl_okM (cd_X6_readsHouse, ct_X6_readsHouse, 3, 2) (yX6_readsHouse, cX6_readsHouse, 2, some .boolean, 6, 0, false) := ⟨rfl, rfl, by decide +kernel, by decide +kernel, by decide, by decide +kernel⟩
set_option maxRecDepth 100000 in
theorem nl_d91 : nl_okM (cd_X6_readsItem, ct_X6_readsItem, 3, 2) (yX6_readsItem, cX6_readsItem, 2, some .boolean, 6, 0, false) := ⟨rfl, rfl, by decide +kernel, by decide +kernel, by decide, by decide +kernel⟩
set_option maxRecDepth 100000 in
theorem nl_d92 : nl_okM (cd_X6_fault, ct_X6_fault, 1, 2) (yX6_fault, cX6_fault, 2, some .int, 6, 0, false) := ⟨rfl, rfl, by decide +kernel, by decide +kernel, by decide, by decide +kernel⟩
set_option maxRecDepth 100000 in
theorem nl_d93 : nl_okM (cd_X6_lay, ct_X6_lay, 1, 2) (yX6_lay, cX6_lay, 2, some .int, 6, 0, false) := ⟨rfl, rfl, by decide +kernel, by decide +kernel, by decide, by decide +kernel⟩
set_option maxRecDepth 100000 in
theorem nl_d94 : nl_okM (cd_X6_mostOften, ct_X6_mostOften, 1, 6) (yX6_mostOften, cX6_mostOften, 6, some .int, 6, 1, false) := ⟨rfl, rfl, by decide +kernel, by decide +kernel, by decide, by decide +kernel⟩
set_option maxRecDepth 100000 in
theorem nl_d95 : nl_okM (cd_X6_weight, ct_X6_weight, 1, 4) (yX6_weight, cX6_weight, 4, some .int, 6, 2, false) := ⟨rfl, rfl, by decide +kernel, by decide +kernel, by decide, by decide +kernel⟩
set_option maxRecDepth 100000 in
theorem nl_d96 : nl_okM (cd_X6_keeps, ct_X6_keeps, 3, 3) (yX6_keeps, cX6_keeps, 3, some .boolean, 6, 2, false) := ⟨rfl, rfl, by decide +kernel, by decide +kernel, by decide, by decide +kernel⟩
set_option maxRecDepth 100000 in
theorem nl_d97 : nl_okM (cd_X6_gapSet, ct_X6_gapSet, 1, 3) (yX6_gapSet, cX6_gapSet, 3, some .int, 6, 0, false) := ⟨rfl, rfl, by decide +kernel, by decide +kernel, by decide, by decide +kernel⟩
set_option maxRecDepth 100000 in
theorem nl_d98 : nl_okM (cd_X6_passes, ct_X6_passes, 1, 4) (yX6_passes, cX6_passes, 4, some .int, 6, 0, false) := ⟨rfl, rfl, by decide +kernel, by decide +kernel, by decide, by decide +kernel⟩
set_option maxRecDepth 100000 in
theorem nl_d99 : nl_okM (cd_X6_goesOn, ct_X6_goesOn, 1, 4) (yX6_goesOn, cX6_goesOn, 4, some .int, 6, 1, false) := ⟨rfl, rfl, by decide +kernel, by decide +kernel, by decide, by decide +kernel⟩
set_option maxRecDepth 100000 in
theorem nl_d100 : nl_okM (cd_X6_house, ct_X6_house, 1, 3) (yX6_house, cX6_house, 3, some .int, 6, 2, false) := ⟨rfl, rfl, by decide +kernel, by decide +kernel, by decide, by decide +kernel⟩
set_option maxRecDepth 100000 in
theorem nl_d101 : nl_okM (cd_X6_whoHas, ct_X6_whoHas, 1, 3) (yX6_whoHas, cX6_whoHas, 3, some .int, 6, 1, false) := ⟨rfl, rfl, by decide +kernel, by decide +kernel, by decide, by decide +kernel⟩
set_option maxRecDepth 100000 in
theorem nl_d102 : nl_okM (cd_X6_hour, ct_X6_hour, 1, 3) (yX6_hour, cX6_hour, 3, some .int, 6, 2, false) := ⟨rfl, rfl, by decide +kernel, by decide +kernel, by decide, by decide +kernel⟩
set_option maxRecDepth 100000 in
theorem nl_d103 : nl_okM (cd_X6_heavy, ct_X6_heavy, 1, 3) (yX6_heavy, cX6_heavy, 3, some .int, 6, 2, false) := ⟨rfl, rfl, by decide +kernel, by decide +kernel, by decide, by decide +kernel⟩
set_option maxRecDepth 100000 in
theorem nl_d104 : nl_okM (cd_X6_had, ct_X6_had, 1, 3) (yX6_had, cX6_had, 3, some .int, 6, 2, false) := ⟨rfl, rfl, by decide +kernel, by decide +kernel, by decide, by decide +kernel⟩
set_option maxRecDepth 100000 in
theorem nl_d105 : nl_okM (cd_X6_lays, ct_X6_lays, 0, 4) (yX6_lays, cX6_lays, 4, none, 6, 2, false) := ⟨rfl, rfl, by decide +kernel, by decide +kernel, by decide, by decide +kernel⟩
set_option maxRecDepth 100000 in
theorem nl_d106 : nl_okM (cd_X6_takes, ct_X6_takes, 0, 4) (yX6_takes, cX6_takes, 4, none, 6, 2, false) := ⟨rfl, rfl, by decide +kernel, by decide +kernel, by decide, by decide +kernel⟩
set_option maxRecDepth 100000 in
theorem nl_d107 : nl_okM (cd_X6_notes, ct_X6_notes, 0, 2) (yX6_notes, cX6_notes, 2, none, 6, 0, false) := ⟨rfl, rfl, by decide +kernel, by decide +kernel, by decide, by decide +kernel⟩
set_option maxRecDepth 100000 in
theorem nl_d108 : nl_okM (cd_X6_pass, ct_X6_pass, 1, 2) (yX6_pass, cX6_pass, 2, some .int, 6, 1, false) := ⟨rfl, rfl, by decide +kernel, by decide +kernel, by decide, by decide +kernel⟩
set_option maxRecDepth 100000 in
theorem nl_d109 : nl_okM (cd_X6_trades, ct_X6_trades, 0, 4) (yX6_trades, cX6_trades, 4, none, 6, 2, false) := ⟨rfl, rfl, by decide +kernel, by decide +kernel, by decide, by decide +kernel⟩
set_option maxRecDepth 100000 in
theorem nl_d110 : nl_okM (cd_X6_swap, ct_X6_swap, 1, 3) (yX6_swap, cX6_swap, 3, some .int, 6, 2, false) := ⟨rfl, rfl, by decide +kernel, by decide +kernel, by decide, by decide +kernel⟩
set_option maxRecDepth 100000 in
theorem nl_d111 : nl_okM (cd_X6_rests, ct_X6_rests, 0, 2) (yX6_rests, cX6_rests, 2, none, 6, 1, false) := ⟨rfl, rfl, by decide +kernel, by decide +kernel, by decide, by decide +kernel⟩
set_option maxRecDepth 100000 in
theorem nl_d112 : nl_okM (cd_X6_rest, ct_X6_rest, 1, 2) (yX6_rest, cX6_rest, 2, some .int, 6, 1, false) := ⟨rfl, rfl, by decide +kernel, by decide +kernel, by decide, by decide +kernel⟩
set_option maxRecDepth 100000 in
theorem nl_d113 : nl_okM (cd_X6_burden, ct_X6_burden, 1, 4) (yX6_burden, cX6_burden, 4, some .int, 6, 2, false) := ⟨rfl, rfl, by decide +kernel, by decide +kernel, by decide, by decide +kernel⟩
set_option maxRecDepth 100000 in
theorem nl_d114 : nl_okM (cd_X6_undo, ct_X6_undo, 1, 1) (yX6_undo, cX6_undo, 1, some .int, 6, 0, false) := ⟨rfl, rfl, by decide +kernel, by decide +kernel, by decide, by decide +kernel⟩
set_option maxRecDepth 100000 in
theorem nl_d115 : nl_okM (cd_X6_start, ct_X6_start, 0, 1) (yX6_start, cX6_start, 1, none, 6, 0, false) := ⟨rfl, rfl, by decide +kernel, by decide +kernel, by decide, by decide +kernel⟩
set_option maxRecDepth 100000 in
theorem nl_d116 : nl_okM (cd_X6_putBack, ct_X6_putBack, 0, 1) (yX6_putBack, cX6_putBack, 1, none, 6, 0, false) := ⟨rfl, rfl, by decide +kernel, by decide +kernel, by decide, by decide +kernel⟩
set_option maxRecDepth 100000 in
theorem nl_d117 : nl_okM (cd_X6_behind, ct_X6_behind, 1, 5) (yX6_behind, cX6_behind, 5, some .int, 6, 3, false) := ⟨rfl, rfl, by decide +kernel, by decide +kernel, by decide, by decide +kernel⟩
set_option maxRecDepth 100000 in
theorem nl_d118 : nl_okM (cd_X6_gaps, ct_X6_gaps, 1, 1) (yX6_gaps, cX6_gaps, 1, some .int, 6, 0, false) := ⟨rfl, rfl, by decide +kernel, by decide +kernel, by decide, by decide +kernel⟩
set_option maxRecDepth 100000 in
theorem nl_d119 : nl_okM (cd_X6_first, ct_X6_first, 1, 5) (yX6_first, cX6_first, 5, some .int, 6, 1, false) := ⟨rfl, rfl, by decide +kernel, by decide +kernel, by decide, by decide +kernel⟩
set_option maxRecDepth 100000 in
theorem nl_d120 : nl_okM (cd_X6_firstRow, ct_X6_firstRow, 0, 2) (yX6_firstRow, cX6_firstRow, 2, none, 6, 0, false) := ⟨rfl, rfl, by decide +kernel, by decide +kernel, by decide, by decide +kernel⟩
set_option maxRecDepth 100000 in
theorem nl_d121 : nl_okM (cd_X6_nextRow, ct_X6_nextRow, 3, 7) (yX6_nextRow, cX6_nextRow, 7, some .boolean, 6, 0, false) := ⟨rfl, rfl, by decide +kernel, by decide +kernel, by decide, by decide +kernel⟩
set_option maxRecDepth 100000 in
theorem nl_d122 : nl_okM (cd_X6_gapsBy, ct_X6_gapsBy, 1, 3) (yX6_gapsBy, cX6_gapsBy, 3, some .int, 6, 0, false) := ⟨rfl, rfl, by decide +kernel, by decide +kernel, by decide, by decide +kernel⟩
set_option maxRecDepth 100000 in
theorem nl_d123 : nl_okM (cd_X6_keptWeight, ct_X6_keptWeight, 1, 3) (yX6_keptWeight, cX6_keptWeight, 3, some .int, 6, 0, false) := ⟨rfl, rfl, by decide +kernel, by decide +kernel, by decide, by decide +kernel⟩
set_option maxRecDepth 100000 in
theorem nl_d124 : nl_okM (cd_X6_even, ct_X6_even, 1, 8) (yX6_even, cX6_even, 8, some .int, 6, 1, false) := ⟨rfl, rfl, by decide +kernel, by decide +kernel, by decide, by decide +kernel⟩
set_option maxRecDepth 100000 in
theorem nl_d125 : nl_okM (cd_X6_swapsTo, ct_X6_swapsTo, 1, 5) (yX6_swapsTo, cX6_swapsTo, 5, some .int, 6, 0, false) := ⟨rfl, rfl, by decide +kernel, by decide +kernel, by decide, by decide +kernel⟩
set_option maxRecDepth 100000 in
theorem nl_d126 : nl_okM (cd_X6_swaps, ct_X6_swaps, 1, 3) (yX6_swaps, cX6_swaps, 3, some .int, 6, 0, false) := ⟨rfl, rfl, by decide +kernel, by decide +kernel, by decide, by decide +kernel⟩
set_option maxRecDepth 100000 in
theorem nl_d127 : nl_okM (cd_X6_off, ct_X6_off, 1, 2) (yX6_off, cX6_off, 2, some .int, 6, 2, true) := ⟨rfl, rfl, by decide +kernel, by decide +kernel, by decide, by decide +kernel⟩
set_option maxRecDepth 100000 in
theorem nl_d128 : nl_okM (cd_X6_far, ct_X6_far, 1, 6) (yX6_far, cX6_far, 6, some .int, 6, 1, false) := ⟨rfl, rfl, by decide +kernel, by decide +kernel, by decide, by decide +kernel⟩
set_option maxRecDepth 100000 in
theorem nl_d129 : nl_okM (cd_X6_lamps, ct_X6_lamps, 1, 7) (yX6_lamps, cX6_lamps, 7, some .int, 6, 2, false) := ⟨rfl, rfl, by decide +kernel, by decide +kernel, by decide, by decide +kernel⟩
set_option maxRecDepth 100000 in
theorem nl_d130 : nl_okM (cd_X6_seen, ct_X6_seen, 1, 4) (yX6_seen, cX6_seen, 4, some .int, 6, 3, false) := ⟨rfl, rfl, by decide +kernel, by decide +kernel, by decide, by decide +kernel⟩
set_option maxRecDepth 100000 in
theorem nl_d131 : nl_okM (cd_X6_forget, ct_X6_forget, 1, 2) (yX6_forget, cX6_forget, 2, some .int, 6, 0, false) := ⟨rfl, rfl, by decide +kernel, by decide +kernel, by decide, by decide +kernel⟩
set_option maxRecDepth 100000 in
theorem nl_d132 : nl_okM (cd_X6_isSo, ct_X6_isSo, 3, 5) (yX6_isSo, cX6_isSo, 5, some .boolean, 6, 0, false) := ⟨rfl, rfl, by decide +kernel, by decide +kernel, by decide, by decide +kernel⟩
set_option maxRecDepth 100000 in
theorem nl_d133 : nl_okM (cd_X6_kinds, ct_X6_kinds, 1, 5) (yX6_kinds, cX6_kinds, 5, some .int, 6, 1, false) := ⟨rfl, rfl, by decide +kernel, by decide +kernel, by decide, by decide +kernel⟩
set_option maxRecDepth 100000 in
theorem nl_d134 : nl_okM (cd_X6_strengths, ct_X6_strengths, 1, 8) (yX6_strengths, cX6_strengths, 8, some .int, 6, 2, false) := ⟨rfl, rfl, by decide +kernel, by decide +kernel, by decide, by decide +kernel⟩
set_option maxRecDepth 100000 in
theorem nl_d135 : nl_okM (cd_X6_common, ct_X6_common, 2, 10) (yX6_common, cX6_common, 10, some .long, 6, 2, true) := ⟨rfl, rfl, by decide +kernel, by decide +kernel, by decide, by decide +kernel⟩
set_option maxRecDepth 100000 in
theorem nl_d136 : nl_okM (cd_X6_likely, ct_X6_likely, 1, 11) (yX6_likely, cX6_likely, 11, some .int, 6, 3, false) := ⟨rfl, rfl, by decide +kernel, by decide +kernel, by decide, by decide +kernel⟩
set_option maxRecDepth 100000 in
theorem nl_d137 : nl_okM (cd_X6_tiredAll, ct_X6_tiredAll, 1, 3) (yX6_tiredAll, cX6_tiredAll, 3, some .int, 6, 0, false) := ⟨rfl, rfl, by decide +kernel, by decide +kernel, by decide, by decide +kernel⟩
set_option maxRecDepth 100000 in
theorem nl_d138 : nl_okM (cd_X6_winter, ct_X6_winter, 1, 12) (yX6_winter, cX6_winter, 12, some .int, 6, 3, false) := ⟨rfl, rfl, by decide +kernel, by decide +kernel, by decide, by decide +kernel⟩
set_option maxRecDepth 100000 in
theorem nl_d139 : nl_okM (cd_X6_keep, ct_X6_keep, 1, 1) (yX6_keep, cX6_keep, 1, some .int, 6, 0, false) := ⟨rfl, rfl, by decide +kernel, by decide +kernel, by decide, by decide +kernel⟩
set_option maxRecDepth 100000 in
theorem nl_d140 : nl_okM (cd_X6_back, ct_X6_back, 1, 1) (yX6_back, cX6_back, 1, some .int, 6, 0, false) := ⟨rfl, rfl, by decide +kernel, by decide +kernel, by decide, by decide +kernel⟩
set_option maxRecDepth 100000 in
theorem nl_d141 : nl_okM (cd_X6_count, ct_X6_count, 1, 2) (yX6_count, cX6_count, 2, some .int, 6, 1, false) := ⟨rfl, rfl, by decide +kernel, by decide +kernel, by decide, by decide +kernel⟩
set_option maxRecDepth 100000 in
theorem nl_d142 : nl_okM (cd_J6_bitCount_0f7a4, ct_J6_bitCount_0f7a4, 1, 1) (yJ6_bitCount_0f7a4, cJ6_bitCount_0f7a4, 1, some .int, 8, 1, true) := ⟨rfl, rfl, by decide +kernel, by decide +kernel, by decide, by decide +kernel⟩
theorem nl_dc0 : ∀ q ∈ ([((cd_X0_choose, ct_X0_choose, 0, 4), (yX0_choose, cX0_choose, 4, none, 0, 1, false)), ((cd_X0_weigh, ct_X0_weigh, 0, 5), (yX0_weigh, cX0_weigh, 5, none, 0, 1, false)), ((cd_X0_leastOf, ct_X0_leastOf, 1, 6), (yX0_leastOf, cX0_leastOf, 6, some .int, 0, 2, false)), ((cd_X0_priceWith, ct_X0_priceWith, 1, 4), (yX0_priceWith, cX0_priceWith, 4, some .int, 0, 3, false)), ((cd_X0_dealOut, ct_X0_dealOut, 0, 5), (yX0_dealOut, cX0_dealOut, 5, none, 0, 1, false)), ((cd_X0_lowestOfLeast, ct_X0_lowestOfLeast, 1, 5), (yX0_lowestOfLeast, cX0_lowestOfLeast, 5, some .int, 0, 3, false)), ((cd_X0_fewestSwaps, ct_X0_fewestSwaps, 1, 3), (yX0_fewestSwaps, cX0_fewestSwaps, 3, some .int, 0, 1, false)), ((cd_X0_canBridge, ct_X0_canBridge, 3, 8), (yX0_canBridge, cX0_canBridge, 8, some .boolean, 0, 5, true)), ((cd_X0_exchange, ct_X0_exchange, 0, 4), (yX0_exchange, cX0_exchange, 4, none, 0, 3, true)), ((cd_X1_read, ct_X1_read, 0, 5), (yX1_read, cX1_read, 5, none, 1, 2, false)), ((cd_X1_canBeLaid, ct_X1_canBeLaid, 3, 1), (yX1_canBeLaid, cX1_canBeLaid, 1, some .boolean, 1, 0, false)), ((cd_X1_readItem, ct_X1_readItem, 1, 10), (yX1_readItem, cX1_readItem, 10, some .int, 1, 3, false)), ((cd_X1_readNumber, ct_X1_readNumber, 1, 7), (yX1_readNumber, cX1_readNumber, 7, some .int, 1, 4, false)), ((cd_X1_addHour, ct_X1_addHour, 3, 1), (yX1_addHour, cX1_addHour, 1, some .boolean, 1, 0, false)), ((cd_X1_addHouse, ct_X1_addHouse, 3, 1), (yX1_addHouse, cX1_addHouse, 1, some .boolean, 1, 0, false)), ((cd_X2_clear, ct_X2_clear, 0, 1), (yX2_clear, cX2_clear, 1, none, 2, 0, false))] : List (nl_M × nl_I)), nl_okM q.1 q.2 := List.forall_mem_cons.mpr ⟨nl_d0, List.forall_mem_cons.mpr ⟨nl_d1, List.forall_mem_cons.mpr ⟨nl_d2, List.forall_mem_cons.mpr ⟨nl_d3, List.forall_mem_cons.mpr ⟨nl_d4, List.forall_mem_cons.mpr ⟨nl_d5, List.forall_mem_cons.mpr ⟨nl_d6, List.forall_mem_cons.mpr ⟨nl_d7, List.forall_mem_cons.mpr ⟨nl_d8, List.forall_mem_cons.mpr ⟨nl_d9, List.forall_mem_cons.mpr ⟨nl_d10, List.forall_mem_cons.mpr ⟨nl_d11, List.forall_mem_cons.mpr ⟨nl_d12, List.forall_mem_cons.mpr ⟨nl_d13, List.forall_mem_cons.mpr ⟨nl_d14, List.forall_mem_cons.mpr ⟨nl_d15, fun _ h => absurd h List.not_mem_nil⟩⟩⟩⟩⟩⟩⟩⟩⟩⟩⟩⟩⟩⟩⟩⟩
theorem nl_dc1 : ∀ q ∈ ([((cd_X2_put, ct_X2_put, 0, 2), (yX2_put, cX2_put, 2, none, 2, 1, false)), ((cd_X2_dropOldest, ct_X2_dropOldest, 0, 3), (yX2_dropOldest, cX2_dropOldest, 3, none, 2, 0, false)), ((cd_X2_takeInto, ct_X2_takeInto, 3, 2), (yX2_takeInto, cX2_takeInto, 2, some .boolean, 2, 1, false)), ((cd_X3_clear, ct_X3_clear, 0, 1), (yX3_clear, cX3_clear, 1, none, 3, 0, false)), ((cd_X3_add, ct_X3_add, 0, 4), (yX3_add, cX3_add, 4, none, 3, 3, false)), ((cd_X3_lastNight, ct_X3_lastNight, 1, 3), (yX3_lastNight, cX3_lastNight, 3, some .int, 3, 0, false)), ((cd_X3_fit, ct_X3_fit, 3, 4), (yX3_fit, cX3_fit, 4, some .boolean, 3, 2, false)), ((cd_X4_settle, ct_X4_settle, 0, 3), (yX4_settle, cX4_settle, 3, none, 4, 1, false)), ((cd_X4_copyFrom, ct_X4_copyFrom, 0, 3), (yX4_copyFrom, cX4_copyFrom, 3, none, 4, 1, false)), ((cd_X4_isHouse, ct_X4_isHouse, 3, 2), (yX4_isHouse, cX4_isHouse, 2, some .boolean, 4, 1, false)), ((cd_X4_isHour, ct_X4_isHour, 3, 2), (yX4_isHour, cX4_isHour, 2, some .boolean, 4, 1, false)), ((cd_X4_houseWith, ct_X4_houseWith, 1, 3), (yX4_houseWith, cX4_houseWith, 3, some .int, 4, 1, false)), ((cd_X4_timesHad, ct_X4_timesHad, 1, 3), (yX4_timesHad, cX4_timesHad, 3, some .int, 4, 2, false)), ((cd_X4_heaviness, ct_X4_heaviness, 1, 4), (yX4_heaviness, cX4_heaviness, 4, some .int, 4, 2, false)), ((cd_X4_hourHadMost, ct_X4_hourHadMost, 1, 6), (yX4_hourHadMost, cX4_hourHadMost, 6, some .int, 4, 1, false)), ((cd_X4_wouldKeep, ct_X4_wouldKeep, 3, 4), (yX4_wouldKeep, cX4_wouldKeep, 4, some .boolean, 4, 3, false))] : List (nl_M × nl_I)), nl_okM q.1 q.2 := List.forall_mem_cons.mpr ⟨nl_d16, List.forall_mem_cons.mpr ⟨nl_d17, List.forall_mem_cons.mpr ⟨nl_d18, List.forall_mem_cons.mpr ⟨nl_d19, List.forall_mem_cons.mpr ⟨nl_d20, List.forall_mem_cons.mpr ⟨nl_d21, List.forall_mem_cons.mpr ⟨nl_d22, List.forall_mem_cons.mpr ⟨nl_d23, List.forall_mem_cons.mpr ⟨nl_d24, List.forall_mem_cons.mpr ⟨nl_d25, List.forall_mem_cons.mpr ⟨nl_d26, List.forall_mem_cons.mpr ⟨nl_d27, List.forall_mem_cons.mpr ⟨nl_d28, List.forall_mem_cons.mpr ⟨nl_d29, List.forall_mem_cons.mpr ⟨nl_d30, List.forall_mem_cons.mpr ⟨nl_d31, fun _ h => absurd h List.not_mem_nil⟩⟩⟩⟩⟩⟩⟩⟩⟩⟩⟩⟩⟩⟩⟩⟩
theorem nl_dc2 : ∀ q ∈ ([((cd_X4_isGapAt, ct_X4_isGapAt, 3, 3), (yX4_isGapAt, cX4_isGapAt, 3, some .boolean, 4, 1, false)), ((cd_X4_seeThrough, ct_X4_seeThrough, 3, 4), (yX4_seeThrough, cX4_seeThrough, 4, some .boolean, 4, 1, false)), ((cd_X4_letNightsPass, ct_X4_letNightsPass, 1, 5), (yX4_letNightsPass, cX4_letNightsPass, 5, some .int, 4, 1, false)), ((cd_X4_trade, ct_X4_trade, 0, 4), (yX4_trade, cX4_trade, 4, none, 4, 2, false)), ((cd_X4_giveRest, ct_X4_giveRest, 0, 2), (yX4_giveRest, cX4_giveRest, 2, none, 4, 1, false)), ((cd_X4_setBurden, ct_X4_setBurden, 0, 3), (yX4_setBurden, cX4_setBurden, 3, none, 4, 2, false)), ((cd_X4_tiredTogether, ct_X4_tiredTogether, 1, 3), (yX4_tiredTogether, cX4_tiredTogether, 3, some .int, 4, 0, false)), ((cd_X4_handingOver, ct_X4_handingOver, 1, 5), (yX4_handingOver, cX4_handingOver, 5, some .int, 4, 0, false)), ((cd_X4_lengthOfRoad, ct_X4_lengthOfRoad, 1, 4), (yX4_lengthOfRoad, cX4_lengthOfRoad, 4, some .int, 4, 0, false)), ((cd_X4_stir, ct_X4_stir, 0, 4), (yX4_stir, cX4_stir, 4, none, 4, 1, false)), ((cd_X5_write, ct_X5_write, 1, 2), (yX5_write, cX5_write, 2, some .int, 5, 1, false)), ((cd_X5_wipe, ct_X5_wipe, 1, 2), (yX5_wipe, cX5_wipe, 2, some .int, 5, 0, false)), ((cd_X5_fault, ct_X5_fault, 1, 1), (yX5_fault, cX5_fault, 1, some .int, 5, 0, false)), ((cd_X5_lay, ct_X5_lay, 1, 1), (yX5_lay, cX5_lay, 1, some .int, 5, 0, false)), ((cd_X5_house, ct_X5_house, 1, 3), (yX5_house, cX5_house, 3, some .int, 5, 2, false)), ((cd_X5_hour, ct_X5_hour, 1, 3), (yX5_hour, cX5_hour, 3, some .int, 5, 2, false))] : List (nl_M × nl_I)), nl_okM q.1 q.2 := List.forall_mem_cons.mpr ⟨nl_d32, List.forall_mem_cons.mpr ⟨nl_d33, List.forall_mem_cons.mpr ⟨nl_d34, List.forall_mem_cons.mpr ⟨nl_d35, List.forall_mem_cons.mpr ⟨nl_d36, List.forall_mem_cons.mpr ⟨nl_d37, List.forall_mem_cons.mpr ⟨nl_d38, List.forall_mem_cons.mpr ⟨nl_d39, List.forall_mem_cons.mpr ⟨nl_d40, List.forall_mem_cons.mpr ⟨nl_d41, List.forall_mem_cons.mpr ⟨nl_d42, List.forall_mem_cons.mpr ⟨nl_d43, List.forall_mem_cons.mpr ⟨nl_d44, List.forall_mem_cons.mpr ⟨nl_d45, List.forall_mem_cons.mpr ⟨nl_d46, List.forall_mem_cons.mpr ⟨nl_d47, fun _ h => absurd h List.not_mem_nil⟩⟩⟩⟩⟩⟩⟩⟩⟩⟩⟩⟩⟩⟩⟩⟩
theorem nl_dc3 : ∀ q ∈ ([((cd_X5_heavy, ct_X5_heavy, 1, 3), (yX5_heavy, cX5_heavy, 3, some .int, 5, 2, false)), ((cd_X5_had, ct_X5_had, 1, 3), (yX5_had, cX5_had, 3, some .int, 5, 2, false)), ((cd_X5_pass, ct_X5_pass, 1, 2), (yX5_pass, cX5_pass, 2, some .int, 5, 1, false)), ((cd_X5_swap, ct_X5_swap, 1, 3), (yX5_swap, cX5_swap, 3, some .int, 5, 2, false)), ((cd_X5_rest, ct_X5_rest, 1, 2), (yX5_rest, cX5_rest, 2, some .int, 5, 1, false)), ((cd_X5_burden, ct_X5_burden, 1, 4), (yX5_burden, cX5_burden, 4, some .int, 5, 2, false)), ((cd_X5_undo, ct_X5_undo, 1, 1), (yX5_undo, cX5_undo, 1, some .int, 5, 0, false)), ((cd_X5_behind, ct_X5_behind, 1, 4), (yX5_behind, cX5_behind, 4, some .int, 5, 3, false)), ((cd_X5_gaps, ct_X5_gaps, 1, 3), (yX5_gaps, cX5_gaps, 3, some .int, 5, 0, false)), ((cd_X5_first, ct_X5_first, 1, 3), (yX5_first, cX5_first, 3, some .int, 5, 1, false)), ((cd_X5_even, ct_X5_even, 1, 2), (yX5_even, cX5_even, 2, some .int, 5, 1, false)), ((cd_X5_swaps, ct_X5_swaps, 1, 1), (yX5_swaps, cX5_swaps, 1, some .int, 5, 0, false)), ((cd_X5_far, ct_X5_far, 1, 2), (yX5_far, cX5_far, 2, some .int, 5, 1, false)), ((cd_X5_lamps, ct_X5_lamps, 1, 5), (yX5_lamps, cX5_lamps, 5, some .int, 5, 2, false)), ((cd_X5_seen, ct_X5_seen, 1, 4), (yX5_seen, cX5_seen, 4, some .int, 5, 3, false)), ((cd_X5_forget, ct_X5_forget, 1, 2), (yX5_forget, cX5_forget, 2, some .int, 5, 0, false))] : List (nl_M × nl_I)), nl_okM q.1 q.2 := List.forall_mem_cons.mpr ⟨nl_d48, List.forall_mem_cons.mpr ⟨nl_d49, List.forall_mem_cons.mpr ⟨nl_d50, List.forall_mem_cons.mpr ⟨nl_d51, List.forall_mem_cons.mpr ⟨nl_d52, List.forall_mem_cons.mpr ⟨nl_d53, List.forall_mem_cons.mpr ⟨nl_d54, List.forall_mem_cons.mpr ⟨nl_d55, List.forall_mem_cons.mpr ⟨nl_d56, List.forall_mem_cons.mpr ⟨nl_d57, List.forall_mem_cons.mpr ⟨nl_d58, List.forall_mem_cons.mpr ⟨nl_d59, List.forall_mem_cons.mpr ⟨nl_d60, List.forall_mem_cons.mpr ⟨nl_d61, List.forall_mem_cons.mpr ⟨nl_d62, List.forall_mem_cons.mpr ⟨nl_d63, fun _ h => absurd h List.not_mem_nil⟩⟩⟩⟩⟩⟩⟩⟩⟩⟩⟩⟩⟩⟩⟩⟩
theorem nl_dc4 : ∀ q ∈ ([((cd_X5_kinds, ct_X5_kinds, 1, 4), (yX5_kinds, cX5_kinds, 4, some .int, 5, 1, false)), ((cd_X5_strengths, ct_X5_strengths, 1, 6), (yX5_strengths, cX5_strengths, 6, some .int, 5, 2, false)), ((cd_X5_likely, ct_X5_likely, 1, 9), (yX5_likely, cX5_likely, 9, some .int, 5, 3, false)), ((cd_X5_winter, ct_X5_winter, 1, 6), (yX5_winter, cX5_winter, 6, some .int, 5, 3, false)), ((cd_X5_keep, ct_X5_keep, 1, 1), (yX5_keep, cX5_keep, 1, some .int, 5, 0, false)), ((cd_X5_back, ct_X5_back, 1, 1), (yX5_back, cX5_back, 1, some .int, 5, 0, false)), ((cd_X5_count, ct_X5_count, 1, 2), (yX5_count, cX5_count, 2, some .int, 5, 1, false)), ((cd_X5_isWithin, ct_X5_isWithin, 3, 3), (yX5_isWithin, cX5_isWithin, 3, some .boolean, 5, 3, true)), ((cd_X5_largestDivisor, ct_X5_largestDivisor, 1, 3), (yX5_largestDivisor, cX5_largestDivisor, 3, some .int, 5, 2, true)), ((cd_X5_drawFor, ct_X5_drawFor, 1, 4), (yX5_drawFor, cX5_drawFor, 4, some .int, 5, 2, true)), ((cd_X5_nextMissAhead, ct_X5_nextMissAhead, 1, 4), (yX5_nextMissAhead, cX5_nextMissAhead, 4, some .int, 5, 2, false)), ((cd_X5_fitsAllSeen, ct_X5_fitsAllSeen, 3, 6), (yX5_fitsAllSeen, cX5_fitsAllSeen, 6, some .boolean, 5, 3, false)), ((cd_X6_in, ct_X6_in, 3, 3), (yX6_in, cX6_in, 3, some .boolean, 6, 3, true)), ((cd_X6_has, ct_X6_has, 3, 2), (yX6_has, cX6_has, 2, some .boolean, 6, 2, true)), ((cd_X6_bits, ct_X6_bits, 1, 3), (yX6_bits, cX6_bits, 3, some .int, 6, 1, true)), ((cd_X6_lesser, ct_X6_lesser, 1, 2), (yX6_lesser, cX6_lesser, 2, some .int, 6, 2, true))] : List (nl_M × nl_I)), nl_okM q.1 q.2 := List.forall_mem_cons.mpr ⟨nl_d64, List.forall_mem_cons.mpr ⟨nl_d65, List.forall_mem_cons.mpr ⟨nl_d66, List.forall_mem_cons.mpr ⟨nl_d67, List.forall_mem_cons.mpr ⟨nl_d68, List.forall_mem_cons.mpr ⟨nl_d69, List.forall_mem_cons.mpr ⟨nl_d70, List.forall_mem_cons.mpr ⟨nl_d71, List.forall_mem_cons.mpr ⟨nl_d72, List.forall_mem_cons.mpr ⟨nl_d73, List.forall_mem_cons.mpr ⟨nl_d74, List.forall_mem_cons.mpr ⟨nl_d75, List.forall_mem_cons.mpr ⟨nl_d76, List.forall_mem_cons.mpr ⟨nl_d77, List.forall_mem_cons.mpr ⟨nl_d78, List.forall_mem_cons.mpr ⟨nl_d79, fun _ h => absurd h List.not_mem_nil⟩⟩⟩⟩⟩⟩⟩⟩⟩⟩⟩⟩⟩⟩⟩⟩
theorem nl_dc5 : ∀ q ∈ ([((cd_X6_greater, ct_X6_greater, 1, 2), (yX6_greater, cX6_greater, 2, some .int, 6, 2, true)), ((cd_X6_firstHouse, ct_X6_firstHouse, 0, 5), (yX6_firstHouse, cX6_firstHouse, 5, none, 6, 4, false)), ((cd_X6_begin, ct_X6_begin, 0, 2), (yX6_begin, cX6_begin, 2, none, 6, 0, false)), ((cd_X6_isOne, ct_X6_isOne, 3, 2), (yX6_isOne, cX6_isOne, 2, some .boolean, 6, 1, false)), ((cd_X6_write, ct_X6_write, 1, 2), (yX6_write, cX6_write, 2, some .int, 6, 1, false)), ((cd_X6_wipe, ct_X6_wipe, 1, 2), (yX6_wipe, cX6_wipe, 2, some .int, 6, 0, false)), ((cd_X6_here, ct_X6_here, 1, 1), (yX6_here, cX6_here, 1, some .int, 6, 0, false)), ((cd_X6_isFigure, ct_X6_isFigure, 3, 1), (yX6_isFigure, cX6_isFigure, 1, some .boolean, 6, 0, false)), ((cd_X6_number, ct_X6_number, 3, 5), (yX6_number, cX6_number, 5, some .boolean, 6, 3, false)), ((cd_X6_readsHour, ct_X6_readsHour, 3, 1), (yX6_readsHour, cX6_readsHour, 1, some .boolean, 6, 0, false)), ((cd_X6_readsHouse, ct_X6_readsHouse, 3, 2), (yX6_readsHouse, cX6_readsHouse, 2, some .boolean, 6, 0, false)), ((cd_X6_readsItem, ct_X6_readsItem, 3, 2), (yX6_readsItem, cX6_readsItem, 2, some .boolean, 6, 0, false)), ((cd_X6_fault, ct_X6_fault, 1, 2), (yX6_fault, cX6_fault, 2, some .int, 6, 0, false)), ((cd_X6_lay, ct_X6_lay, 1, 2), (yX6_lay, cX6_lay, 2, some .int, 6, 0, false)), ((cd_X6_mostOften, ct_X6_mostOften, 1, 6), (yX6_mostOften, cX6_mostOften, 6, some .int, 6, 1, false)), ((cd_X6_weight, ct_X6_weight, 1, 4), (yX6_weight, cX6_weight, 4, some .int, 6, 2, false))] : List (nl_M × nl_I)), nl_okM q.1 q.2 := List.forall_mem_cons.mpr ⟨nl_d80, List.forall_mem_cons.mpr ⟨nl_d81, List.forall_mem_cons.mpr ⟨nl_d82, List.forall_mem_cons.mpr ⟨nl_d83, List.forall_mem_cons.mpr ⟨nl_d84, List.forall_mem_cons.mpr ⟨nl_d85, List.forall_mem_cons.mpr ⟨nl_d86, List.forall_mem_cons.mpr ⟨nl_d87, List.forall_mem_cons.mpr ⟨nl_d88, List.forall_mem_cons.mpr ⟨nl_d89, List.forall_mem_cons.mpr ⟨nl_d90, List.forall_mem_cons.mpr ⟨nl_d91, List.forall_mem_cons.mpr ⟨nl_d92, List.forall_mem_cons.mpr ⟨nl_d93, List.forall_mem_cons.mpr ⟨nl_d94, List.forall_mem_cons.mpr ⟨nl_d95, fun _ h => absurd h List.not_mem_nil⟩⟩⟩⟩⟩⟩⟩⟩⟩⟩⟩⟩⟩⟩⟩⟩
theorem nl_dc6 : ∀ q ∈ ([((cd_X6_keeps, ct_X6_keeps, 3, 3), (yX6_keeps, cX6_keeps, 3, some .boolean, 6, 2, false)), ((cd_X6_gapSet, ct_X6_gapSet, 1, 3), (yX6_gapSet, cX6_gapSet, 3, some .int, 6, 0, false)), ((cd_X6_passes, ct_X6_passes, 1, 4), (yX6_passes, cX6_passes, 4, some .int, 6, 0, false)), ((cd_X6_goesOn, ct_X6_goesOn, 1, 4), (yX6_goesOn, cX6_goesOn, 4, some .int, 6, 1, false)), ((cd_X6_house, ct_X6_house, 1, 3), (yX6_house, cX6_house, 3, some .int, 6, 2, false)), ((cd_X6_whoHas, ct_X6_whoHas, 1, 3), (yX6_whoHas, cX6_whoHas, 3, some .int, 6, 1, false)), ((cd_X6_hour, ct_X6_hour, 1, 3), (yX6_hour, cX6_hour, 3, some .int, 6, 2, false)), ((cd_X6_heavy, ct_X6_heavy, 1, 3), (yX6_heavy, cX6_heavy, 3, some .int, 6, 2, false)), ((cd_X6_had, ct_X6_had, 1, 3), (yX6_had, cX6_had, 3, some .int, 6, 2, false)), ((cd_X6_lays, ct_X6_lays, 0, 4), (yX6_lays, cX6_lays, 4, none, 6, 2, false)), ((cd_X6_takes, ct_X6_takes, 0, 4), (yX6_takes, cX6_takes, 4, none, 6, 2, false)), ((cd_X6_notes, ct_X6_notes, 0, 2), (yX6_notes, cX6_notes, 2, none, 6, 0, false)), ((cd_X6_pass, ct_X6_pass, 1, 2), (yX6_pass, cX6_pass, 2, some .int, 6, 1, false)), ((cd_X6_trades, ct_X6_trades, 0, 4), (yX6_trades, cX6_trades, 4, none, 6, 2, false)), ((cd_X6_swap, ct_X6_swap, 1, 3), (yX6_swap, cX6_swap, 3, some .int, 6, 2, false)), ((cd_X6_rests, ct_X6_rests, 0, 2), (yX6_rests, cX6_rests, 2, none, 6, 1, false))] : List (nl_M × nl_I)), nl_okM q.1 q.2 := List.forall_mem_cons.mpr ⟨nl_d96, List.forall_mem_cons.mpr ⟨nl_d97, List.forall_mem_cons.mpr ⟨nl_d98, List.forall_mem_cons.mpr ⟨nl_d99, List.forall_mem_cons.mpr ⟨nl_d100, List.forall_mem_cons.mpr ⟨nl_d101, List.forall_mem_cons.mpr ⟨nl_d102, List.forall_mem_cons.mpr ⟨nl_d103, List.forall_mem_cons.mpr ⟨nl_d104, List.forall_mem_cons.mpr ⟨nl_d105, List.forall_mem_cons.mpr ⟨nl_d106, List.forall_mem_cons.mpr ⟨nl_d107, List.forall_mem_cons.mpr ⟨nl_d108, List.forall_mem_cons.mpr ⟨nl_d109, List.forall_mem_cons.mpr ⟨nl_d110, List.forall_mem_cons.mpr ⟨nl_d111, fun _ h => absurd h List.not_mem_nil⟩⟩⟩⟩⟩⟩⟩⟩⟩⟩⟩⟩⟩⟩⟩⟩
theorem nl_dc7 : ∀ q ∈ ([((cd_X6_rest, ct_X6_rest, 1, 2), (yX6_rest, cX6_rest, 2, some .int, 6, 1, false)), ((cd_X6_burden, ct_X6_burden, 1, 4), (yX6_burden, cX6_burden, 4, some .int, 6, 2, false)), ((cd_X6_undo, ct_X6_undo, 1, 1), (yX6_undo, cX6_undo, 1, some .int, 6, 0, false)), ((cd_X6_start, ct_X6_start, 0, 1), (yX6_start, cX6_start, 1, none, 6, 0, false)), ((cd_X6_putBack, ct_X6_putBack, 0, 1), (yX6_putBack, cX6_putBack, 1, none, 6, 0, false)), ((cd_X6_behind, ct_X6_behind, 1, 5), (yX6_behind, cX6_behind, 5, some .int, 6, 3, false)), ((cd_X6_gaps, ct_X6_gaps, 1, 1), (yX6_gaps, cX6_gaps, 1, some .int, 6, 0, false)), ((cd_X6_first, ct_X6_first, 1, 5), (yX6_first, cX6_first, 5, some .int, 6, 1, false)), ((cd_X6_firstRow, ct_X6_firstRow, 0, 2), (yX6_firstRow, cX6_firstRow, 2, none, 6, 0, false)), ((cd_X6_nextRow, ct_X6_nextRow, 3, 7), (yX6_nextRow, cX6_nextRow, 7, some .boolean, 6, 0, false)), ((cd_X6_gapsBy, ct_X6_gapsBy, 1, 3), (yX6_gapsBy, cX6_gapsBy, 3, some .int, 6, 0, false)), ((cd_X6_keptWeight, ct_X6_keptWeight, 1, 3), (yX6_keptWeight, cX6_keptWeight, 3, some .int, 6, 0, false)), ((cd_X6_even, ct_X6_even, 1, 8), (yX6_even, cX6_even, 8, some .int, 6, 1, false)), ((cd_X6_swapsTo, ct_X6_swapsTo, 1, 5), (yX6_swapsTo, cX6_swapsTo, 5, some .int, 6, 0, false)), ((cd_X6_swaps, ct_X6_swaps, 1, 3), (yX6_swaps, cX6_swaps, 3, some .int, 6, 0, false)), ((cd_X6_off, ct_X6_off, 1, 2), (yX6_off, cX6_off, 2, some .int, 6, 2, true))] : List (nl_M × nl_I)), nl_okM q.1 q.2 := List.forall_mem_cons.mpr ⟨nl_d112, List.forall_mem_cons.mpr ⟨nl_d113, List.forall_mem_cons.mpr ⟨nl_d114, List.forall_mem_cons.mpr ⟨nl_d115, List.forall_mem_cons.mpr ⟨nl_d116, List.forall_mem_cons.mpr ⟨nl_d117, List.forall_mem_cons.mpr ⟨nl_d118, List.forall_mem_cons.mpr ⟨nl_d119, List.forall_mem_cons.mpr ⟨nl_d120, List.forall_mem_cons.mpr ⟨nl_d121, List.forall_mem_cons.mpr ⟨nl_d122, List.forall_mem_cons.mpr ⟨nl_d123, List.forall_mem_cons.mpr ⟨nl_d124, List.forall_mem_cons.mpr ⟨nl_d125, List.forall_mem_cons.mpr ⟨nl_d126, List.forall_mem_cons.mpr ⟨nl_d127, fun _ h => absurd h List.not_mem_nil⟩⟩⟩⟩⟩⟩⟩⟩⟩⟩⟩⟩⟩⟩⟩⟩
theorem nl_dc8 : ∀ q ∈ ([((cd_X6_far, ct_X6_far, 1, 6), (yX6_far, cX6_far, 6, some .int, 6, 1, false)), ((cd_X6_lamps, ct_X6_lamps, 1, 7), (yX6_lamps, cX6_lamps, 7, some .int, 6, 2, false)), ((cd_X6_seen, ct_X6_seen, 1, 4), (yX6_seen, cX6_seen, 4, some .int, 6, 3, false)), ((cd_X6_forget, ct_X6_forget, 1, 2), (yX6_forget, cX6_forget, 2, some .int, 6, 0, false)), ((cd_X6_isSo, ct_X6_isSo, 3, 5), (yX6_isSo, cX6_isSo, 5, some .boolean, 6, 0, false)), ((cd_X6_kinds, ct_X6_kinds, 1, 5), (yX6_kinds, cX6_kinds, 5, some .int, 6, 1, false)), ((cd_X6_strengths, ct_X6_strengths, 1, 8), (yX6_strengths, cX6_strengths, 8, some .int, 6, 2, false)), ((cd_X6_common, ct_X6_common, 2, 10), (yX6_common, cX6_common, 10, some .long, 6, 2, true)), ((cd_X6_likely, ct_X6_likely, 1, 11), (yX6_likely, cX6_likely, 11, some .int, 6, 3, false)), ((cd_X6_tiredAll, ct_X6_tiredAll, 1, 3), (yX6_tiredAll, cX6_tiredAll, 3, some .int, 6, 0, false)), ((cd_X6_winter, ct_X6_winter, 1, 12), (yX6_winter, cX6_winter, 12, some .int, 6, 3, false)), ((cd_X6_keep, ct_X6_keep, 1, 1), (yX6_keep, cX6_keep, 1, some .int, 6, 0, false)), ((cd_X6_back, ct_X6_back, 1, 1), (yX6_back, cX6_back, 1, some .int, 6, 0, false)), ((cd_X6_count, ct_X6_count, 1, 2), (yX6_count, cX6_count, 2, some .int, 6, 1, false)), ((cd_J6_bitCount_0f7a4, ct_J6_bitCount_0f7a4, 1, 1), (yJ6_bitCount_0f7a4, cJ6_bitCount_0f7a4, 1, some .int, 8, 1, true))] : List (nl_M × nl_I)), nl_okM q.1 q.2 := List.forall_mem_cons.mpr ⟨nl_d128, List.forall_mem_cons.mpr ⟨nl_d129, List.forall_mem_cons.mpr ⟨nl_d130, List.forall_mem_cons.mpr ⟨nl_d131, List.forall_mem_cons.mpr ⟨nl_d132, List.forall_mem_cons.mpr ⟨nl_d133, List.forall_mem_cons.mpr ⟨nl_d134, List.forall_mem_cons.mpr ⟨nl_d135, List.forall_mem_cons.mpr ⟨nl_d136, List.forall_mem_cons.mpr ⟨nl_d137, List.forall_mem_cons.mpr ⟨nl_d138, List.forall_mem_cons.mpr ⟨nl_d139, List.forall_mem_cons.mpr ⟨nl_d140, List.forall_mem_cons.mpr ⟨nl_d141, List.forall_mem_cons.mpr ⟨nl_d142, fun _ h => absurd h List.not_mem_nil⟩⟩⟩⟩⟩⟩⟩⟩⟩⟩⟩⟩⟩⟩⟩
set_option maxRecDepth 100000 in
theorem nl_zip_eq : nl_mts.zip nl_inf = ([((cd_X0_choose, ct_X0_choose, 0, 4), (yX0_choose, cX0_choose, 4, none, 0, 1, false)), ((cd_X0_weigh, ct_X0_weigh, 0, 5), (yX0_weigh, cX0_weigh, 5, none, 0, 1, false)), ((cd_X0_leastOf, ct_X0_leastOf, 1, 6), (yX0_leastOf, cX0_leastOf, 6, some .int, 0, 2, false)), ((cd_X0_priceWith, ct_X0_priceWith, 1, 4), (yX0_priceWith, cX0_priceWith, 4, some .int, 0, 3, false)), ((cd_X0_dealOut, ct_X0_dealOut, 0, 5), (yX0_dealOut, cX0_dealOut, 5, none, 0, 1, false)), ((cd_X0_lowestOfLeast, ct_X0_lowestOfLeast, 1, 5), (yX0_lowestOfLeast, cX0_lowestOfLeast, 5, some .int, 0, 3, false)), ((cd_X0_fewestSwaps, ct_X0_fewestSwaps, 1, 3), (yX0_fewestSwaps, cX0_fewestSwaps, 3, some .int, 0, 1, false)), ((cd_X0_canBridge, ct_X0_canBridge, 3, 8), (yX0_canBridge, cX0_canBridge, 8, some .boolean, 0, 5, true)), ((cd_X0_exchange, ct_X0_exchange, 0, 4), (yX0_exchange, cX0_exchange, 4, none, 0, 3, true)), ((cd_X1_read, ct_X1_read, 0, 5), (yX1_read, cX1_read, 5, none, 1, 2, false)), ((cd_X1_canBeLaid, ct_X1_canBeLaid, 3, 1), (yX1_canBeLaid, cX1_canBeLaid, 1, some .boolean, 1, 0, false)), ((cd_X1_readItem, ct_X1_readItem, 1, 10), (yX1_readItem, cX1_readItem, 10, some .int, 1, 3, false)), ((cd_X1_readNumber, ct_X1_readNumber, 1, 7), (yX1_readNumber, cX1_readNumber, 7, some .int, 1, 4, false)), ((cd_X1_addHour, ct_X1_addHour, 3, 1), (yX1_addHour, cX1_addHour, 1, some .boolean, 1, 0, false)), ((cd_X1_addHouse, ct_X1_addHouse, 3, 1), (yX1_addHouse, cX1_addHouse, 1, some .boolean, 1, 0, false)), ((cd_X2_clear, ct_X2_clear, 0, 1), (yX2_clear, cX2_clear, 1, none, 2, 0, false))] : List (nl_M × nl_I)) ++ (([((cd_X2_put, ct_X2_put, 0, 2), (yX2_put, cX2_put, 2, none, 2, 1, false)), ((cd_X2_dropOldest, ct_X2_dropOldest, 0, 3), (yX2_dropOldest, cX2_dropOldest, 3, none, 2, 0, false)), ((cd_X2_takeInto, ct_X2_takeInto, 3, 2), (yX2_takeInto, cX2_takeInto, 2, some .boolean, 2, 1, false)), ((cd_X3_clear, ct_X3_clear, 0, 1), (yX3_clear, cX3_clear, 1, none, 3, 0, false)), ((cd_X3_add, ct_X3_add, 0, 4), (yX3_add, cX3_add, 4, none, 3, 3, false)), ((cd_X3_lastNight, ct_X3_lastNight, 1, 3), (yX3_lastNight, cX3_lastNight, 3, some .int, 3, 0, false)), ((cd_X3_fit, ct_X3_fit, 3, 4), (yX3_fit, cX3_fit, 4, some .boolean, 3, 2, false)), ((cd_X4_settle, ct_X4_settle, 0, 3), (yX4_settle, cX4_settle, 3, none, 4, 1, false)), ((cd_X4_copyFrom, ct_X4_copyFrom, 0, 3), (yX4_copyFrom, cX4_copyFrom, 3, none, 4, 1, false)), ((cd_X4_isHouse, ct_X4_isHouse, 3, 2), (yX4_isHouse, cX4_isHouse, 2, some .boolean, 4, 1, false)), ((cd_X4_isHour, ct_X4_isHour, 3, 2), (yX4_isHour, cX4_isHour, 2, some .boolean, 4, 1, false)), ((cd_X4_houseWith, ct_X4_houseWith, 1, 3), (yX4_houseWith, cX4_houseWith, 3, some .int, 4, 1, false)), ((cd_X4_timesHad, ct_X4_timesHad, 1, 3), (yX4_timesHad, cX4_timesHad, 3, some .int, 4, 2, false)), ((cd_X4_heaviness, ct_X4_heaviness, 1, 4), (yX4_heaviness, cX4_heaviness, 4, some .int, 4, 2, false)), ((cd_X4_hourHadMost, ct_X4_hourHadMost, 1, 6), (yX4_hourHadMost, cX4_hourHadMost, 6, some .int, 4, 1, false)), ((cd_X4_wouldKeep, ct_X4_wouldKeep, 3, 4), (yX4_wouldKeep, cX4_wouldKeep, 4, some .boolean, 4, 3, false))] : List (nl_M × nl_I)) ++ (([((cd_X4_isGapAt, ct_X4_isGapAt, 3, 3), (yX4_isGapAt, cX4_isGapAt, 3, some .boolean, 4, 1, false)), ((cd_X4_seeThrough, ct_X4_seeThrough, 3, 4), (yX4_seeThrough, cX4_seeThrough, 4, some .boolean, 4, 1, false)), ((cd_X4_letNightsPass, ct_X4_letNightsPass, 1, 5), (yX4_letNightsPass, cX4_letNightsPass, 5, some .int, 4, 1, false)), ((cd_X4_trade, ct_X4_trade, 0, 4), (yX4_trade, cX4_trade, 4, none, 4, 2, false)), ((cd_X4_giveRest, ct_X4_giveRest, 0, 2), (yX4_giveRest, cX4_giveRest, 2, none, 4, 1, false)), ((cd_X4_setBurden, ct_X4_setBurden, 0, 3), (yX4_setBurden, cX4_setBurden, 3, none, 4, 2, false)), ((cd_X4_tiredTogether, ct_X4_tiredTogether, 1, 3), (yX4_tiredTogether, cX4_tiredTogether, 3, some .int, 4, 0, false)), ((cd_X4_handingOver, ct_X4_handingOver, 1, 5), (yX4_handingOver, cX4_handingOver, 5, some .int, 4, 0, false)), ((cd_X4_lengthOfRoad, ct_X4_lengthOfRoad, 1, 4), (yX4_lengthOfRoad, cX4_lengthOfRoad, 4, some .int, 4, 0, false)), ((cd_X4_stir, ct_X4_stir, 0, 4), (yX4_stir, cX4_stir, 4, none, 4, 1, false)), ((cd_X5_write, ct_X5_write, 1, 2), (yX5_write, cX5_write, 2, some .int, 5, 1, false)), ((cd_X5_wipe, ct_X5_wipe, 1, 2), (yX5_wipe, cX5_wipe, 2, some .int, 5, 0, false)), ((cd_X5_fault, ct_X5_fault, 1, 1), (yX5_fault, cX5_fault, 1, some .int, 5, 0, false)), ((cd_X5_lay, ct_X5_lay, 1, 1), (yX5_lay, cX5_lay, 1, some .int, 5, 0, false)), ((cd_X5_house, ct_X5_house, 1, 3), (yX5_house, cX5_house, 3, some .int, 5, 2, false)), ((cd_X5_hour, ct_X5_hour, 1, 3), (yX5_hour, cX5_hour, 3, some .int, 5, 2, false))] : List (nl_M × nl_I)) ++ (([((cd_X5_heavy, ct_X5_heavy, 1, 3), (yX5_heavy, cX5_heavy, 3, some .int, 5, 2, false)), ((cd_X5_had, ct_X5_had, 1, 3), (yX5_had, cX5_had, 3, some .int, 5, 2, false)), ((cd_X5_pass, ct_X5_pass, 1, 2), (yX5_pass, cX5_pass, 2, some .int, 5, 1, false)), ((cd_X5_swap, ct_X5_swap, 1, 3), (yX5_swap, cX5_swap, 3, some .int, 5, 2, false)), ((cd_X5_rest, ct_X5_rest, 1, 2), (yX5_rest, cX5_rest, 2, some .int, 5, 1, false)), ((cd_X5_burden, ct_X5_burden, 1, 4), (yX5_burden, cX5_burden, 4, some .int, 5, 2, false)), ((cd_X5_undo, ct_X5_undo, 1, 1), (yX5_undo, cX5_undo, 1, some .int, 5, 0, false)), ((cd_X5_behind, ct_X5_behind, 1, 4), (yX5_behind, cX5_behind, 4, some .int, 5, 3, false)), ((cd_X5_gaps, ct_X5_gaps, 1, 3), (yX5_gaps, cX5_gaps, 3, some .int, 5, 0, false)), ((cd_X5_first, ct_X5_first, 1, 3), (yX5_first, cX5_first, 3, some .int, 5, 1, false)), ((cd_X5_even, ct_X5_even, 1, 2), (yX5_even, cX5_even, 2, some .int, 5, 1, false)), ((cd_X5_swaps, ct_X5_swaps, 1, 1), (yX5_swaps, cX5_swaps, 1, some .int, 5, 0, false)), ((cd_X5_far, ct_X5_far, 1, 2), (yX5_far, cX5_far, 2, some .int, 5, 1, false)), ((cd_X5_lamps, ct_X5_lamps, 1, 5), (yX5_lamps, cX5_lamps, 5, some .int, 5, 2, false)), ((cd_X5_seen, ct_X5_seen, 1, 4), (yX5_seen, cX5_seen, 4, some .int, 5, 3, false)), ((cd_X5_forget, ct_X5_forget, 1, 2), (yX5_forget, cX5_forget, 2, some .int, 5, 0, false))] : List (nl_M × nl_I)) ++ (([((cd_X5_kinds, ct_X5_kinds, 1, 4), (yX5_kinds, cX5_kinds, 4, some .int, 5, 1, false)), ((cd_X5_strengths, ct_X5_strengths, 1, 6), (yX5_strengths, cX5_strengths, 6, some .int, 5, 2, false)), ((cd_X5_likely, ct_X5_likely, 1, 9), (yX5_likely, cX5_likely, 9, some .int, 5, 3, false)), ((cd_X5_winter, ct_X5_winter, 1, 6), (yX5_winter, cX5_winter, 6, some .int, 5, 3, false)), ((cd_X5_keep, ct_X5_keep, 1, 1), (yX5_keep, cX5_keep, 1, some .int, 5, 0, false)), ((cd_X5_back, ct_X5_back, 1, 1), (yX5_back, cX5_back, 1, some .int, 5, 0, false)), ((cd_X5_count, ct_X5_count, 1, 2), (yX5_count, cX5_count, 2, some .int, 5, 1, false)), ((cd_X5_isWithin, ct_X5_isWithin, 3, 3), (yX5_isWithin, cX5_isWithin, 3, some .boolean, 5, 3, true)), ((cd_X5_largestDivisor, ct_X5_largestDivisor, 1, 3), (yX5_largestDivisor, cX5_largestDivisor, 3, some .int, 5, 2, true)), ((cd_X5_drawFor, ct_X5_drawFor, 1, 4), (yX5_drawFor, cX5_drawFor, 4, some .int, 5, 2, true)), ((cd_X5_nextMissAhead, ct_X5_nextMissAhead, 1, 4), (yX5_nextMissAhead, cX5_nextMissAhead, 4, some .int, 5, 2, false)), ((cd_X5_fitsAllSeen, ct_X5_fitsAllSeen, 3, 6), (yX5_fitsAllSeen, cX5_fitsAllSeen, 6, some .boolean, 5, 3, false)), ((cd_X6_in, ct_X6_in, 3, 3), (yX6_in, cX6_in, 3, some .boolean, 6, 3, true)), ((cd_X6_has, ct_X6_has, 3, 2), (yX6_has, cX6_has, 2, some .boolean, 6, 2, true)), ((cd_X6_bits, ct_X6_bits, 1, 3), (yX6_bits, cX6_bits, 3, some .int, 6, 1, true)), ((cd_X6_lesser, ct_X6_lesser, 1, 2), (yX6_lesser, cX6_lesser, 2, some .int, 6, 2, true))] : List (nl_M × nl_I)) ++ (([((cd_X6_greater, ct_X6_greater, 1, 2), (yX6_greater, cX6_greater, 2, some .int, 6, 2, true)), ((cd_X6_firstHouse, ct_X6_firstHouse, 0, 5), (yX6_firstHouse, cX6_firstHouse, 5, none, 6, 4, false)), ((cd_X6_begin, ct_X6_begin, 0, 2), (yX6_begin, cX6_begin, 2, none, 6, 0, false)), ((cd_X6_isOne, ct_X6_isOne, 3, 2), (yX6_isOne, cX6_isOne, 2, some .boolean, 6, 1, false)), ((cd_X6_write, ct_X6_write, 1, 2), (yX6_write, cX6_write, 2, some .int, 6, 1, false)), ((cd_X6_wipe, ct_X6_wipe, 1, 2), (yX6_wipe, cX6_wipe, 2, some .int, 6, 0, false)), ((cd_X6_here, ct_X6_here, 1, 1), (yX6_here, cX6_here, 1, some .int, 6, 0, false)), ((cd_X6_isFigure, ct_X6_isFigure, 3, 1), (yX6_isFigure, cX6_isFigure, 1, some .boolean, 6, 0, false)), ((cd_X6_number, ct_X6_number, 3, 5), (yX6_number, cX6_number, 5, some .boolean, 6, 3, false)), ((cd_X6_readsHour, ct_X6_readsHour, 3, 1), (yX6_readsHour, cX6_readsHour, 1, some .boolean, 6, 0, false)), ((cd_X6_readsHouse, ct_X6_readsHouse, 3, 2), (yX6_readsHouse, cX6_readsHouse, 2, some .boolean, 6, 0, false)), ((cd_X6_readsItem, ct_X6_readsItem, 3, 2), (yX6_readsItem, cX6_readsItem, 2, some .boolean, 6, 0, false)), ((cd_X6_fault, ct_X6_fault, 1, 2), (yX6_fault, cX6_fault, 2, some .int, 6, 0, false)), ((cd_X6_lay, ct_X6_lay, 1, 2), (yX6_lay, cX6_lay, 2, some .int, 6, 0, false)), ((cd_X6_mostOften, ct_X6_mostOften, 1, 6), (yX6_mostOften, cX6_mostOften, 6, some .int, 6, 1, false)), ((cd_X6_weight, ct_X6_weight, 1, 4), (yX6_weight, cX6_weight, 4, some .int, 6, 2, false))] : List (nl_M × nl_I)) ++ (([((cd_X6_keeps, ct_X6_keeps, 3, 3), (yX6_keeps, cX6_keeps, 3, some .boolean, 6, 2, false)), ((cd_X6_gapSet, ct_X6_gapSet, 1, 3), (yX6_gapSet, cX6_gapSet, 3, some .int, 6, 0, false)), ((cd_X6_passes, ct_X6_passes, 1, 4), (yX6_passes, cX6_passes, 4, some .int, 6, 0, false)), ((cd_X6_goesOn, ct_X6_goesOn, 1, 4), (yX6_goesOn, cX6_goesOn, 4, some .int, 6, 1, false)), ((cd_X6_house, ct_X6_house, 1, 3), (yX6_house, cX6_house, 3, some .int, 6, 2, false)), ((cd_X6_whoHas, ct_X6_whoHas, 1, 3), (yX6_whoHas, cX6_whoHas, 3, some .int, 6, 1, false)), ((cd_X6_hour, ct_X6_hour, 1, 3), (yX6_hour, cX6_hour, 3, some .int, 6, 2, false)), ((cd_X6_heavy, ct_X6_heavy, 1, 3), (yX6_heavy, cX6_heavy, 3, some .int, 6, 2, false)), ((cd_X6_had, ct_X6_had, 1, 3), (yX6_had, cX6_had, 3, some .int, 6, 2, false)), ((cd_X6_lays, ct_X6_lays, 0, 4), (yX6_lays, cX6_lays, 4, none, 6, 2, false)), ((cd_X6_takes, ct_X6_takes, 0, 4), (yX6_takes, cX6_takes, 4, none, 6, 2, false)), ((cd_X6_notes, ct_X6_notes, 0, 2), (yX6_notes, cX6_notes, 2, none, 6, 0, false)), ((cd_X6_pass, ct_X6_pass, 1, 2), (yX6_pass, cX6_pass, 2, some .int, 6, 1, false)), ((cd_X6_trades, ct_X6_trades, 0, 4), (yX6_trades, cX6_trades, 4, none, 6, 2, false)), ((cd_X6_swap, ct_X6_swap, 1, 3), (yX6_swap, cX6_swap, 3, some .int, 6, 2, false)), ((cd_X6_rests, ct_X6_rests, 0, 2), (yX6_rests, cX6_rests, 2, none, 6, 1, false))] : List (nl_M × nl_I)) ++ (([((cd_X6_rest, ct_X6_rest, 1, 2), (yX6_rest, cX6_rest, 2, some .int, 6, 1, false)), ((cd_X6_burden, ct_X6_burden, 1, 4), (yX6_burden, cX6_burden, 4, some .int, 6, 2, false)), ((cd_X6_undo, ct_X6_undo, 1, 1), (yX6_undo, cX6_undo, 1, some .int, 6, 0, false)), ((cd_X6_start, ct_X6_start, 0, 1), (yX6_start, cX6_start, 1, none, 6, 0, false)), ((cd_X6_putBack, ct_X6_putBack, 0, 1), (yX6_putBack, cX6_putBack, 1, none, 6, 0, false)), ((cd_X6_behind, ct_X6_behind, 1, 5), (yX6_behind, cX6_behind, 5, some .int, 6, 3, false)), ((cd_X6_gaps, ct_X6_gaps, 1, 1), (yX6_gaps, cX6_gaps, 1, some .int, 6, 0, false)), ((cd_X6_first, ct_X6_first, 1, 5), (yX6_first, cX6_first, 5, some .int, 6, 1, false)), ((cd_X6_firstRow, ct_X6_firstRow, 0, 2), (yX6_firstRow, cX6_firstRow, 2, none, 6, 0, false)), ((cd_X6_nextRow, ct_X6_nextRow, 3, 7), (yX6_nextRow, cX6_nextRow, 7, some .boolean, 6, 0, false)), ((cd_X6_gapsBy, ct_X6_gapsBy, 1, 3), (yX6_gapsBy, cX6_gapsBy, 3, some .int, 6, 0, false)), ((cd_X6_keptWeight, ct_X6_keptWeight, 1, 3), (yX6_keptWeight, cX6_keptWeight, 3, some .int, 6, 0, false)), ((cd_X6_even, ct_X6_even, 1, 8), (yX6_even, cX6_even, 8, some .int, 6, 1, false)), ((cd_X6_swapsTo, ct_X6_swapsTo, 1, 5), (yX6_swapsTo, cX6_swapsTo, 5, some .int, 6, 0, false)), ((cd_X6_swaps, ct_X6_swaps, 1, 3), (yX6_swaps, cX6_swaps, 3, some .int, 6, 0, false)), ((cd_X6_off, ct_X6_off, 1, 2), (yX6_off, cX6_off, 2, some .int, 6, 2, true))] : List (nl_M × nl_I)) ++ (([((cd_X6_far, ct_X6_far, 1, 6), (yX6_far, cX6_far, 6, some .int, 6, 1, false)), ((cd_X6_lamps, ct_X6_lamps, 1, 7), (yX6_lamps, cX6_lamps, 7, some .int, 6, 2, false)), ((cd_X6_seen, ct_X6_seen, 1, 4), (yX6_seen, cX6_seen, 4, some .int, 6, 3, false)), ((cd_X6_forget, ct_X6_forget, 1, 2), (yX6_forget, cX6_forget, 2, some .int, 6, 0, false)), ((cd_X6_isSo, ct_X6_isSo, 3, 5), (yX6_isSo, cX6_isSo, 5, some .boolean, 6, 0, false)), ((cd_X6_kinds, ct_X6_kinds, 1, 5), (yX6_kinds, cX6_kinds, 5, some .int, 6, 1, false)), ((cd_X6_strengths, ct_X6_strengths, 1, 8), (yX6_strengths, cX6_strengths, 8, some .int, 6, 2, false)), ((cd_X6_common, ct_X6_common, 2, 10), (yX6_common, cX6_common, 10, some .long, 6, 2, true)), ((cd_X6_likely, ct_X6_likely, 1, 11), (yX6_likely, cX6_likely, 11, some .int, 6, 3, false)), ((cd_X6_tiredAll, ct_X6_tiredAll, 1, 3), (yX6_tiredAll, cX6_tiredAll, 3, some .int, 6, 0, false)), ((cd_X6_winter, ct_X6_winter, 1, 12), (yX6_winter, cX6_winter, 12, some .int, 6, 3, false)), ((cd_X6_keep, ct_X6_keep, 1, 1), (yX6_keep, cX6_keep, 1, some .int, 6, 0, false)), ((cd_X6_back, ct_X6_back, 1, 1), (yX6_back, cX6_back, 1, some .int, 6, 0, false)), ((cd_X6_count, ct_X6_count, 1, 2), (yX6_count, cX6_count, 2, some .int, 6, 1, false)), ((cd_J6_bitCount_0f7a4, ct_J6_bitCount_0f7a4, 1, 1), (yJ6_bitCount_0f7a4, cJ6_bitCount_0f7a4, 1, some .int, 8, 1, true))] : List (nl_M × nl_I)))))))))) := rfl
theorem nl_zip_ok : ∀ q ∈ nl_mts.zip nl_inf, nl_okM q.1 q.2 := by
  rw [nl_zip_eq]
  exact List.forall_mem_append.mpr ⟨nl_dc0, List.forall_mem_append.mpr ⟨nl_dc1, List.forall_mem_append.mpr ⟨nl_dc2, List.forall_mem_append.mpr ⟨nl_dc3, List.forall_mem_append.mpr ⟨nl_dc4, List.forall_mem_append.mpr ⟨nl_dc5, List.forall_mem_append.mpr ⟨nl_dc6, List.forall_mem_append.mpr ⟨nl_dc7, nl_dc8⟩⟩⟩⟩⟩⟩⟩⟩
set_option maxRecDepth 100000 in
theorem nl_len : nl_mts.length = nl_inf.length := rfl
/-- all of a method that the tables hold -/
theorem nl_of {y : Nat} {M : nl_M} (h : nl_mts[y]? = some M) : ∃ I : nl_I, nl_inf[y]? = some I ∧ nl_okM M I ∧ nl_okI I ∧ nl_nm y = I.1 := by
  have hy : y < nl_mts.length := (List.getElem?_eq_some_iff.mp h).1
  have hy2 : y < nl_inf.length := by rw [← nl_len]; exact hy
  have h2 : nl_inf[y]? = some nl_inf[y] := List.getElem?_eq_getElem hy2
  refine ⟨nl_inf[y], h2, ?_, nl_inf_ok _ (List.getElem_mem hy2), ?_⟩
  · refine nl_zip_ok (M, nl_inf[y]) (List.mem_of_getElem? (i := y) ?_)
    rw [List.getElem?_zip_eq_some]
    exact ⟨h, h2⟩
  · unfold nl_nm
    rw [List.getD_eq_getElem?_getD, h2]
    rfl
set_option maxRecDepth 100000 in
theorem nl_dL2 : cd_L_law.all (nl_ok 7 4) = true := by decide +kernel

set_option maxRecDepth 100000 in
theorem nl_dl0 : ∀ e ∈ ([(16, .iconst 0, 1, 0, 0, 0), (17, .istore_n 3, 1, 0, 0, 0), (18, .iload_n 3, 1, 0, 0, 0), (19, .aload_n 0, 1, 0, 0, 0), (20, .arraylength, 1, 0, 0, 0), (21, .iconst 4, 1, 0, 0, 0), (22, .isub, 1, 0, 0, 0), (23, .if_icmp .gt 884, 3, 907, 0, 0), (26, .aload_n 0, 1, 0, 0, 0), (27, .iload_n 3, 1, 0, 0, 0), (28, .iaload, 1, 0, 0, 0), (29, .bipush 31, 2, 0, 0, 0), (31, .iand, 1, 0, 0, 0), (32, .tableswitch 869 0 28 #[132, 155, 168, 181, 194, 227, 260, 293, 326, 349, 382, 405, 438, 451, 494, 507, 530, 553, 566, 589, 622, 665, 678, 701, 734, 777, 820, 833, 846], 132, 901, 1707305891332395179263381610569150620517447052024088268201288260251232719436449300278436, 29), (164, .aload_n 1, 1, 0, 0, 0), (165, .aload_n 0, 1, 0, 0, 0), (166, .iload_n 3, 1, 0, 0, 0), (167, .iconst 1, 1, 0, 0, 0), (168, .iadd, 1, 0, 0, 0), (169, .iaload, 1, 0, 0, 0), (170, .invokevirtual 13, 3, 42, 1, 21), (173, .aload_n 2, 1, 0, 0, 0), (174, .aload_n 0, 1, 0, 0, 0), (175, .iload_n 3, 1, 0, 0, 0), (176, .iconst 1, 1, 0, 0, 0), (177, .iadd, 1, 0, 0, 0), (178, .iaload, 1, 0, 0, 0), (179, .invokevirtual 17, 3, 84, 1, 25), (182, .if_icmp .eq 719, 3, 901, 0, 0), (185, .iconst 0, 1, 0, 0, 0), (186, .ireturn, 1, 0, 0, 0), (187, .aload_n 1, 1, 0, 0, 0), (188, .invokevirtual 18, 3, 43, 0, 21), (191, .aload_n 2, 1, 0, 0, 0), (192, .invokevirtual 22, 3, 85, 0, 25), (195, .if_icmp .eq 706, 3, 901, 0, 0), (198, .iconst 0, 1, 0, 0, 0), (199, .ireturn, 1, 0, 0, 0), (200, .aload_n 1, 1, 0, 0, 0), (201, .invokevirtual 23, 3, 44, 0, 21)] : List nl_E), decode code e.1 = .ok (e.2.1, e.2.2.1) := by decide +kernel
set_option maxRecDepth 100000 in
theorem nl_dl1 : ∀ e ∈ ([(204, .aload_n 2, 1, 0, 0, 0), (205, .invokevirtual 26, 3, 92, 0, 25), (208, .if_icmp .eq 693, 3, 901, 0, 0), (211, .iconst 0, 1, 0, 0, 0), (212, .ireturn, 1, 0, 0, 0), (213, .aload_n 1, 1, 0, 0, 0), (214, .invokevirtual 27, 3, 45, 0, 21), (217, .aload_n 2, 1, 0, 0, 0), (218, .invokevirtual 30, 3, 93, 0, 25), (221, .if_icmp .eq 680, 3, 901, 0, 0), (224, .iconst 0, 1, 0, 0, 0), (225, .ireturn, 1, 0, 0, 0), (226, .aload_n 1, 1, 0, 0, 0), (227, .aload_n 0, 1, 0, 0, 0), (228, .iload_n 3, 1, 0, 0, 0), (229, .iconst 1, 1, 0, 0, 0), (230, .iadd, 1, 0, 0, 0), (231, .iaload, 1, 0, 0, 0), (232, .aload_n 0, 1, 0, 0, 0), (233, .iload_n 3, 1, 0, 0, 0), (234, .iconst 2, 1, 0, 0, 0), (235, .iadd, 1, 0, 0, 0), (236, .iaload, 1, 0, 0, 0), (237, .invokevirtual 31, 3, 46, 2, 21), (240, .aload_n 2, 1, 0, 0, 0), (241, .aload_n 0, 1, 0, 0, 0), (242, .iload_n 3, 1, 0, 0, 0), (243, .iconst 1, 1, 0, 0, 0), (244, .iadd, 1, 0, 0, 0), (245, .iaload, 1, 0, 0, 0), (246, .aload_n 0, 1, 0, 0, 0), (247, .iload_n 3, 1, 0, 0, 0), (248, .iconst 2, 1, 0, 0, 0), (249, .iadd, 1, 0, 0, 0), (250, .iaload, 1, 0, 0, 0), (251, .invokevirtual 35, 3, 100, 2, 25), (254, .if_icmp .eq 647, 3, 901, 0, 0), (257, .iconst 0, 1, 0, 0, 0), (258, .ireturn, 1, 0, 0, 0), (259, .aload_n 1, 1, 0, 0, 0)] : List nl_E), decode code e.1 = .ok (e.2.1, e.2.2.1) := by decide +kernel
set_option maxRecDepth 100000 in
theorem nl_dl2 : ∀ e ∈ ([(260, .aload_n 0, 1, 0, 0, 0), (261, .iload_n 3, 1, 0, 0, 0), (262, .iconst 1, 1, 0, 0, 0), (263, .iadd, 1, 0, 0, 0), (264, .iaload, 1, 0, 0, 0), (265, .aload_n 0, 1, 0, 0, 0), (266, .iload_n 3, 1, 0, 0, 0), (267, .iconst 2, 1, 0, 0, 0), (268, .iadd, 1, 0, 0, 0), (269, .iaload, 1, 0, 0, 0), (270, .invokevirtual 36, 3, 47, 2, 21), (273, .aload_n 2, 1, 0, 0, 0), (274, .aload_n 0, 1, 0, 0, 0), (275, .iload_n 3, 1, 0, 0, 0), (276, .iconst 1, 1, 0, 0, 0), (277, .iadd, 1, 0, 0, 0), (278, .iaload, 1, 0, 0, 0), (279, .aload_n 0, 1, 0, 0, 0), (280, .iload_n 3, 1, 0, 0, 0), (281, .iconst 2, 1, 0, 0, 0), (282, .iadd, 1, 0, 0, 0), (283, .iaload, 1, 0, 0, 0), (284, .invokevirtual 39, 3, 102, 2, 25), (287, .if_icmp .eq 614, 3, 901, 0, 0), (290, .iconst 0, 1, 0, 0, 0), (291, .ireturn, 1, 0, 0, 0), (292, .aload_n 1, 1, 0, 0, 0), (293, .aload_n 0, 1, 0, 0, 0), (294, .iload_n 3, 1, 0, 0, 0), (295, .iconst 1, 1, 0, 0, 0), (296, .iadd, 1, 0, 0, 0), (297, .iaload, 1, 0, 0, 0), (298, .aload_n 0, 1, 0, 0, 0), (299, .iload_n 3, 1, 0, 0, 0), (300, .iconst 2, 1, 0, 0, 0), (301, .iadd, 1, 0, 0, 0), (302, .iaload, 1, 0, 0, 0), (303, .invokevirtual 40, 3, 48, 2, 21), (306, .aload_n 2, 1, 0, 0, 0), (307, .aload_n 0, 1, 0, 0, 0)] : List nl_E), decode code e.1 = .ok (e.2.1, e.2.2.1) := by decide +kernel
set_option maxRecDepth 100000 in
theorem nl_dl3 : ∀ e ∈ ([(308, .iload_n 3, 1, 0, 0, 0), (309, .iconst 1, 1, 0, 0, 0), (310, .iadd, 1, 0, 0, 0), (311, .iaload, 1, 0, 0, 0), (312, .aload_n 0, 1, 0, 0, 0), (313, .iload_n 3, 1, 0, 0, 0), (314, .iconst 2, 1, 0, 0, 0), (315, .iadd, 1, 0, 0, 0), (316, .iaload, 1, 0, 0, 0), (317, .invokevirtual 43, 3, 103, 2, 25), (320, .if_icmp .eq 581, 3, 901, 0, 0), (323, .iconst 0, 1, 0, 0, 0), (324, .ireturn, 1, 0, 0, 0), (325, .aload_n 1, 1, 0, 0, 0), (326, .aload_n 0, 1, 0, 0, 0), (327, .iload_n 3, 1, 0, 0, 0), (328, .iconst 1, 1, 0, 0, 0), (329, .iadd, 1, 0, 0, 0), (330, .iaload, 1, 0, 0, 0), (331, .aload_n 0, 1, 0, 0, 0), (332, .iload_n 3, 1, 0, 0, 0), (333, .iconst 2, 1, 0, 0, 0), (334, .iadd, 1, 0, 0, 0), (335, .iaload, 1, 0, 0, 0), (336, .invokevirtual 44, 3, 49, 2, 21), (339, .aload_n 2, 1, 0, 0, 0), (340, .aload_n 0, 1, 0, 0, 0), (341, .iload_n 3, 1, 0, 0, 0), (342, .iconst 1, 1, 0, 0, 0), (343, .iadd, 1, 0, 0, 0), (344, .iaload, 1, 0, 0, 0), (345, .aload_n 0, 1, 0, 0, 0), (346, .iload_n 3, 1, 0, 0, 0), (347, .iconst 2, 1, 0, 0, 0), (348, .iadd, 1, 0, 0, 0), (349, .iaload, 1, 0, 0, 0), (350, .invokevirtual 47, 3, 104, 2, 25), (353, .if_icmp .eq 548, 3, 901, 0, 0), (356, .iconst 0, 1, 0, 0, 0), (357, .ireturn, 1, 0, 0, 0)] : List nl_E), decode code e.1 = .ok (e.2.1, e.2.2.1) := by decide +kernel
set_option maxRecDepth 100000 in
theorem nl_dl4 : ∀ e ∈ ([(358, .aload_n 1, 1, 0, 0, 0), (359, .aload_n 0, 1, 0, 0, 0), (360, .iload_n 3, 1, 0, 0, 0), (361, .iconst 1, 1, 0, 0, 0), (362, .iadd, 1, 0, 0, 0), (363, .iaload, 1, 0, 0, 0), (364, .invokevirtual 48, 3, 50, 1, 21), (367, .aload_n 2, 1, 0, 0, 0), (368, .aload_n 0, 1, 0, 0, 0), (369, .iload_n 3, 1, 0, 0, 0), (370, .iconst 1, 1, 0, 0, 0), (371, .iadd, 1, 0, 0, 0), (372, .iaload, 1, 0, 0, 0), (373, .invokevirtual 51, 3, 108, 1, 25), (376, .if_icmp .eq 525, 3, 901, 0, 0), (379, .iconst 0, 1, 0, 0, 0), (380, .ireturn, 1, 0, 0, 0), (381, .aload_n 1, 1, 0, 0, 0), (382, .aload_n 0, 1, 0, 0, 0), (383, .iload_n 3, 1, 0, 0, 0), (384, .iconst 1, 1, 0, 0, 0), (385, .iadd, 1, 0, 0, 0), (386, .iaload, 1, 0, 0, 0), (387, .aload_n 0, 1, 0, 0, 0), (388, .iload_n 3, 1, 0, 0, 0), (389, .iconst 2, 1, 0, 0, 0), (390, .iadd, 1, 0, 0, 0), (391, .iaload, 1, 0, 0, 0), (392, .invokevirtual 52, 3, 51, 2, 21), (395, .aload_n 2, 1, 0, 0, 0), (396, .aload_n 0, 1, 0, 0, 0), (397, .iload_n 3, 1, 0, 0, 0), (398, .iconst 1, 1, 0, 0, 0), (399, .iadd, 1, 0, 0, 0), (400, .iaload, 1, 0, 0, 0), (401, .aload_n 0, 1, 0, 0, 0), (402, .iload_n 3, 1, 0, 0, 0), (403, .iconst 2, 1, 0, 0, 0), (404, .iadd, 1, 0, 0, 0), (405, .iaload, 1, 0, 0, 0)] : List nl_E), decode code e.1 = .ok (e.2.1, e.2.2.1) := by decide +kernel
set_option maxRecDepth 100000 in
theorem nl_dl5 : ∀ e ∈ ([(406, .invokevirtual 55, 3, 110, 2, 25), (409, .if_icmp .eq 492, 3, 901, 0, 0), (412, .iconst 0, 1, 0, 0, 0), (413, .ireturn, 1, 0, 0, 0), (414, .aload_n 1, 1, 0, 0, 0), (415, .aload_n 0, 1, 0, 0, 0), (416, .iload_n 3, 1, 0, 0, 0), (417, .iconst 1, 1, 0, 0, 0), (418, .iadd, 1, 0, 0, 0), (419, .iaload, 1, 0, 0, 0), (420, .invokevirtual 56, 3, 52, 1, 21), (423, .aload_n 2, 1, 0, 0, 0), (424, .aload_n 0, 1, 0, 0, 0), (425, .iload_n 3, 1, 0, 0, 0), (426, .iconst 1, 1, 0, 0, 0), (427, .iadd, 1, 0, 0, 0), (428, .iaload, 1, 0, 0, 0), (429, .invokevirtual 59, 3, 112, 1, 25), (432, .if_icmp .eq 469, 3, 901, 0, 0), (435, .iconst 0, 1, 0, 0, 0), (436, .ireturn, 1, 0, 0, 0), (437, .aload_n 1, 1, 0, 0, 0), (438, .aload_n 0, 1, 0, 0, 0), (439, .iload_n 3, 1, 0, 0, 0), (440, .iconst 1, 1, 0, 0, 0), (441, .iadd, 1, 0, 0, 0), (442, .iaload, 1, 0, 0, 0), (443, .aload_n 0, 1, 0, 0, 0), (444, .iload_n 3, 1, 0, 0, 0), (445, .iconst 2, 1, 0, 0, 0), (446, .iadd, 1, 0, 0, 0), (447, .iaload, 1, 0, 0, 0), (448, .invokevirtual 60, 3, 53, 2, 21), (451, .aload_n 2, 1, 0, 0, 0), (452, .aload_n 0, 1, 0, 0, 0), (453, .iload_n 3, 1, 0, 0, 0), (454, .iconst 1, 1, 0, 0, 0), (455, .iadd, 1, 0, 0, 0), (456, .iaload, 1, 0, 0, 0), (457, .aload_n 0, 1, 0, 0, 0)] : List nl_E), decode code e.1 = .ok (e.2.1, e.2.2.1) := by decide +kernel
set_option maxRecDepth 100000 in
theorem nl_dl6 : ∀ e ∈ ([(458, .iload_n 3, 1, 0, 0, 0), (459, .iconst 2, 1, 0, 0, 0), (460, .iadd, 1, 0, 0, 0), (461, .iaload, 1, 0, 0, 0), (462, .invokevirtual 63, 3, 113, 2, 25), (465, .if_icmp .eq 436, 3, 901, 0, 0), (468, .iconst 0, 1, 0, 0, 0), (469, .ireturn, 1, 0, 0, 0), (470, .aload_n 1, 1, 0, 0, 0), (471, .invokevirtual 64, 3, 54, 0, 21), (474, .aload_n 2, 1, 0, 0, 0), (475, .invokevirtual 67, 3, 114, 0, 25), (478, .if_icmp .eq 423, 3, 901, 0, 0), (481, .iconst 0, 1, 0, 0, 0), (482, .ireturn, 1, 0, 0, 0), (483, .aload_n 1, 1, 0, 0, 0), (484, .aload_n 0, 1, 0, 0, 0), (485, .iload_n 3, 1, 0, 0, 0), (486, .iconst 1, 1, 0, 0, 0), (487, .iadd, 1, 0, 0, 0), (488, .iaload, 1, 0, 0, 0), (489, .aload_n 0, 1, 0, 0, 0), (490, .iload_n 3, 1, 0, 0, 0), (491, .iconst 2, 1, 0, 0, 0), (492, .iadd, 1, 0, 0, 0), (493, .iaload, 1, 0, 0, 0), (494, .aload_n 0, 1, 0, 0, 0), (495, .iload_n 3, 1, 0, 0, 0), (496, .iconst 3, 1, 0, 0, 0), (497, .iadd, 1, 0, 0, 0), (498, .iaload, 1, 0, 0, 0), (499, .invokevirtual 68, 3, 55, 3, 21), (502, .aload_n 2, 1, 0, 0, 0), (503, .aload_n 0, 1, 0, 0, 0), (504, .iload_n 3, 1, 0, 0, 0), (505, .iconst 1, 1, 0, 0, 0), (506, .iadd, 1, 0, 0, 0), (507, .iaload, 1, 0, 0, 0), (508, .aload_n 0, 1, 0, 0, 0), (509, .iload_n 3, 1, 0, 0, 0)] : List nl_E), decode code e.1 = .ok (e.2.1, e.2.2.1) := by decide +kernel
set_option maxRecDepth 100000 in
theorem nl_dl7 : ∀ e ∈ ([(510, .iconst 2, 1, 0, 0, 0), (511, .iadd, 1, 0, 0, 0), (512, .iaload, 1, 0, 0, 0), (513, .aload_n 0, 1, 0, 0, 0), (514, .iload_n 3, 1, 0, 0, 0), (515, .iconst 3, 1, 0, 0, 0), (516, .iadd, 1, 0, 0, 0), (517, .iaload, 1, 0, 0, 0), (518, .invokevirtual 72, 3, 117, 3, 25), (521, .if_icmp .eq 380, 3, 901, 0, 0), (524, .iconst 0, 1, 0, 0, 0), (525, .ireturn, 1, 0, 0, 0), (526, .aload_n 1, 1, 0, 0, 0), (527, .invokevirtual 73, 3, 56, 0, 21), (530, .aload_n 2, 1, 0, 0, 0), (531, .invokevirtual 76, 3, 118, 0, 25), (534, .if_icmp .eq 367, 3, 901, 0, 0), (537, .iconst 0, 1, 0, 0, 0), (538, .ireturn, 1, 0, 0, 0), (539, .aload_n 1, 1, 0, 0, 0), (540, .aload_n 0, 1, 0, 0, 0), (541, .iload_n 3, 1, 0, 0, 0), (542, .iconst 1, 1, 0, 0, 0), (543, .iadd, 1, 0, 0, 0), (544, .iaload, 1, 0, 0, 0), (545, .invokevirtual 77, 3, 57, 1, 21), (548, .aload_n 2, 1, 0, 0, 0), (549, .aload_n 0, 1, 0, 0, 0), (550, .iload_n 3, 1, 0, 0, 0), (551, .iconst 1, 1, 0, 0, 0), (552, .iadd, 1, 0, 0, 0), (553, .iaload, 1, 0, 0, 0), (554, .invokevirtual 80, 3, 119, 1, 25), (557, .if_icmp .eq 344, 3, 901, 0, 0), (560, .iconst 0, 1, 0, 0, 0), (561, .ireturn, 1, 0, 0, 0), (562, .aload_n 1, 1, 0, 0, 0), (563, .aload_n 0, 1, 0, 0, 0), (564, .iload_n 3, 1, 0, 0, 0), (565, .iconst 1, 1, 0, 0, 0)] : List nl_E), decode code e.1 = .ok (e.2.1, e.2.2.1) := by decide +kernel
set_option maxRecDepth 100000 in
theorem nl_dl8 : ∀ e ∈ ([(566, .iadd, 1, 0, 0, 0), (567, .iaload, 1, 0, 0, 0), (568, .invokevirtual 81, 3, 58, 1, 21), (571, .aload_n 2, 1, 0, 0, 0), (572, .aload_n 0, 1, 0, 0, 0), (573, .iload_n 3, 1, 0, 0, 0), (574, .iconst 1, 1, 0, 0, 0), (575, .iadd, 1, 0, 0, 0), (576, .iaload, 1, 0, 0, 0), (577, .invokevirtual 84, 3, 124, 1, 25), (580, .if_icmp .eq 321, 3, 901, 0, 0), (583, .iconst 0, 1, 0, 0, 0), (584, .ireturn, 1, 0, 0, 0), (585, .aload_n 1, 1, 0, 0, 0), (586, .invokevirtual 85, 3, 59, 0, 21), (589, .aload_n 2, 1, 0, 0, 0), (590, .invokevirtual 88, 3, 126, 0, 25), (593, .if_icmp .eq 308, 3, 901, 0, 0), (596, .iconst 0, 1, 0, 0, 0), (597, .ireturn, 1, 0, 0, 0), (598, .aload_n 1, 1, 0, 0, 0), (599, .aload_n 0, 1, 0, 0, 0), (600, .iload_n 3, 1, 0, 0, 0), (601, .iconst 1, 1, 0, 0, 0), (602, .iadd, 1, 0, 0, 0), (603, .iaload, 1, 0, 0, 0), (604, .invokevirtual 89, 3, 60, 1, 21), (607, .aload_n 2, 1, 0, 0, 0), (608, .aload_n 0, 1, 0, 0, 0), (609, .iload_n 3, 1, 0, 0, 0), (610, .iconst 1, 1, 0, 0, 0), (611, .iadd, 1, 0, 0, 0), (612, .iaload, 1, 0, 0, 0), (613, .invokevirtual 92, 3, 128, 1, 25), (616, .if_icmp .eq 285, 3, 901, 0, 0), (619, .iconst 0, 1, 0, 0, 0), (620, .ireturn, 1, 0, 0, 0), (621, .aload_n 1, 1, 0, 0, 0), (622, .aload_n 0, 1, 0, 0, 0), (623, .iload_n 3, 1, 0, 0, 0)] : List nl_E), decode code e.1 = .ok (e.2.1, e.2.2.1) := by decide +kernel
set_option maxRecDepth 100000 in
theorem nl_dl9 : ∀ e ∈ ([(624, .iconst 1, 1, 0, 0, 0), (625, .iadd, 1, 0, 0, 0), (626, .iaload, 1, 0, 0, 0), (627, .aload_n 0, 1, 0, 0, 0), (628, .iload_n 3, 1, 0, 0, 0), (629, .iconst 2, 1, 0, 0, 0), (630, .iadd, 1, 0, 0, 0), (631, .iaload, 1, 0, 0, 0), (632, .invokevirtual 93, 3, 61, 2, 21), (635, .aload_n 2, 1, 0, 0, 0), (636, .aload_n 0, 1, 0, 0, 0), (637, .iload_n 3, 1, 0, 0, 0), (638, .iconst 1, 1, 0, 0, 0), (639, .iadd, 1, 0, 0, 0), (640, .iaload, 1, 0, 0, 0), (641, .aload_n 0, 1, 0, 0, 0), (642, .iload_n 3, 1, 0, 0, 0), (643, .iconst 2, 1, 0, 0, 0), (644, .iadd, 1, 0, 0, 0), (645, .iaload, 1, 0, 0, 0), (646, .invokevirtual 96, 3, 129, 2, 25), (649, .if_icmp .eq 252, 3, 901, 0, 0), (652, .iconst 0, 1, 0, 0, 0), (653, .ireturn, 1, 0, 0, 0), (654, .aload_n 1, 1, 0, 0, 0), (655, .aload_n 0, 1, 0, 0, 0), (656, .iload_n 3, 1, 0, 0, 0), (657, .iconst 1, 1, 0, 0, 0), (658, .iadd, 1, 0, 0, 0), (659, .iaload, 1, 0, 0, 0), (660, .aload_n 0, 1, 0, 0, 0), (661, .iload_n 3, 1, 0, 0, 0), (662, .iconst 2, 1, 0, 0, 0), (663, .iadd, 1, 0, 0, 0), (664, .iaload, 1, 0, 0, 0), (665, .aload_n 0, 1, 0, 0, 0), (666, .iload_n 3, 1, 0, 0, 0), (667, .iconst 3, 1, 0, 0, 0), (668, .iadd, 1, 0, 0, 0), (669, .iaload, 1, 0, 0, 0)] : List nl_E), decode code e.1 = .ok (e.2.1, e.2.2.1) := by decide +kernel
set_option maxRecDepth 100000 in
theorem nl_dl10 : ∀ e ∈ ([(670, .invokevirtual 97, 3, 62, 3, 21), (673, .aload_n 2, 1, 0, 0, 0), (674, .aload_n 0, 1, 0, 0, 0), (675, .iload_n 3, 1, 0, 0, 0), (676, .iconst 1, 1, 0, 0, 0), (677, .iadd, 1, 0, 0, 0), (678, .iaload, 1, 0, 0, 0), (679, .aload_n 0, 1, 0, 0, 0), (680, .iload_n 3, 1, 0, 0, 0), (681, .iconst 2, 1, 0, 0, 0), (682, .iadd, 1, 0, 0, 0), (683, .iaload, 1, 0, 0, 0), (684, .aload_n 0, 1, 0, 0, 0), (685, .iload_n 3, 1, 0, 0, 0), (686, .iconst 3, 1, 0, 0, 0), (687, .iadd, 1, 0, 0, 0), (688, .iaload, 1, 0, 0, 0), (689, .invokevirtual 100, 3, 130, 3, 25), (692, .if_icmp .eq 209, 3, 901, 0, 0), (695, .iconst 0, 1, 0, 0, 0), (696, .ireturn, 1, 0, 0, 0), (697, .aload_n 1, 1, 0, 0, 0), (698, .invokevirtual 101, 3, 63, 0, 21), (701, .aload_n 2, 1, 0, 0, 0), (702, .invokevirtual 104, 3, 131, 0, 25), (705, .if_icmp .eq 196, 3, 901, 0, 0), (708, .iconst 0, 1, 0, 0, 0), (709, .ireturn, 1, 0, 0, 0), (710, .aload_n 1, 1, 0, 0, 0), (711, .aload_n 0, 1, 0, 0, 0), (712, .iload_n 3, 1, 0, 0, 0), (713, .iconst 1, 1, 0, 0, 0), (714, .iadd, 1, 0, 0, 0), (715, .iaload, 1, 0, 0, 0), (716, .invokevirtual 105, 3, 64, 1, 21), (719, .aload_n 2, 1, 0, 0, 0), (720, .aload_n 0, 1, 0, 0, 0), (721, .iload_n 3, 1, 0, 0, 0), (722, .iconst 1, 1, 0, 0, 0), (723, .iadd, 1, 0, 0, 0)] : List nl_E), decode code e.1 = .ok (e.2.1, e.2.2.1) := by decide +kernel
set_option maxRecDepth 100000 in
theorem nl_dl11 : ∀ e ∈ ([(724, .iaload, 1, 0, 0, 0), (725, .invokevirtual 108, 3, 133, 1, 25), (728, .if_icmp .eq 173, 3, 901, 0, 0), (731, .iconst 0, 1, 0, 0, 0), (732, .ireturn, 1, 0, 0, 0), (733, .aload_n 1, 1, 0, 0, 0), (734, .aload_n 0, 1, 0, 0, 0), (735, .iload_n 3, 1, 0, 0, 0), (736, .iconst 1, 1, 0, 0, 0), (737, .iadd, 1, 0, 0, 0), (738, .iaload, 1, 0, 0, 0), (739, .aload_n 0, 1, 0, 0, 0), (740, .iload_n 3, 1, 0, 0, 0), (741, .iconst 2, 1, 0, 0, 0), (742, .iadd, 1, 0, 0, 0), (743, .iaload, 1, 0, 0, 0), (744, .invokevirtual 109, 3, 65, 2, 21), (747, .aload_n 2, 1, 0, 0, 0), (748, .aload_n 0, 1, 0, 0, 0), (749, .iload_n 3, 1, 0, 0, 0), (750, .iconst 1, 1, 0, 0, 0), (751, .iadd, 1, 0, 0, 0), (752, .iaload, 1, 0, 0, 0), (753, .aload_n 0, 1, 0, 0, 0), (754, .iload_n 3, 1, 0, 0, 0), (755, .iconst 2, 1, 0, 0, 0), (756, .iadd, 1, 0, 0, 0), (757, .iaload, 1, 0, 0, 0), (758, .invokevirtual 112, 3, 134, 2, 25), (761, .if_icmp .eq 140, 3, 901, 0, 0), (764, .iconst 0, 1, 0, 0, 0), (765, .ireturn, 1, 0, 0, 0), (766, .aload_n 1, 1, 0, 0, 0), (767, .aload_n 0, 1, 0, 0, 0), (768, .iload_n 3, 1, 0, 0, 0), (769, .iconst 1, 1, 0, 0, 0), (770, .iadd, 1, 0, 0, 0), (771, .iaload, 1, 0, 0, 0), (772, .aload_n 0, 1, 0, 0, 0), (773, .iload_n 3, 1, 0, 0, 0)] : List nl_E), decode code e.1 = .ok (e.2.1, e.2.2.1) := by decide +kernel
set_option maxRecDepth 100000 in
theorem nl_dl12 : ∀ e ∈ ([(774, .iconst 2, 1, 0, 0, 0), (775, .iadd, 1, 0, 0, 0), (776, .iaload, 1, 0, 0, 0), (777, .aload_n 0, 1, 0, 0, 0), (778, .iload_n 3, 1, 0, 0, 0), (779, .iconst 3, 1, 0, 0, 0), (780, .iadd, 1, 0, 0, 0), (781, .iaload, 1, 0, 0, 0), (782, .invokevirtual 113, 3, 66, 3, 21), (785, .aload_n 2, 1, 0, 0, 0), (786, .aload_n 0, 1, 0, 0, 0), (787, .iload_n 3, 1, 0, 0, 0), (788, .iconst 1, 1, 0, 0, 0), (789, .iadd, 1, 0, 0, 0), (790, .iaload, 1, 0, 0, 0), (791, .aload_n 0, 1, 0, 0, 0), (792, .iload_n 3, 1, 0, 0, 0), (793, .iconst 2, 1, 0, 0, 0), (794, .iadd, 1, 0, 0, 0), (795, .iaload, 1, 0, 0, 0), (796, .aload_n 0, 1, 0, 0, 0), (797, .iload_n 3, 1, 0, 0, 0), (798, .iconst 3, 1, 0, 0, 0), (799, .iadd, 1, 0, 0, 0), (800, .iaload, 1, 0, 0, 0), (801, .invokevirtual 116, 3, 136, 3, 25), (804, .if_icmp .eq 97, 3, 901, 0, 0), (807, .iconst 0, 1, 0, 0, 0), (808, .ireturn, 1, 0, 0, 0), (809, .aload_n 1, 1, 0, 0, 0), (810, .aload_n 0, 1, 0, 0, 0), (811, .iload_n 3, 1, 0, 0, 0), (812, .iconst 1, 1, 0, 0, 0), (813, .iadd, 1, 0, 0, 0), (814, .iaload, 1, 0, 0, 0), (815, .aload_n 0, 1, 0, 0, 0), (816, .iload_n 3, 1, 0, 0, 0), (817, .iconst 2, 1, 0, 0, 0), (818, .iadd, 1, 0, 0, 0), (819, .iaload, 1, 0, 0, 0)] : List nl_E), decode code e.1 = .ok (e.2.1, e.2.2.1) := by decide +kernel
set_option maxRecDepth 100000 in
theorem nl_dl13 : ∀ e ∈ ([(820, .aload_n 0, 1, 0, 0, 0), (821, .iload_n 3, 1, 0, 0, 0), (822, .iconst 3, 1, 0, 0, 0), (823, .iadd, 1, 0, 0, 0), (824, .iaload, 1, 0, 0, 0), (825, .invokevirtual 117, 3, 67, 3, 21), (828, .aload_n 2, 1, 0, 0, 0), (829, .aload_n 0, 1, 0, 0, 0), (830, .iload_n 3, 1, 0, 0, 0), (831, .iconst 1, 1, 0, 0, 0), (832, .iadd, 1, 0, 0, 0), (833, .iaload, 1, 0, 0, 0), (834, .aload_n 0, 1, 0, 0, 0), (835, .iload_n 3, 1, 0, 0, 0), (836, .iconst 2, 1, 0, 0, 0), (837, .iadd, 1, 0, 0, 0), (838, .iaload, 1, 0, 0, 0), (839, .aload_n 0, 1, 0, 0, 0), (840, .iload_n 3, 1, 0, 0, 0), (841, .iconst 3, 1, 0, 0, 0), (842, .iadd, 1, 0, 0, 0), (843, .iaload, 1, 0, 0, 0), (844, .invokevirtual 120, 3, 138, 3, 25), (847, .if_icmp .eq 54, 3, 901, 0, 0), (850, .iconst 0, 1, 0, 0, 0), (851, .ireturn, 1, 0, 0, 0), (852, .aload_n 1, 1, 0, 0, 0), (853, .invokevirtual 121, 3, 68, 0, 21), (856, .aload_n 2, 1, 0, 0, 0), (857, .invokevirtual 124, 3, 139, 0, 25), (860, .if_icmp .eq 41, 3, 901, 0, 0), (863, .iconst 0, 1, 0, 0, 0), (864, .ireturn, 1, 0, 0, 0), (865, .aload_n 1, 1, 0, 0, 0), (866, .invokevirtual 125, 3, 69, 0, 21), (869, .aload_n 2, 1, 0, 0, 0), (870, .invokevirtual 128, 3, 140, 0, 25), (873, .if_icmp .eq 28, 3, 901, 0, 0), (876, .iconst 0, 1, 0, 0, 0), (877, .ireturn, 1, 0, 0, 0)] : List nl_E), decode code e.1 = .ok (e.2.1, e.2.2.1) := by decide +kernel
set_option maxRecDepth 100000 in
theorem nl_dl14 : ∀ e ∈ ([(878, .aload_n 1, 1, 0, 0, 0), (879, .aload_n 0, 1, 0, 0, 0), (880, .iload_n 3, 1, 0, 0, 0), (881, .iconst 1, 1, 0, 0, 0), (882, .iadd, 1, 0, 0, 0), (883, .iaload, 1, 0, 0, 0), (884, .invokevirtual 129, 3, 70, 1, 21), (887, .aload_n 2, 1, 0, 0, 0), (888, .aload_n 0, 1, 0, 0, 0), (889, .iload_n 3, 1, 0, 0, 0), (890, .iconst 1, 1, 0, 0, 0), (891, .iadd, 1, 0, 0, 0), (892, .iaload, 1, 0, 0, 0), (893, .invokevirtual 132, 3, 141, 1, 25), (896, .if_icmp .eq 5, 3, 901, 0, 0), (899, .iconst 0, 1, 0, 0, 0), (900, .ireturn, 1, 0, 0, 0), (901, .iinc 3 4, 3, 0, 0, 0), (904, .goto (-886), 3, 18, 0, 0), (907, .iconst 1, 1, 0, 0, 0), (908, .ireturn, 1, 0, 0, 0)] : List nl_E), decode code e.1 = .ok (e.2.1, e.2.2.1) := by decide +kernel
set_option maxRecDepth 100000 in
theorem nl_dl_eq : cd_L_law = ([(16, .iconst 0, 1, 0, 0, 0), (17, .istore_n 3, 1, 0, 0, 0), (18, .iload_n 3, 1, 0, 0, 0), (19, .aload_n 0, 1, 0, 0, 0), (20, .arraylength, 1, 0, 0, 0), (21, .iconst 4, 1, 0, 0, 0), (22, .isub, 1, 0, 0, 0), (23, .if_icmp .gt 884, 3, 907, 0, 0), (26, .aload_n 0, 1, 0, 0, 0), (27, .iload_n 3, 1, 0, 0, 0), (28, .iaload, 1, 0, 0, 0), (29, .bipush 31, 2, 0, 0, 0), (31, .iand, 1, 0, 0, 0), (32, .tableswitch 869 0 28 #[132, 155, 168, 181, 194, 227, 260, 293, 326, 349, 382, 405, 438, 451, 494, 507, 530, 553, 566, 589, 622, 665, 678, 701, 734, 777, 820, 833, 846], 132, 901, 1707305891332395179263381610569150620517447052024088268201288260251232719436449300278436, 29), (164, .aload_n 1, 1, 0, 0, 0), (165, .aload_n 0, 1, 0, 0, 0), (166, .iload_n 3, 1, 0, 0, 0), (167, .iconst 1, 1, 0, 0, 0), (168, .iadd, 1, 0, 0, 0), (169, .iaload, 1, 0, 0, 0), (170, .invokevirtual 13, 3, 42, 1, 21), (173, .aload_n 2, 1, 0, 0, 0), (174, .aload_n 0, 1, 0, 0, 0), (175, .iload_n 3, 1, 0, 0, 0), (176, .iconst 1, 1, 0, 0, 0), (177, .iadd, 1, 0, 0, 0), (178, .iaload, 1, 0, 0, 0), (179, .invokevirtual 17, 3, 84, 1, 25), (182, .if_icmp .eq 719, 3, 901, 0, 0), (185, .iconst 0, 1, 0, 0, 0), (186, .ireturn, 1, 0, 0, 0), (187, .aload_n 1, 1, 0, 0, 0), (188, .invokevirtual 18, 3, 43, 0, 21), (191, .aload_n 2, 1, 0, 0, 0), (192, .invokevirtual 22, 3, 85, 0, 25), (195, .if_icmp .eq 706, 3, 901, 0, 0), (198, .iconst 0, 1, 0, 0, 0), (199, .ireturn, 1, 0, 0, 0), (200, .aload_n 1, 1, 0, 0, 0), (201, .invokevirtual 23, 3, 44, 0, 21)] : List nl_E) ++ (([(204, .aload_n 2, 1, 0, 0, 0), (205, .invokevirtual 26, 3, 92, 0, 25), (208, .if_icmp .eq 693, 3, 901, 0, 0), (211, .iconst 0, 1, 0, 0, 0), (212, .ireturn, 1, 0, 0, 0), (213, .aload_n 1, 1, 0, 0, 0), (214, .invokevirtual 27, 3, 45, 0, 21), (217, .aload_n 2, 1, 0, 0, 0), (218, .invokevirtual 30, 3, 93, 0, 25), (221, .if_icmp .eq 680, 3, 901, 0, 0), (224, .iconst 0, 1, 0, 0, 0), (225, .ireturn, 1, 0, 0, 0), (226, .aload_n 1, 1, 0, 0, 0), (227, .aload_n 0, 1, 0, 0, 0), (228, .iload_n 3, 1, 0, 0, 0), (229, .iconst 1, 1, 0, 0, 0), (230, .iadd, 1, 0, 0, 0), (231, .iaload, 1, 0, 0, 0), (232, .aload_n 0, 1, 0, 0, 0), (233, .iload_n 3, 1, 0, 0, 0), (234, .iconst 2, 1, 0, 0, 0), (235, .iadd, 1, 0, 0, 0), (236, .iaload, 1, 0, 0, 0), (237, .invokevirtual 31, 3, 46, 2, 21), (240, .aload_n 2, 1, 0, 0, 0), (241, .aload_n 0, 1, 0, 0, 0), (242, .iload_n 3, 1, 0, 0, 0), (243, .iconst 1, 1, 0, 0, 0), (244, .iadd, 1, 0, 0, 0), (245, .iaload, 1, 0, 0, 0), (246, .aload_n 0, 1, 0, 0, 0), (247, .iload_n 3, 1, 0, 0, 0), (248, .iconst 2, 1, 0, 0, 0), (249, .iadd, 1, 0, 0, 0), (250, .iaload, 1, 0, 0, 0), (251, .invokevirtual 35, 3, 100, 2, 25), (254, .if_icmp .eq 647, 3, 901, 0, 0), (257, .iconst 0, 1, 0, 0, 0), (258, .ireturn, 1, 0, 0, 0), (259, .aload_n 1, 1, 0, 0, 0)] : List nl_E) ++ (([(260, .aload_n 0, 1, 0, 0, 0), (261, .iload_n 3, 1, 0, 0, 0), (262, .iconst 1, 1, 0, 0, 0), (263, .iadd, 1, 0, 0, 0), (264, .iaload, 1, 0, 0, 0), (265, .aload_n 0, 1, 0, 0, 0), (266, .iload_n 3, 1, 0, 0, 0), (267, .iconst 2, 1, 0, 0, 0), (268, .iadd, 1, 0, 0, 0), (269, .iaload, 1, 0, 0, 0), (270, .invokevirtual 36, 3, 47, 2, 21), (273, .aload_n 2, 1, 0, 0, 0), (274, .aload_n 0, 1, 0, 0, 0), (275, .iload_n 3, 1, 0, 0, 0), (276, .iconst 1, 1, 0, 0, 0), (277, .iadd, 1, 0, 0, 0), (278, .iaload, 1, 0, 0, 0), (279, .aload_n 0, 1, 0, 0, 0), (280, .iload_n 3, 1, 0, 0, 0), (281, .iconst 2, 1, 0, 0, 0), (282, .iadd, 1, 0, 0, 0), (283, .iaload, 1, 0, 0, 0), (284, .invokevirtual 39, 3, 102, 2, 25), (287, .if_icmp .eq 614, 3, 901, 0, 0), (290, .iconst 0, 1, 0, 0, 0), (291, .ireturn, 1, 0, 0, 0), (292, .aload_n 1, 1, 0, 0, 0), (293, .aload_n 0, 1, 0, 0, 0), (294, .iload_n 3, 1, 0, 0, 0), (295, .iconst 1, 1, 0, 0, 0), (296, .iadd, 1, 0, 0, 0), (297, .iaload, 1, 0, 0, 0), (298, .aload_n 0, 1, 0, 0, 0), (299, .iload_n 3, 1, 0, 0, 0), (300, .iconst 2, 1, 0, 0, 0), (301, .iadd, 1, 0, 0, 0), (302, .iaload, 1, 0, 0, 0), (303, .invokevirtual 40, 3, 48, 2, 21), (306, .aload_n 2, 1, 0, 0, 0), (307, .aload_n 0, 1, 0, 0, 0)] : List nl_E) ++ (([(308, .iload_n 3, 1, 0, 0, 0), (309, .iconst 1, 1, 0, 0, 0), (310, .iadd, 1, 0, 0, 0), (311, .iaload, 1, 0, 0, 0), (312, .aload_n 0, 1, 0, 0, 0), (313, .iload_n 3, 1, 0, 0, 0), (314, .iconst 2, 1, 0, 0, 0), (315, .iadd, 1, 0, 0, 0), (316, .iaload, 1, 0, 0, 0), (317, .invokevirtual 43, 3, 103, 2, 25), (320, .if_icmp .eq 581, 3, 901, 0, 0), (323, .iconst 0, 1, 0, 0, 0), (324, .ireturn, 1, 0, 0, 0), (325, .aload_n 1, 1, 0, 0, 0), (326, .aload_n 0, 1, 0, 0, 0), (327, .iload_n 3, 1, 0, 0, 0), (328, .iconst 1, 1, 0, 0, 0), (329, .iadd, 1, 0, 0, 0), (330, .iaload, 1, 0, 0, 0), (331, .aload_n 0, 1, 0, 0, 0), (332, .iload_n 3, 1, 0, 0, 0), (333, .iconst 2, 1, 0, 0, 0), (334, .iadd, 1, 0, 0, 0), (335, .iaload, 1, 0, 0, 0), (336, .invokevirtual 44, 3, 49, 2, 21), (339, .aload_n 2, 1, 0, 0, 0), (340, .aload_n 0, 1, 0, 0, 0), (341, .iload_n 3, 1, 0, 0, 0), (342, .iconst 1, 1, 0, 0, 0), (343, .iadd, 1, 0, 0, 0), (344, .iaload, 1, 0, 0, 0), (345, .aload_n 0, 1, 0, 0, 0), (346, .iload_n 3, 1, 0, 0, 0), (347, .iconst 2, 1, 0, 0, 0), (348, .iadd, 1, 0, 0, 0), (349, .iaload, 1, 0, 0, 0), (350, .invokevirtual 47, 3, 104, 2, 25), (353, .if_icmp .eq 548, 3, 901, 0, 0), (356, .iconst 0, 1, 0, 0, 0), (357, .ireturn, 1, 0, 0, 0)] : List nl_E) ++ (([(358, .aload_n 1, 1, 0, 0, 0), (359, .aload_n 0, 1, 0, 0, 0), (360, .iload_n 3, 1, 0, 0, 0), (361, .iconst 1, 1, 0, 0, 0), (362, .iadd, 1, 0, 0, 0), (363, .iaload, 1, 0, 0, 0), (364, .invokevirtual 48, 3, 50, 1, 21), (367, .aload_n 2, 1, 0, 0, 0), (368, .aload_n 0, 1, 0, 0, 0), (369, .iload_n 3, 1, 0, 0, 0), (370, .iconst 1, 1, 0, 0, 0), (371, .iadd, 1, 0, 0, 0), (372, .iaload, 1, 0, 0, 0), (373, .invokevirtual 51, 3, 108, 1, 25), (376, .if_icmp .eq 525, 3, 901, 0, 0), (379, .iconst 0, 1, 0, 0, 0), (380, .ireturn, 1, 0, 0, 0), (381, .aload_n 1, 1, 0, 0, 0), (382, .aload_n 0, 1, 0, 0, 0), (383, .iload_n 3, 1, 0, 0, 0), (384, .iconst 1, 1, 0, 0, 0), (385, .iadd, 1, 0, 0, 0), (386, .iaload, 1, 0, 0, 0), (387, .aload_n 0, 1, 0, 0, 0), (388, .iload_n 3, 1, 0, 0, 0), (389, .iconst 2, 1, 0, 0, 0), (390, .iadd, 1, 0, 0, 0), (391, .iaload, 1, 0, 0, 0), (392, .invokevirtual 52, 3, 51, 2, 21), (395, .aload_n 2, 1, 0, 0, 0), (396, .aload_n 0, 1, 0, 0, 0), (397, .iload_n 3, 1, 0, 0, 0), (398, .iconst 1, 1, 0, 0, 0), (399, .iadd, 1, 0, 0, 0), (400, .iaload, 1, 0, 0, 0), (401, .aload_n 0, 1, 0, 0, 0), (402, .iload_n 3, 1, 0, 0, 0), (403, .iconst 2, 1, 0, 0, 0), (404, .iadd, 1, 0, 0, 0), (405, .iaload, 1, 0, 0, 0)] : List nl_E) ++ (([(406, .invokevirtual 55, 3, 110, 2, 25), (409, .if_icmp .eq 492, 3, 901, 0, 0), (412, .iconst 0, 1, 0, 0, 0), (413, .ireturn, 1, 0, 0, 0), (414, .aload_n 1, 1, 0, 0, 0), (415, .aload_n 0, 1, 0, 0, 0), (416, .iload_n 3, 1, 0, 0, 0), (417, .iconst 1, 1, 0, 0, 0), (418, .iadd, 1, 0, 0, 0), (419, .iaload, 1, 0, 0, 0), (420, .invokevirtual 56, 3, 52, 1, 21), (423, .aload_n 2, 1, 0, 0, 0), (424, .aload_n 0, 1, 0, 0, 0), (425, .iload_n 3, 1, 0, 0, 0), (426, .iconst 1, 1, 0, 0, 0), (427, .iadd, 1, 0, 0, 0), (428, .iaload, 1, 0, 0, 0), (429, .invokevirtual 59, 3, 112, 1, 25), (432, .if_icmp .eq 469, 3, 901, 0, 0), (435, .iconst 0, 1, 0, 0, 0), (436, .ireturn, 1, 0, 0, 0), (437, .aload_n 1, 1, 0, 0, 0), (438, .aload_n 0, 1, 0, 0, 0), (439, .iload_n 3, 1, 0, 0, 0), (440, .iconst 1, 1, 0, 0, 0), (441, .iadd, 1, 0, 0, 0), (442, .iaload, 1, 0, 0, 0), (443, .aload_n 0, 1, 0, 0, 0), (444, .iload_n 3, 1, 0, 0, 0), (445, .iconst 2, 1, 0, 0, 0), (446, .iadd, 1, 0, 0, 0), (447, .iaload, 1, 0, 0, 0), (448, .invokevirtual 60, 3, 53, 2, 21), (451, .aload_n 2, 1, 0, 0, 0), (452, .aload_n 0, 1, 0, 0, 0), (453, .iload_n 3, 1, 0, 0, 0), (454, .iconst 1, 1, 0, 0, 0), (455, .iadd, 1, 0, 0, 0), (456, .iaload, 1, 0, 0, 0), (457, .aload_n 0, 1, 0, 0, 0)] : List nl_E) ++ (([(458, .iload_n 3, 1, 0, 0, 0), (459, .iconst 2, 1, 0, 0, 0), (460, .iadd, 1, 0, 0, 0), (461, .iaload, 1, 0, 0, 0), (462, .invokevirtual 63, 3, 113, 2, 25), (465, .if_icmp .eq 436, 3, 901, 0, 0), (468, .iconst 0, 1, 0, 0, 0), (469, .ireturn, 1, 0, 0, 0), (470, .aload_n 1, 1, 0, 0, 0), (471, .invokevirtual 64, 3, 54, 0, 21), (474, .aload_n 2, 1, 0, 0, 0), (475, .invokevirtual 67, 3, 114, 0, 25), (478, .if_icmp .eq 423, 3, 901, 0, 0), (481, .iconst 0, 1, 0, 0, 0), (482, .ireturn, 1, 0, 0, 0), (483, .aload_n 1, 1, 0, 0, 0), (484, .aload_n 0, 1, 0, 0, 0), (485, .iload_n 3, 1, 0, 0, 0), (486, .iconst 1, 1, 0, 0, 0), (487, .iadd, 1, 0, 0, 0), (488, .iaload, 1, 0, 0, 0), (489, .aload_n 0, 1, 0, 0, 0), (490, .iload_n 3, 1, 0, 0, 0), (491, .iconst 2, 1, 0, 0, 0), (492, .iadd, 1, 0, 0, 0), (493, .iaload, 1, 0, 0, 0), (494, .aload_n 0, 1, 0, 0, 0), (495, .iload_n 3, 1, 0, 0, 0), (496, .iconst 3, 1, 0, 0, 0), (497, .iadd, 1, 0, 0, 0), (498, .iaload, 1, 0, 0, 0), (499, .invokevirtual 68, 3, 55, 3, 21), (502, .aload_n 2, 1, 0, 0, 0), (503, .aload_n 0, 1, 0, 0, 0), (504, .iload_n 3, 1, 0, 0, 0), (505, .iconst 1, 1, 0, 0, 0), (506, .iadd, 1, 0, 0, 0), (507, .iaload, 1, 0, 0, 0), (508, .aload_n 0, 1, 0, 0, 0), (509, .iload_n 3, 1, 0, 0, 0)] : List nl_E) ++ (([(510, .iconst 2, 1, 0, 0, 0), (511, .iadd, 1, 0, 0, 0), (512, .iaload, 1, 0, 0, 0), (513, .aload_n 0, 1, 0, 0, 0), (514, .iload_n 3, 1, 0, 0, 0), (515, .iconst 3, 1, 0, 0, 0), (516, .iadd, 1, 0, 0, 0), (517, .iaload, 1, 0, 0, 0), (518, .invokevirtual 72, 3, 117, 3, 25), (521, .if_icmp .eq 380, 3, 901, 0, 0), (524, .iconst 0, 1, 0, 0, 0), (525, .ireturn, 1, 0, 0, 0), (526, .aload_n 1, 1, 0, 0, 0), (527, .invokevirtual 73, 3, 56, 0, 21), (530, .aload_n 2, 1, 0, 0, 0), (531, .invokevirtual 76, 3, 118, 0, 25), (534, .if_icmp .eq 367, 3, 901, 0, 0), (537, .iconst 0, 1, 0, 0, 0), (538, .ireturn, 1, 0, 0, 0), (539, .aload_n 1, 1, 0, 0, 0), (540, .aload_n 0, 1, 0, 0, 0), (541, .iload_n 3, 1, 0, 0, 0), (542, .iconst 1, 1, 0, 0, 0), (543, .iadd, 1, 0, 0, 0), (544, .iaload, 1, 0, 0, 0), (545, .invokevirtual 77, 3, 57, 1, 21), (548, .aload_n 2, 1, 0, 0, 0), (549, .aload_n 0, 1, 0, 0, 0), (550, .iload_n 3, 1, 0, 0, 0), (551, .iconst 1, 1, 0, 0, 0), (552, .iadd, 1, 0, 0, 0), (553, .iaload, 1, 0, 0, 0), (554, .invokevirtual 80, 3, 119, 1, 25), (557, .if_icmp .eq 344, 3, 901, 0, 0), (560, .iconst 0, 1, 0, 0, 0), (561, .ireturn, 1, 0, 0, 0), (562, .aload_n 1, 1, 0, 0, 0), (563, .aload_n 0, 1, 0, 0, 0), (564, .iload_n 3, 1, 0, 0, 0), (565, .iconst 1, 1, 0, 0, 0)] : List nl_E) ++ (([(566, .iadd, 1, 0, 0, 0), (567, .iaload, 1, 0, 0, 0), (568, .invokevirtual 81, 3, 58, 1, 21), (571, .aload_n 2, 1, 0, 0, 0), (572, .aload_n 0, 1, 0, 0, 0), (573, .iload_n 3, 1, 0, 0, 0), (574, .iconst 1, 1, 0, 0, 0), (575, .iadd, 1, 0, 0, 0), (576, .iaload, 1, 0, 0, 0), (577, .invokevirtual 84, 3, 124, 1, 25), (580, .if_icmp .eq 321, 3, 901, 0, 0), (583, .iconst 0, 1, 0, 0, 0), (584, .ireturn, 1, 0, 0, 0), (585, .aload_n 1, 1, 0, 0, 0), (586, .invokevirtual 85, 3, 59, 0, 21), (589, .aload_n 2, 1, 0, 0, 0), (590, .invokevirtual 88, 3, 126, 0, 25), (593, .if_icmp .eq 308, 3, 901, 0, 0), (596, .iconst 0, 1, 0, 0, 0), (597, .ireturn, 1, 0, 0, 0), (598, .aload_n 1, 1, 0, 0, 0), (599, .aload_n 0, 1, 0, 0, 0), (600, .iload_n 3, 1, 0, 0, 0), (601, .iconst 1, 1, 0, 0, 0), (602, .iadd, 1, 0, 0, 0), (603, .iaload, 1, 0, 0, 0), (604, .invokevirtual 89, 3, 60, 1, 21), (607, .aload_n 2, 1, 0, 0, 0), (608, .aload_n 0, 1, 0, 0, 0), (609, .iload_n 3, 1, 0, 0, 0), (610, .iconst 1, 1, 0, 0, 0), (611, .iadd, 1, 0, 0, 0), (612, .iaload, 1, 0, 0, 0), (613, .invokevirtual 92, 3, 128, 1, 25), (616, .if_icmp .eq 285, 3, 901, 0, 0), (619, .iconst 0, 1, 0, 0, 0), (620, .ireturn, 1, 0, 0, 0), (621, .aload_n 1, 1, 0, 0, 0), (622, .aload_n 0, 1, 0, 0, 0), (623, .iload_n 3, 1, 0, 0, 0)] : List nl_E) ++ (([(624, .iconst 1, 1, 0, 0, 0), (625, .iadd, 1, 0, 0, 0), (626, .iaload, 1, 0, 0, 0), (627, .aload_n 0, 1, 0, 0, 0), (628, .iload_n 3, 1, 0, 0, 0), (629, .iconst 2, 1, 0, 0, 0), (630, .iadd, 1, 0, 0, 0), (631, .iaload, 1, 0, 0, 0), (632, .invokevirtual 93, 3, 61, 2, 21), (635, .aload_n 2, 1, 0, 0, 0), (636, .aload_n 0, 1, 0, 0, 0), (637, .iload_n 3, 1, 0, 0, 0), (638, .iconst 1, 1, 0, 0, 0), (639, .iadd, 1, 0, 0, 0), (640, .iaload, 1, 0, 0, 0), (641, .aload_n 0, 1, 0, 0, 0), (642, .iload_n 3, 1, 0, 0, 0), (643, .iconst 2, 1, 0, 0, 0), (644, .iadd, 1, 0, 0, 0), (645, .iaload, 1, 0, 0, 0), (646, .invokevirtual 96, 3, 129, 2, 25), (649, .if_icmp .eq 252, 3, 901, 0, 0), (652, .iconst 0, 1, 0, 0, 0), (653, .ireturn, 1, 0, 0, 0), (654, .aload_n 1, 1, 0, 0, 0), (655, .aload_n 0, 1, 0, 0, 0), (656, .iload_n 3, 1, 0, 0, 0), (657, .iconst 1, 1, 0, 0, 0), (658, .iadd, 1, 0, 0, 0), (659, .iaload, 1, 0, 0, 0), (660, .aload_n 0, 1, 0, 0, 0), (661, .iload_n 3, 1, 0, 0, 0), (662, .iconst 2, 1, 0, 0, 0), (663, .iadd, 1, 0, 0, 0), (664, .iaload, 1, 0, 0, 0), (665, .aload_n 0, 1, 0, 0, 0), (666, .iload_n 3, 1, 0, 0, 0), (667, .iconst 3, 1, 0, 0, 0), (668, .iadd, 1, 0, 0, 0), (669, .iaload, 1, 0, 0, 0)] : List nl_E) ++ (([(670, .invokevirtual 97, 3, 62, 3, 21), (673, .aload_n 2, 1, 0, 0, 0), (674, .aload_n 0, 1, 0, 0, 0), (675, .iload_n 3, 1, 0, 0, 0), (676, .iconst 1, 1, 0, 0, 0), (677, .iadd, 1, 0, 0, 0), (678, .iaload, 1, 0, 0, 0), (679, .aload_n 0, 1, 0, 0, 0), (680, .iload_n 3, 1, 0, 0, 0), (681, .iconst 2, 1, 0, 0, 0), (682, .iadd, 1, 0, 0, 0), (683, .iaload, 1, 0, 0, 0), (684, .aload_n 0, 1, 0, 0, 0), (685, .iload_n 3, 1, 0, 0, 0), (686, .iconst 3, 1, 0, 0, 0), (687, .iadd, 1, 0, 0, 0), (688, .iaload, 1, 0, 0, 0), (689, .invokevirtual 100, 3, 130, 3, 25), (692, .if_icmp .eq 209, 3, 901, 0, 0), (695, .iconst 0, 1, 0, 0, 0), (696, .ireturn, 1, 0, 0, 0), (697, .aload_n 1, 1, 0, 0, 0), (698, .invokevirtual 101, 3, 63, 0, 21), (701, .aload_n 2, 1, 0, 0, 0), (702, .invokevirtual 104, 3, 131, 0, 25), (705, .if_icmp .eq 196, 3, 901, 0, 0), (708, .iconst 0, 1, 0, 0, 0), (709, .ireturn, 1, 0, 0, 0), (710, .aload_n 1, 1, 0, 0, 0), (711, .aload_n 0, 1, 0, 0, 0), (712, .iload_n 3, 1, 0, 0, 0), (713, .iconst 1, 1, 0, 0, 0), (714, .iadd, 1, 0, 0, 0), (715, .iaload, 1, 0, 0, 0), (716, .invokevirtual 105, 3, 64, 1, 21), (719, .aload_n 2, 1, 0, 0, 0), (720, .aload_n 0, 1, 0, 0, 0), (721, .iload_n 3, 1, 0, 0, 0), (722, .iconst 1, 1, 0, 0, 0), (723, .iadd, 1, 0, 0, 0)] : List nl_E) ++ (([(724, .iaload, 1, 0, 0, 0), (725, .invokevirtual 108, 3, 133, 1, 25), (728, .if_icmp .eq 173, 3, 901, 0, 0), (731, .iconst 0, 1, 0, 0, 0), (732, .ireturn, 1, 0, 0, 0), (733, .aload_n 1, 1, 0, 0, 0), (734, .aload_n 0, 1, 0, 0, 0), (735, .iload_n 3, 1, 0, 0, 0), (736, .iconst 1, 1, 0, 0, 0), (737, .iadd, 1, 0, 0, 0), (738, .iaload, 1, 0, 0, 0), (739, .aload_n 0, 1, 0, 0, 0), (740, .iload_n 3, 1, 0, 0, 0), (741, .iconst 2, 1, 0, 0, 0), (742, .iadd, 1, 0, 0, 0), (743, .iaload, 1, 0, 0, 0), (744, .invokevirtual 109, 3, 65, 2, 21), (747, .aload_n 2, 1, 0, 0, 0), (748, .aload_n 0, 1, 0, 0, 0), (749, .iload_n 3, 1, 0, 0, 0), (750, .iconst 1, 1, 0, 0, 0), (751, .iadd, 1, 0, 0, 0), (752, .iaload, 1, 0, 0, 0), (753, .aload_n 0, 1, 0, 0, 0), (754, .iload_n 3, 1, 0, 0, 0), (755, .iconst 2, 1, 0, 0, 0), (756, .iadd, 1, 0, 0, 0), (757, .iaload, 1, 0, 0, 0), (758, .invokevirtual 112, 3, 134, 2, 25), (761, .if_icmp .eq 140, 3, 901, 0, 0), (764, .iconst 0, 1, 0, 0, 0), (765, .ireturn, 1, 0, 0, 0), (766, .aload_n 1, 1, 0, 0, 0), (767, .aload_n 0, 1, 0, 0, 0), (768, .iload_n 3, 1, 0, 0, 0), (769, .iconst 1, 1, 0, 0, 0), (770, .iadd, 1, 0, 0, 0), (771, .iaload, 1, 0, 0, 0), (772, .aload_n 0, 1, 0, 0, 0), (773, .iload_n 3, 1, 0, 0, 0)] : List nl_E) ++ (([(774, .iconst 2, 1, 0, 0, 0), (775, .iadd, 1, 0, 0, 0), (776, .iaload, 1, 0, 0, 0), (777, .aload_n 0, 1, 0, 0, 0), (778, .iload_n 3, 1, 0, 0, 0), (779, .iconst 3, 1, 0, 0, 0), (780, .iadd, 1, 0, 0, 0), (781, .iaload, 1, 0, 0, 0), (782, .invokevirtual 113, 3, 66, 3, 21), (785, .aload_n 2, 1, 0, 0, 0), (786, .aload_n 0, 1, 0, 0, 0), (787, .iload_n 3, 1, 0, 0, 0), (788, .iconst 1, 1, 0, 0, 0), (789, .iadd, 1, 0, 0, 0), (790, .iaload, 1, 0, 0, 0), (791, .aload_n 0, 1, 0, 0, 0), (792, .iload_n 3, 1, 0, 0, 0), (793, .iconst 2, 1, 0, 0, 0), (794, .iadd, 1, 0, 0, 0), (795, .iaload, 1, 0, 0, 0), (796, .aload_n 0, 1, 0, 0, 0), (797, .iload_n 3, 1, 0, 0, 0), (798, .iconst 3, 1, 0, 0, 0), (799, .iadd, 1, 0, 0, 0), (800, .iaload, 1, 0, 0, 0), (801, .invokevirtual 116, 3, 136, 3, 25), (804, .if_icmp .eq 97, 3, 901, 0, 0), (807, .iconst 0, 1, 0, 0, 0), (808, .ireturn, 1, 0, 0, 0), (809, .aload_n 1, 1, 0, 0, 0), (810, .aload_n 0, 1, 0, 0, 0), (811, .iload_n 3, 1, 0, 0, 0), (812, .iconst 1, 1, 0, 0, 0), (813, .iadd, 1, 0, 0, 0), (814, .iaload, 1, 0, 0, 0), (815, .aload_n 0, 1, 0, 0, 0), (816, .iload_n 3, 1, 0, 0, 0), (817, .iconst 2, 1, 0, 0, 0), (818, .iadd, 1, 0, 0, 0), (819, .iaload, 1, 0, 0, 0)] : List nl_E) ++ (([(820, .aload_n 0, 1, 0, 0, 0), (821, .iload_n 3, 1, 0, 0, 0), (822, .iconst 3, 1, 0, 0, 0), (823, .iadd, 1, 0, 0, 0), (824, .iaload, 1, 0, 0, 0), (825, .invokevirtual 117, 3, 67, 3, 21), (828, .aload_n 2, 1, 0, 0, 0), (829, .aload_n 0, 1, 0, 0, 0), (830, .iload_n 3, 1, 0, 0, 0), (831, .iconst 1, 1, 0, 0, 0), (832, .iadd, 1, 0, 0, 0), (833, .iaload, 1, 0, 0, 0), (834, .aload_n 0, 1, 0, 0, 0), (835, .iload_n 3, 1, 0, 0, 0), (836, .iconst 2, 1, 0, 0, 0), (837, .iadd, 1, 0, 0, 0), (838, .iaload, 1, 0, 0, 0), (839, .aload_n 0, 1, 0, 0, 0), (840, .iload_n 3, 1, 0, 0, 0), (841, .iconst 3, 1, 0, 0, 0), (842, .iadd, 1, 0, 0, 0), (843, .iaload, 1, 0, 0, 0), (844, .invokevirtual 120, 3, 138, 3, 25), (847, .if_icmp .eq 54, 3, 901, 0, 0), (850, .iconst 0, 1, 0, 0, 0), (851, .ireturn, 1, 0, 0, 0), (852, .aload_n 1, 1, 0, 0, 0), (853, .invokevirtual 121, 3, 68, 0, 21), (856, .aload_n 2, 1, 0, 0, 0), (857, .invokevirtual 124, 3, 139, 0, 25), (860, .if_icmp .eq 41, 3, 901, 0, 0), (863, .iconst 0, 1, 0, 0, 0), (864, .ireturn, 1, 0, 0, 0), (865, .aload_n 1, 1, 0, 0, 0), (866, .invokevirtual 125, 3, 69, 0, 21), (869, .aload_n 2, 1, 0, 0, 0), (870, .invokevirtual 128, 3, 140, 0, 25), (873, .if_icmp .eq 28, 3, 901, 0, 0), (876, .iconst 0, 1, 0, 0, 0), (877, .ireturn, 1, 0, 0, 0)] : List nl_E) ++ (([(878, .aload_n 1, 1, 0, 0, 0), (879, .aload_n 0, 1, 0, 0, 0), (880, .iload_n 3, 1, 0, 0, 0), (881, .iconst 1, 1, 0, 0, 0), (882, .iadd, 1, 0, 0, 0), (883, .iaload, 1, 0, 0, 0), (884, .invokevirtual 129, 3, 70, 1, 21), (887, .aload_n 2, 1, 0, 0, 0), (888, .aload_n 0, 1, 0, 0, 0), (889, .iload_n 3, 1, 0, 0, 0), (890, .iconst 1, 1, 0, 0, 0), (891, .iadd, 1, 0, 0, 0), (892, .iaload, 1, 0, 0, 0), (893, .invokevirtual 132, 3, 141, 1, 25), (896, .if_icmp .eq 5, 3, 901, 0, 0), (899, .iconst 0, 1, 0, 0, 0), (900, .ireturn, 1, 0, 0, 0), (901, .iinc 3 4, 3, 0, 0, 0), (904, .goto (-886), 3, 18, 0, 0), (907, .iconst 1, 1, 0, 0, 0), (908, .ireturn, 1, 0, 0, 0)] : List nl_E))))))))))))))) := rfl
theorem nl_dL : ∀ e ∈ cd_L_law, decode code e.1 = .ok (e.2.1, e.2.2.1) := by
  rw [nl_dl_eq]
  exact List.forall_mem_append.mpr ⟨nl_dl0, List.forall_mem_append.mpr ⟨nl_dl1, List.forall_mem_append.mpr ⟨nl_dl2, List.forall_mem_append.mpr ⟨nl_dl3, List.forall_mem_append.mpr ⟨nl_dl4, List.forall_mem_append.mpr ⟨nl_dl5, List.forall_mem_append.mpr ⟨nl_dl6, List.forall_mem_append.mpr ⟨nl_dl7, List.forall_mem_append.mpr ⟨nl_dl8, List.forall_mem_append.mpr ⟨nl_dl9, List.forall_mem_append.mpr ⟨nl_dl10, List.forall_mem_append.mpr ⟨nl_dl11, List.forall_mem_append.mpr ⟨nl_dl12, List.forall_mem_append.mpr ⟨nl_dl13, nl_dl14⟩⟩⟩⟩⟩⟩⟩⟩⟩⟩⟩⟩⟩⟩
theorem nl_pn0 : plainName (nl_R 0) = true ∧ nl_R 0 ≠ "java/lang/invoke/MethodHandle" ∧ nl_R 0 ≠ "java/lang/invoke/VarHandle" := by decide +kernel
theorem nl_pn1 : plainName (nl_R 1) = true ∧ nl_R 1 ≠ "java/lang/invoke/MethodHandle" ∧ nl_R 1 ≠ "java/lang/invoke/VarHandle" := by decide +kernel
theorem nl_pn2 : plainName (nl_R 2) = true ∧ nl_R 2 ≠ "java/lang/invoke/MethodHandle" ∧ nl_R 2 ≠ "java/lang/invoke/VarHandle" := by decide +kernel
theorem nl_pn3 : plainName (nl_R 3) = true ∧ nl_R 3 ≠ "java/lang/invoke/MethodHandle" ∧ nl_R 3 ≠ "java/lang/invoke/VarHandle" := by decide +kernel
theorem nl_pn4 : plainName (nl_R 4) = true ∧ nl_R 4 ≠ "java/lang/invoke/MethodHandle" ∧ nl_R 4 ≠ "java/lang/invoke/VarHandle" := by decide +kernel
theorem nl_pn5 : plainName (nl_R 5) = true ∧ nl_R 5 ≠ "java/lang/invoke/MethodHandle" ∧ nl_R 5 ≠ "java/lang/invoke/VarHandle" := by decide +kernel
theorem nl_pn6 : plainName (nl_R 6) = true ∧ nl_R 6 ≠ "java/lang/invoke/MethodHandle" ∧ nl_R 6 ≠ "java/lang/invoke/VarHandle" := by decide +kernel
theorem nl_pn8 : plainName (nl_R 8) = true ∧ nl_R 8 ≠ "java/lang/invoke/MethodHandle" ∧ nl_R 8 ≠ "java/lang/invoke/VarHandle" := by decide +kernel
