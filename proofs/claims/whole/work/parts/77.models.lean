/-! The model reads a text: hours, houses, items, the whole. -/
/-- all but what reading changes -/
def sr (W V : nl_O) : Prop := ∀ k i : Nat, (k < 17 ∨ 22 < k) → W k i = V k i
theorem sq_readsHour {LS : Int} {n : Nat} (hn : 4 ≤ n) {h : nl_H} {V : nl_O} {L p hr : Nat} (h16 : V 16 0 = (L : Int)) (h17 : V 17 0 = (p : Int)) (h18 : V 18 0 = (hr : Int)) (hT : tok (V 15) L) (hp : p ≤ 250) (h7 : hr ≤ 7) : ∃ W a, nl_c LS n m_X6_readsHour [vO 6 0] (sm h V) = some (a, sm h W) ∧ sr W V ∧ (((hr < 7 ∧ nOk (V 15) L p 20 59) ∧ a = 1 ∧ W 17 0 = (((rn (V 15) L p).2 + 1 : Nat) : Int) ∧ W 18 0 = (hr : Int) + 1 ∧ W 19 0 = V 19 0 ∧ (∀ i, W 20 i = if i = hr then (rn (V 15) L p).1 else V 20 i) ∧ ∀ i, W 21 i = V 21 i) ∨ (¬ (hr < 7 ∧ nOk (V 15) L p 20 59) ∧ a = 0)) := by
  obtain ⟨n, rfl, hn1⟩ := nl_suc hn
  by_cases q : hr = 7
  · refine ⟨V, 0, cl_X6_readsHour (.ret ?_), fun _ _ _ => rfl, .inr ⟨fun z => by omega, rfl⟩⟩
    rw [sg_X6_readsHour_0]
    simp (disch := omega) only [↓reduceIte, i_le, i_nle, i_lt, i_nlt, i_eq, i_ne, and_self, and_true, true_and, and_false, false_and, or_true, true_or, or_false, false_or, nx_of, Int.toNat_natCast, Option.bind_some, rm_0, rm_1, rm_2, rm_3, rm_4, rm_5, rm_6, rm_7, rm_8, rm_9, rm_10, rm_11, rm_12, rm_13, rm_14, rm_15, rm_16, rm_17, rm_18, rm_19, rm_20, rm_21, rm_22, rm_23, rm_24, rm_25, rm_26, rm_27, rm_28, rm_29, um_0, um_1, um_2, um_3, um_4, um_5, um_6, um_7, um_8, um_9, um_10, um_11, um_12, um_13, um_14, um_15, um_16, um_17, um_18, um_19, um_20, um_21, um_22, um_23, um_24, um_25, um_26, um_27, um_28, um_29, rm_k, um_k, vu_at, vu_ne, h18]
  · obtain ⟨W, a, c1, s, r⟩ := sq_number (LS := LS) hn1 (h := h) (hi := 20) (en := 59) h16 h17 hT hp (by omega) (by omega)
    have e18 : W 18 0 = (hr : Int) := by rw [s 18 0 (by omega) (by omega)]; exact h18
    rcases r with ⟨r1, rfl, r3, r4⟩ | ⟨r1, rfl⟩
    · refine ⟨vu (vu W 20 hr (W 22 0)) 18 0 ((hr : Int) + 1), 1, cl_X6_readsHour (.ret ?_), fun k i hk => by rw [vu_k (by omega), vu_k (by omega)]; exact s k i (by omega) (by omega), .inl ⟨⟨by omega, r1⟩, rfl, ?_, vu_at, ?_, fun i => ?_, fun i => ?_⟩⟩
      · rw [sg_X6_readsHour_0]
        simp (disch := omega) only [↓reduceIte, i_le, i_nle, i_lt, i_nlt, i_eq, i_ne, and_self, and_true, true_and, and_false, false_and, or_true, true_or, or_false, false_or, nx_of, Int.toNat_natCast, Option.bind_some, rm_0, rm_1, rm_2, rm_3, rm_4, rm_5, rm_6, rm_7, rm_8, rm_9, rm_10, rm_11, rm_12, rm_13, rm_14, rm_15, rm_16, rm_17, rm_18, rm_19, rm_20, rm_21, rm_22, rm_23, rm_24, rm_25, rm_26, rm_27, rm_28, rm_29, um_0, um_1, um_2, um_3, um_4, um_5, um_6, um_7, um_8, um_9, um_10, um_11, um_12, um_13, um_14, um_15, um_16, um_17, um_18, um_19, um_20, um_21, um_22, um_23, um_24, um_25, um_26, um_27, um_28, um_29, rm_k, um_k, vu_at, vu_ne, ↓bd c1, c1, h18, e18]
      · rw [vu_k (by omega), vu_k (by omega)]; exact r3
      · rw [vu_k (by omega), vu_k (by omega)]; exact s 19 0 (by omega) (by omega)
      · rw [vu_k (by omega)]
        by_cases z : i = hr
        · subst z; rw [vu_at, if_pos rfl]; exact r4
        · rw [vu_ne (by omega), if_neg z]; exact s 20 i (by omega) (by omega)
      · rw [vu_k (by omega), vu_k (by omega)]; exact s 21 i (by omega) (by omega)
    · refine ⟨W, 0, cl_X6_readsHour (.ret ?_), fun k i hk => s k i (by omega) (by omega), .inr ⟨fun z => r1 z.2, rfl⟩⟩
      rw [sg_X6_readsHour_0]
      simp (disch := omega) only [↓reduceIte, i_le, i_nle, i_lt, i_nlt, i_eq, i_ne, and_self, and_true, true_and, and_false, false_and, or_true, true_or, or_false, false_or, nx_of, Int.toNat_natCast, Option.bind_some, rm_0, rm_1, rm_2, rm_3, rm_4, rm_5, rm_6, rm_7, rm_8, rm_9, rm_10, rm_11, rm_12, rm_13, rm_14, rm_15, rm_16, rm_17, rm_18, rm_19, rm_20, rm_21, rm_22, rm_23, rm_24, rm_25, rm_26, rm_27, rm_28, rm_29, um_0, um_1, um_2, um_3, um_4, um_5, um_6, um_7, um_8, um_9, um_10, um_11, um_12, um_13, um_14, um_15, um_16, um_17, um_18, um_19, um_20, um_21, um_22, um_23, um_24, um_25, um_26, um_27, um_28, um_29, rm_k, um_k, vu_at, vu_ne, ↓bd c1, c1, h18]
def hOk (T : Nat → Int) (L p : Nat) : Prop := nOk T L p 3 44 ∧ nOk T L ((rn T L p).2 + 1) 40 44 ∧ nOk T L ((rn T L ((rn T L p).2 + 1)).2 + 1) 99 59
theorem sq_readsHouse {LS : Int} {n : Nat} (hn : 4 ≤ n) {h : nl_H} {V : nl_O} {L p hr ho : Nat} (h16 : V 16 0 = (L : Int)) (h17 : V 17 0 = (p : Int)) (h18 : V 18 0 = (hr : Int)) (h19 : V 19 0 = (ho : Int)) (hT : tok (V 15) L) (hp : p ≤ 201) (h7 : ho ≤ hr ∧ hr ≤ 7) : ∃ W a, nl_c LS n m_X6_readsHouse [vO 6 0] (sm h V) = some (a, sm h W) ∧ sr W V ∧ (((ho < hr ∧ hOk (V 15) L p) ∧ a = 1 ∧ W 17 0 = (((rn (V 15) L ((rn (V 15) L ((rn (V 15) L p).2 + 1)).2 + 1)).2 + 1 : Nat) : Int) ∧ W 18 0 = (hr : Int) ∧ W 19 0 = (ho : Int) + 1 ∧ (∀ i, W 20 i = V 20 i) ∧ ∀ i, W 21 i = if i = 3 * ho + 2 then (rn (V 15) L ((rn (V 15) L ((rn (V 15) L p).2 + 1)).2 + 1)).1 else if i = 3 * ho + 1 then (rn (V 15) L ((rn (V 15) L p).2 + 1)).1 else if i = 3 * ho then (rn (V 15) L p).1 else V 21 i) ∨ (¬ (ho < hr ∧ hOk (V 15) L p) ∧ a = 0)) := by
  obtain ⟨n, rfl, hn1⟩ := nl_suc hn
  by_cases q : ho = hr
  · refine ⟨V, 0, cl_X6_readsHouse (.ret ?_), fun _ _ _ => rfl, .inr ⟨fun z => by omega, rfl⟩⟩
    rw [sg_X6_readsHouse_0]
    simp (disch := omega) only [↓reduceIte, i_le, i_nle, i_lt, i_nlt, i_eq, i_ne, and_self, and_true, true_and, and_false, false_and, or_true, true_or, or_false, false_or, nx_of, Int.toNat_natCast, Option.bind_some, rm_0, rm_1, rm_2, rm_3, rm_4, rm_5, rm_6, rm_7, rm_8, rm_9, rm_10, rm_11, rm_12, rm_13, rm_14, rm_15, rm_16, rm_17, rm_18, rm_19, rm_20, rm_21, rm_22, rm_23, rm_24, rm_25, rm_26, rm_27, rm_28, rm_29, um_0, um_1, um_2, um_3, um_4, um_5, um_6, um_7, um_8, um_9, um_10, um_11, um_12, um_13, um_14, um_15, um_16, um_17, um_18, um_19, um_20, um_21, um_22, um_23, um_24, um_25, um_26, um_27, um_28, um_29, rm_k, um_k, vu_at, vu_ne, h18, h19]
  · obtain ⟨W, a, c1, s, r⟩ := sq_number (LS := LS) hn1 (h := h) (hi := 3) (en := 44) h16 h17 hT (by omega) (by omega) (by omega)
    have i3 := rn_in (V 15) L p
    have e19 : W 19 0 = (ho : Int) := by rw [s 19 0 (by omega) (by omega)]; exact h19
    have e3 : 3 * (ho : Int) = ((3 * ho : Nat) : Int) := by omega
    have e4 : ((3 * ho : Nat) : Int) + 1 = ((3 * ho + 1 : Nat) : Int) := by omega
    have e5 : ((3 * ho : Nat) : Int) + 2 = ((3 * ho + 2 : Nat) : Int) := by omega
    rcases r with ⟨r1, rfl, r3, r4⟩ | ⟨r1, rfl⟩
    · generalize hU : vu W 21 (3 * ho) (W 22 0) = U
      have uo : ∀ k i : Nat, k ≠ 21 → U k i = W k i := fun k i hk => by rw [← hU]; exact vu_k hk
      have so1 : ∀ k i : Nat, k ≠ 17 → k ≠ 21 → k ≠ 22 → U k i = V k i := fun k i h1 h2 h3 => (uo k i h2).trans (s k i h1 h3)
      have e15 : U 15 = V 15 := funext fun i => so1 15 i (by omega) (by omega) (by omega)
      have l1 : (rn (V 15) L p).2 < L := r1.1.2.1
      have hL := hT.1
      obtain ⟨W2, a2, c2, s2', rr⟩ := sq_number (LS := LS) hn1 (h := h) (V := U) (L := L) (p := (rn (V 15) L p).2 + 1) (hi := 40) (en := 44) (by rw [so1 16 0 (by omega) (by omega) (by omega)]; exact h16) (by rw [uo 17 0 (by omega)]; exact r3) (by rw [e15]; exact hT) (by omega) (by omega) (by omega)
      rw [e15] at rr
      rcases rr with ⟨q1, rfl, q3, q4⟩ | ⟨q1, rfl⟩
      · generalize hY : vu W2 21 (3 * ho + 1) (W2 22 0) = Y
        have yo : ∀ k i : Nat, k ≠ 21 → Y k i = W2 k i := fun k i hk => by rw [← hY]; exact vu_k hk
        have so2 : ∀ k i : Nat, k ≠ 17 → k ≠ 21 → k ≠ 22 → Y k i = V k i := fun k i h1 h2 h3 => (yo k i h2).trans ((s2' k i h1 h3).trans (so1 k i h1 h2 h3))
        have f15 : Y 15 = V 15 := funext fun i => so2 15 i (by omega) (by omega) (by omega)
        have l2 : (rn (V 15) L ((rn (V 15) L p).2 + 1)).2 < L := q1.1.2.1
        obtain ⟨W3, a3, c3, s3', rrr⟩ := sq_number (LS := LS) hn1 (h := h) (V := Y) (L := L) (p := (rn (V 15) L ((rn (V 15) L p).2 + 1)).2 + 1) (hi := 99) (en := 59) (by rw [so2 16 0 (by omega) (by omega) (by omega)]; exact h16) (by rw [yo 17 0 (by omega)]; exact q3) (by rw [f15]; exact hT) (by omega) (by omega) (by omega)
        rw [f15] at rrr
        have e193 : W3 19 0 = (ho : Int) := by rw [s3' 19 0 (by omega) (by omega), so2 19 0 (by omega) (by omega) (by omega)]; exact h19
        rcases rrr with ⟨p1, rfl, p3, p4⟩ | ⟨p1, rfl⟩
        · refine ⟨vu (vu W3 21 (3 * ho + 2) (W3 22 0)) 19 0 ((ho : Int) + 1), 1, cl_X6_readsHouse (.ret ?_), fun k i hk => by rw [vu_k (by omega), vu_k (by omega), s3' k i (by omega) (by omega)]; exact so2 k i (by omega) (by omega) (by omega), .inl ⟨⟨by omega, r1, q1, p1⟩, rfl, ?_, ?_, vu_at, fun i => ?_, fun i => ?_⟩⟩
          · rw [sg_X6_readsHouse_0]
            simp (disch := omega) only [↓reduceIte, i_le, i_nle, i_lt, i_nlt, i_eq, i_ne, and_self, and_true, true_and, and_false, false_and, or_true, true_or, or_false, false_or, nx_of, Int.toNat_natCast, Option.bind_some, rm_0, rm_1, rm_2, rm_3, rm_4, rm_5, rm_6, rm_7, rm_8, rm_9, rm_10, rm_11, rm_12, rm_13, rm_14, rm_15, rm_16, rm_17, rm_18, rm_19, rm_20, rm_21, rm_22, rm_23, rm_24, rm_25, rm_26, rm_27, rm_28, rm_29, um_0, um_1, um_2, um_3, um_4, um_5, um_6, um_7, um_8, um_9, um_10, um_11, um_12, um_13, um_14, um_15, um_16, um_17, um_18, um_19, um_20, um_21, um_22, um_23, um_24, um_25, um_26, um_27, um_28, um_29, rm_k, um_k, vu_at, vu_ne, ↓bd c1, ↓bd c2, ↓bd c3, c1, c2, c3, h18, h19, e19, e193, e3, e4, e5, hU, hY]
          · rw [vu_k (by omega), vu_k (by omega)]; exact p3
          · rw [vu_k (by omega), vu_k (by omega), s3' 18 0 (by omega) (by omega), so2 18 0 (by omega) (by omega) (by omega)]; exact h18
          · rw [vu_k (by omega), vu_k (by omega), s3' 20 i (by omega) (by omega)]; exact so2 20 i (by omega) (by omega) (by omega)
          · rw [vu_k (by omega)]
            by_cases z2 : i = 3 * ho + 2
            · subst z2; rw [vu_at, if_pos rfl]; exact p4
            · rw [vu_ne (by omega), if_neg z2, s3' 21 i (by omega) (by omega), ← hY]
              by_cases z1 : i = 3 * ho + 1
              · subst z1; rw [vu_at, if_pos rfl]; exact q4
              · rw [vu_ne (by omega), if_neg z1, s2' 21 i (by omega) (by omega), ← hU]
                by_cases z0 : i = 3 * ho
                · subst z0; rw [vu_at, if_pos rfl]; exact r4
                · rw [vu_ne (by omega), if_neg z0]; exact s 21 i (by omega) (by omega)
        · refine ⟨W3, 0, cl_X6_readsHouse (.ret ?_), fun k i hk => by rw [s3' k i (by omega) (by omega)]; exact so2 k i (by omega) (by omega) (by omega), .inr ⟨fun z => p1 z.2.2.2, rfl⟩⟩
          rw [sg_X6_readsHouse_0]
          simp (disch := omega) only [↓reduceIte, i_le, i_nle, i_lt, i_nlt, i_eq, i_ne, and_self, and_true, true_and, and_false, false_and, or_true, true_or, or_false, false_or, nx_of, Int.toNat_natCast, Option.bind_some, rm_0, rm_1, rm_2, rm_3, rm_4, rm_5, rm_6, rm_7, rm_8, rm_9, rm_10, rm_11, rm_12, rm_13, rm_14, rm_15, rm_16, rm_17, rm_18, rm_19, rm_20, rm_21, rm_22, rm_23, rm_24, rm_25, rm_26, rm_27, rm_28, rm_29, um_0, um_1, um_2, um_3, um_4, um_5, um_6, um_7, um_8, um_9, um_10, um_11, um_12, um_13, um_14, um_15, um_16, um_17, um_18, um_19, um_20, um_21, um_22, um_23, um_24, um_25, um_26, um_27, um_28, um_29, rm_k, um_k, vu_at, vu_ne, ↓bd c1, ↓bd c2, ↓bd c3, c1, c2, c3, h18, h19, e19, e3, e4, e5, hU, hY]
      · refine ⟨W2, 0, cl_X6_readsHouse (.ret ?_), fun k i hk => by rw [s2' k i (by omega) (by omega)]; exact so1 k i (by omega) (by omega) (by omega), .inr ⟨fun z => q1 z.2.2.1, rfl⟩⟩
        rw [sg_X6_readsHouse_0]
        simp (disch := omega) only [↓reduceIte, i_le, i_nle, i_lt, i_nlt, i_eq, i_ne, and_self, and_true, true_and, and_false, false_and, or_true, true_or, or_false, false_or, nx_of, Int.toNat_natCast, Option.bind_some, rm_0, rm_1, rm_2, rm_3, rm_4, rm_5, rm_6, rm_7, rm_8, rm_9, rm_10, rm_11, rm_12, rm_13, rm_14, rm_15, rm_16, rm_17, rm_18, rm_19, rm_20, rm_21, rm_22, rm_23, rm_24, rm_25, rm_26, rm_27, rm_28, rm_29, um_0, um_1, um_2, um_3, um_4, um_5, um_6, um_7, um_8, um_9, um_10, um_11, um_12, um_13, um_14, um_15, um_16, um_17, um_18, um_19, um_20, um_21, um_22, um_23, um_24, um_25, um_26, um_27, um_28, um_29, rm_k, um_k, vu_at, vu_ne, ↓bd c1, ↓bd c2, c1, c2, h18, h19, e19, e3, e4, e5, hU]
    · refine ⟨W, 0, cl_X6_readsHouse (.ret ?_), fun k i hk => s k i (by omega) (by omega), .inr ⟨fun z => r1 z.2.1, rfl⟩⟩
      rw [sg_X6_readsHouse_0]
      simp (disch := omega) only [↓reduceIte, i_le, i_nle, i_lt, i_nlt, i_eq, i_ne, and_self, and_true, true_and, and_false, false_and, or_true, true_or, or_false, false_or, nx_of, Int.toNat_natCast, Option.bind_some, rm_0, rm_1, rm_2, rm_3, rm_4, rm_5, rm_6, rm_7, rm_8, rm_9, rm_10, rm_11, rm_12, rm_13, rm_14, rm_15, rm_16, rm_17, rm_18, rm_19, rm_20, rm_21, rm_22, rm_23, rm_24, rm_25, rm_26, rm_27, rm_28, rm_29, um_0, um_1, um_2, um_3, um_4, um_5, um_6, um_7, um_8, um_9, um_10, um_11, um_12, um_13, um_14, um_15, um_16, um_17, um_18, um_19, um_20, um_21, um_22, um_23, um_24, um_25, um_26, um_27, um_28, um_29, rm_k, um_k, vu_at, vu_ne, ↓bd c1, c1, h18, h19]
/-- what the model has read is the plan Q -/
def rp (W Q : nl_O) : Prop := W 18 0 = Q 5 0 ∧ W 19 0 = Q 6 0 ∧ (∀ i : Nat, (i : Int) < Q 5 0 → W 20 i = Q 0 i) ∧ ∀ i : Nat, (i : Int) < Q 6 0 → W 21 (3 * i) = Q 1 i ∧ W 21 (3 * i + 1) = Q 2 i ∧ W 21 (3 * i + 2) = Q 3 i
/-- what an item's reading comes to -/
def rI (T : Nat → Int) (L : Nat) (Q : nl_O) (p : Nat) (a : Int) (W : nl_O) : Prop := match pItem T L (Q 5 0) (Q 6 0) p with
  | none => a = 0
  | some (e, b, x, y, z) => a = 1 ∧ W 17 0 = (e : Int) ∧ rp W (pStep Q b x y z)
theorem sq_readsItem {LS : Int} {n : Nat} (hn : 5 ≤ n) {h : nl_H} {V Q : nl_O} {L p : Nat} (h16 : V 16 0 = (L : Int)) (h17 : V 17 0 = (p : Int)) (hp : p < L) (hT : tok (V 15) L) (hQ : pok Q) (hR : rp V Q) : ∃ W a, nl_c LS n m_X6_readsItem [vO 6 0] (sm h V) = some (a, sm h W) ∧ sr W V ∧ (a = 0 ∨ a = 1) ∧ rI (V 15) L Q p a W := by
  obtain ⟨n, rfl, hn1⟩ := nl_suc hn
  have hL := hT.1
  have t := hT.2 p hp
  obtain ⟨x1, x2, x3, x4⟩ := hR
  have y1 := hQ.1
  have y2 := hQ.2.1
  obtain ⟨hr, e5⟩ : ∃ hr : Nat, Q 5 0 = hr := ⟨(Q 5 0).toNat, by omega⟩
  obtain ⟨ho, e6⟩ : ∃ ho : Nat, Q 6 0 = ho := ⟨(Q 6 0).toNat, by omega⟩
  have c1 := sq_here (LS := LS) (n := n) (by omega) (h := h) h16 h17 hL (by omega)
  rw [if_pos hp] at c1
  have g : ∀ k i : Nat, k ≠ 17 → vu V 17 0 ((p : Int) + 1) k i = V k i := fun k i hk => vu_k hk
  have g17 : vu V 17 0 ((p : Int) + 1) 17 0 = ((p + 1 : Nat) : Int) := by rw [vu_at]; rfl
  have e15 : vu V 17 0 ((p : Int) + 1) 15 = V 15 := funext fun i => g 15 i (by omega)
  unfold rI
  by_cases q : V 15 p = 110
  · obtain ⟨W, a, c2, s, r⟩ := sq_readsHour (LS := LS) hn1 (h := h) (V := vu V 17 0 ((p : Int) + 1)) (L := L) (p := p + 1) (hr := hr) (by rw [g 16 0 (by omega)]; exact h16) g17 (by rw [g 18 0 (by omega), x1, e5]) (by rw [e15]; exact hT) (by omega) (by omega)
    rw [e15] at r
    have sV : sr W V := fun k i hk => (s k i hk).trans (g k i (by omega))
    rcases r with ⟨r1, rfl, r3, r4, r5, r6, r7⟩ | ⟨r1, rfl⟩
    · refine ⟨W, 1, cl_X6_readsItem (.ret ?_), sV, .inr rfl, ?_⟩
      · rw [sg_X6_readsItem_0]
        simp (disch := omega) only [↓reduceIte, i_le, i_nle, i_lt, i_nlt, i_eq, i_ne, and_self, and_true, true_and, and_false, false_and, or_true, true_or, or_false, false_or, nx_of, Int.toNat_natCast, Option.bind_some, rm_0, rm_1, rm_2, rm_3, rm_4, rm_5, rm_6, rm_7, rm_8, rm_9, rm_10, rm_11, rm_12, rm_13, rm_14, rm_15, rm_16, rm_17, rm_18, rm_19, rm_20, rm_21, rm_22, rm_23, rm_24, rm_25, rm_26, rm_27, rm_28, rm_29, um_0, um_1, um_2, um_3, um_4, um_5, um_6, um_7, um_8, um_9, um_10, um_11, um_12, um_13, um_14, um_15, um_16, um_17, um_18, um_19, um_20, um_21, um_22, um_23, um_24, um_25, um_26, um_27, um_28, um_29, rm_k, um_k, vu_at, vu_ne, ↓bd c1, ↓bd c2, c1, c2, h17]
      · have eI : pItem (V 15) L (Q 5 0) (Q 6 0) p = some ((rn (V 15) L (p + 1)).2 + 1, true, (rn (V 15) L (p + 1)).1, 0, 0) := by
          unfold pItem
          rw [if_pos q, if_pos ⟨r1.2.1, by omega, r1.2.2⟩]
        rw [eI]
        dsimp only
        refine ⟨rfl, r3, ?_⟩
        unfold pStep rp
        simp only [if_true]
        rw [e5, Int.toNat_natCast, vu_at, vu_k (show 6 ≠ 5 by omega), vu_k (show 6 ≠ 0 by omega)]
        refine ⟨r4, by rw [r5, g 19 0 (by omega)]; exact x2, fun i hi => ?_, fun i hi => ?_⟩
        · rw [r6, g 20 i (by omega), vu_k (show 0 ≠ 5 by omega)]
          by_cases z : i = hr
          · subst z; rw [if_pos rfl, vu_at]
          · rw [if_neg z, vu_ne (by omega)]; exact x3 i (by omega)
        · rw [r7, r7, r7, g _ _ (by omega), g _ _ (by omega), g _ _ (by omega), vu_k (show 1 ≠ 5 by omega), vu_k (show 1 ≠ 0 by omega), vu_k (show 2 ≠ 5 by omega), vu_k (show 2 ≠ 0 by omega), vu_k (show 3 ≠ 5 by omega), vu_k (show 3 ≠ 0 by omega)]
          exact x4 i hi
    · refine ⟨W, 0, cl_X6_readsItem (.ret ?_), sV, .inl rfl, ?_⟩
      · rw [sg_X6_readsItem_0]
        simp (disch := omega) only [↓reduceIte, i_le, i_nle, i_lt, i_nlt, i_eq, i_ne, and_self, and_true, true_and, and_false, false_and, or_true, true_or, or_false, false_or, nx_of, Int.toNat_natCast, Option.bind_some, rm_0, rm_1, rm_2, rm_3, rm_4, rm_5, rm_6, rm_7, rm_8, rm_9, rm_10, rm_11, rm_12, rm_13, rm_14, rm_15, rm_16, rm_17, rm_18, rm_19, rm_20, rm_21, rm_22, rm_23, rm_24, rm_25, rm_26, rm_27, rm_28, rm_29, um_0, um_1, um_2, um_3, um_4, um_5, um_6, um_7, um_8, um_9, um_10, um_11, um_12, um_13, um_14, um_15, um_16, um_17, um_18, um_19, um_20, um_21, um_22, um_23, um_24, um_25, um_26, um_27, um_28, um_29, rm_k, um_k, vu_at, vu_ne, ↓bd c1, ↓bd c2, c1, c2, h17]
      · have eI : pItem (V 15) L (Q 5 0) (Q 6 0) p = none := by
          unfold pItem
          rw [if_pos q, if_neg (fun z => r1 ⟨by omega, z.1, z.2.2⟩)]
        rw [eI]
  · by_cases q2 : V 15 p = 104
    · obtain ⟨W, a, c2, s, r⟩ := sq_readsHouse (LS := LS) hn1 (h := h) (V := vu V 17 0 ((p : Int) + 1)) (L := L) (p := p + 1) (hr := hr) (ho := ho) (by rw [g 16 0 (by omega)]; exact h16) g17 (by rw [g 18 0 (by omega), x1, e5]) (by rw [g 19 0 (by omega), x2, e6]) (by rw [e15]; exact hT) (by omega) (by omega)
      rw [e15] at r
      have sV : sr W V := fun k i hk => (s k i hk).trans (g k i (by omega))
      rcases r with ⟨r1, rfl, r3, r4, r5, r6, r7⟩ | ⟨r1, rfl⟩
      · refine ⟨W, 1, cl_X6_readsItem (.ret ?_), sV, .inr rfl, ?_⟩
        · rw [sg_X6_readsItem_0]
          simp (disch := omega) only [↓reduceIte, i_le, i_nle, i_lt, i_nlt, i_eq, i_ne, and_self, and_true, true_and, and_false, false_and, or_true, true_or, or_false, false_or, nx_of, Int.toNat_natCast, Option.bind_some, rm_0, rm_1, rm_2, rm_3, rm_4, rm_5, rm_6, rm_7, rm_8, rm_9, rm_10, rm_11, rm_12, rm_13, rm_14, rm_15, rm_16, rm_17, rm_18, rm_19, rm_20, rm_21, rm_22, rm_23, rm_24, rm_25, rm_26, rm_27, rm_28, rm_29, um_0, um_1, um_2, um_3, um_4, um_5, um_6, um_7, um_8, um_9, um_10, um_11, um_12, um_13, um_14, um_15, um_16, um_17, um_18, um_19, um_20, um_21, um_22, um_23, um_24, um_25, um_26, um_27, um_28, um_29, rm_k, um_k, vu_at, vu_ne, ↓bd c1, ↓bd c2, c1, c2, h17]
        · have eI : pItem (V 15) L (Q 5 0) (Q 6 0) p = some ((rn (V 15) L ((rn (V 15) L ((rn (V 15) L (p + 1)).2 + 1)).2 + 1)).2 + 1, false, (rn (V 15) L (p + 1)).1, (rn (V 15) L ((rn (V 15) L (p + 1)).2 + 1)).1, (rn (V 15) L ((rn (V 15) L ((rn (V 15) L (p + 1)).2 + 1)).2 + 1)).1) := by
            unfold pItem
            rw [if_neg q, if_pos q2, if_pos ⟨r1.2.1.1, r1.2.2.1.1, r1.2.2.2.1, by omega, r1.2.1.2, r1.2.2.1.2, r1.2.2.2.2⟩]
          rw [eI]
          dsimp only
          refine ⟨rfl, r3, ?_⟩
          unfold pStep rp
          simp only [Bool.false_eq_true, if_false]
          rw [e6, Int.toNat_natCast, vu_at, vu_k (show 5 ≠ 6 by omega), vu_k (show 5 ≠ 3 by omega), vu_k (show 5 ≠ 2 by omega), vu_k (show 5 ≠ 1 by omega)]
          refine ⟨by rw [r4]; exact e5.symm, r5, fun i hi => ?_, fun i hi => ?_⟩
          · rw [r6, g _ _ (by omega), vu_k (by omega), vu_k (by omega), vu_k (by omega), vu_k (by omega)]
            exact x3 i hi
          · rw [r7, r7, r7]
            by_cases z : i = ho
            · subst z
              rw [if_neg (by omega), if_neg (by omega), if_pos rfl, if_neg (by omega), if_pos rfl, if_pos rfl]
              rw [vu_k (show 1 ≠ 6 by omega), vu_k (show 1 ≠ 3 by omega), vu_k (show 1 ≠ 2 by omega), vu_at, vu_k (show 2 ≠ 6 by omega), vu_k (show 2 ≠ 3 by omega), vu_at, vu_k (show 3 ≠ 6 by omega), vu_at]
              exact ⟨rfl, rfl, rfl⟩
            · rw [if_neg (by omega), if_neg (by omega), if_neg (by omega), if_neg (by omega), if_neg (by omega), if_neg (by omega), if_neg (by omega), if_neg (by omega), if_neg (by omega)]
              rw [g _ _ (by omega), g _ _ (by omega), g _ _ (by omega), vu_k (show 1 ≠ 6 by omega), vu_k (show 1 ≠ 3 by omega), vu_k (show 1 ≠ 2 by omega), vu_ne (by omega), vu_k (show 2 ≠ 6 by omega), vu_k (show 2 ≠ 3 by omega), vu_ne (by omega), vu_k (show 2 ≠ 1 by omega), vu_k (show 3 ≠ 6 by omega), vu_ne (by omega), vu_k (show 3 ≠ 2 by omega), vu_k (show 3 ≠ 1 by omega)]
              exact x4 i (by omega)
      · refine ⟨W, 0, cl_X6_readsItem (.ret ?_), sV, .inl rfl, ?_⟩
        · rw [sg_X6_readsItem_0]
          simp (disch := omega) only [↓reduceIte, i_le, i_nle, i_lt, i_nlt, i_eq, i_ne, and_self, and_true, true_and, and_false, false_and, or_true, true_or, or_false, false_or, nx_of, Int.toNat_natCast, Option.bind_some, rm_0, rm_1, rm_2, rm_3, rm_4, rm_5, rm_6, rm_7, rm_8, rm_9, rm_10, rm_11, rm_12, rm_13, rm_14, rm_15, rm_16, rm_17, rm_18, rm_19, rm_20, rm_21, rm_22, rm_23, rm_24, rm_25, rm_26, rm_27, rm_28, rm_29, um_0, um_1, um_2, um_3, um_4, um_5, um_6, um_7, um_8, um_9, um_10, um_11, um_12, um_13, um_14, um_15, um_16, um_17, um_18, um_19, um_20, um_21, um_22, um_23, um_24, um_25, um_26, um_27, um_28, um_29, rm_k, um_k, vu_at, vu_ne, ↓bd c1, ↓bd c2, c1, c2, h17]
        · have eI : pItem (V 15) L (Q 5 0) (Q 6 0) p = none := by
            unfold pItem
            rw [if_neg q, if_pos q2, if_neg (fun z => r1 ⟨by omega, ⟨z.1, z.2.2.2.2.1⟩, ⟨z.2.1, z.2.2.2.2.2.1⟩, ⟨z.2.2.1, z.2.2.2.2.2.2⟩⟩)]
          rw [eI]
    · refine ⟨vu V 17 0 ((p : Int) + 1), 0, cl_X6_readsItem (.ret ?_), fun k i hk => g k i (by omega), .inl rfl, ?_⟩
      · rw [sg_X6_readsItem_0]
        simp (disch := omega) only [↓reduceIte, i_le, i_nle, i_lt, i_nlt, i_eq, i_ne, and_self, and_true, true_and, and_false, false_and, or_true, true_or, or_false, false_or, nx_of, Int.toNat_natCast, Option.bind_some, rm_0, rm_1, rm_2, rm_3, rm_4, rm_5, rm_6, rm_7, rm_8, rm_9, rm_10, rm_11, rm_12, rm_13, rm_14, rm_15, rm_16, rm_17, rm_18, rm_19, rm_20, rm_21, rm_22, rm_23, rm_24, rm_25, rm_26, rm_27, rm_28, rm_29, um_0, um_1, um_2, um_3, um_4, um_5, um_6, um_7, um_8, um_9, um_10, um_11, um_12, um_13, um_14, um_15, um_16, um_17, um_18, um_19, um_20, um_21, um_22, um_23, um_24, um_25, um_26, um_27, um_28, um_29, rm_k, um_k, vu_at, vu_ne, ↓bd c1, c1, h17]
      · have eI : pItem (V 15) L (Q 5 0) (Q 6 0) p = none := by
          unfold pItem
          rw [if_neg q, if_neg q2]
        rw [eI]
