/-! The model's notes, what is put by, start and putBack. -/
def mSh (V : nl_O) (j : Nat) : nl_O := fun k i => if k = 23 ∧ i < j then V 23 (i + 79) else V k i
theorem mSh_0 {V : nl_O} : mSh V 0 = V := by
  funext k i
  unfold mSh
  rw [if_neg (by omega)]
theorem mSh_s {V : nl_O} {j : Nat} : vu (mSh V j) 23 j (mSh V j 23 (j + 79)) = mSh V (j + 1) := by
  funext k i
  unfold vu mSh
  by_cases q : k = 23 ∧ i = j
  · obtain ⟨rfl, rfl⟩ := q
    rw [if_pos ⟨rfl, rfl⟩, if_neg (by omega), if_pos (by omega)]
  · rw [if_neg q]
    by_cases q2 : k = 23 ∧ i < j
    · rw [if_pos q2, if_pos (by omega)]
    · rw [if_neg q2, if_neg (by omega)]
theorem mSh_o {V : nl_O} {j k i : Nat} (hk : k ≠ 23) : mSh V j k i = V k i := by
  unfold mSh; rw [if_neg (by omega)]
/-- the notes with room for one more -/
def mNp (V : nl_O) : nl_O := if V 24 0 = 8 then vu (mSh V 553) 24 0 (V 24 0 - 1) else V
/-- the place of the next note -/
def mNq (V : nl_O) : Nat := (mNp V 24 0).toNat
def mNt (V : nl_O) : nl_O := vu (mLy (mNp V) 23 (79 * mNq V)) 24 0 ((mNq V : Int) + 1)
theorem mNq_in {V : nl_O} (h : 0 ≤ V 24 0 ∧ V 24 0 ≤ 8) : (mNq V : Int) = mNp V 24 0 ∧ mNq V ≤ 7 := by
  unfold mNq mNp
  split
  · rw [vu_at]; omega
  · omega
theorem lp_notes {LS : Int} {den : nl_D} {h : nl_H} {V : nl_O} {r : Int × nl_H} (kk : nl_Rn LS cd_X6_notes den ct_X6_notes 0 11 [some (vO 6 0), some (vI ((553 : Nat) : Int))] (sm h (mSh V 553)) r) : ∀ (d j : Nat), j + d = 553 → nl_Rn LS cd_X6_notes den ct_X6_notes 0 11 [some (vO 6 0), some (vI (j : Int))] (sm h (mSh V j)) r := by
  intro d
  induction d with
  | zero =>
    intro j hj
    obtain rfl : j = 553 := by omega
    exact kk
  | succ d ih =>
    intro j hj
    have e79 : (j : Int) + 79 = ((j + 79 : Nat) : Int) := by omega
    have k9 := ih (j + 1) (by omega)
    rw [← mSh_s] at k9
    refine .go ?_ k9
    rw [sg_X6_notes_11]
    simp (disch := omega) only [nx_of, if_pos, if_neg, if_true, if_false, true_or, or_true, Int.toNat_natCast, Option.bind_some, rm_0, rm_1, rm_2, rm_3, rm_4, rm_5, rm_6, rm_7, rm_8, rm_9, rm_10, rm_11, rm_12, rm_13, rm_14, rm_15, rm_16, rm_17, rm_18, rm_19, rm_20, rm_21, rm_22, rm_23, rm_24, rm_25, rm_26, rm_27, rm_28, rm_29, um_0, um_1, um_2, um_3, um_4, um_5, um_6, um_7, um_8, um_9, um_10, um_11, um_12, um_13, um_14, um_15, um_16, um_17, um_18, um_19, um_20, um_21, um_22, um_23, um_24, um_25, um_26, um_27, um_28, um_29, rm_k, um_k, vu_at, vu_ne, e79]
    rfl
theorem mLy_o {V : nl_O} {k a k' i : Nat} (hk : k' ≠ k) : mLy V k a k' i = V k' i := mL2_lo hk
theorem sq_notes {LS : Int} {n : Nat} (hn : 2 ≤ n) {h : nl_H} {V : nl_O} (h24 : 0 ≤ V 24 0 ∧ V 24 0 ≤ 8) : nl_c LS n m_X6_notes [vO 6 0] (sm h V) = some (0, sm h (mNt V)) := by
  obtain ⟨n, rfl, hn1⟩ := nl_suc hn
  have b := mNq_in h24
  have hs : ((79 * mNq V : Nat) : Int) + 79 ≤ nl_al LS 6 0 23 := by
    show _ ≤ (632 : Int)
    omega
  by_cases q : V 24 0 = 8
  · have e9 : mNp V = vu (mSh V 553) 24 0 (V 24 0 - 1) := by unfold mNp; rw [if_pos q]
    have e8 : (mNq V : Int) = 7 := by
      have := b.1
      rw [e9, vu_at] at this
      omega
    have e7 : 79 * (V 24 0 - 1) = ((79 * mNq V : Nat) : Int) := by omega
    have c1 := sq_lays (LS := LS) hn1 (h := h) (V := mNp V) (k := 23) (a := 79 * mNq V) (by omega) hs (by omega)
    rw [e9] at c1
    have e6 : mNt V = vu (mLy (vu (mSh V 553) 24 0 (V 24 0 - 1)) 23 (79 * mNq V)) 24 0 (V 24 0 - 1 + 1) := by
      unfold mNt
      rw [e9, show V 24 0 - 1 = (mNq V : Int) by omega]
    have k8 := lp_notes (LS := LS) (den := nl_c LS n) (h := h) (V := V) (r := (0, sm h (mNt V))) (by
      refine .ret ?_
      rw [sg_X6_notes_11, e6]
      simp (disch := omega) only [nx_of, if_pos, if_neg, if_true, if_false, true_or, or_true, Int.toNat_natCast, Option.bind_some, rm_0, rm_1, rm_2, rm_3, rm_4, rm_5, rm_6, rm_7, rm_8, rm_9, rm_10, rm_11, rm_12, rm_13, rm_14, rm_15, rm_16, rm_17, rm_18, rm_19, rm_20, rm_21, rm_22, rm_23, rm_24, rm_25, rm_26, rm_27, rm_28, rm_29, um_0, um_1, um_2, um_3, um_4, um_5, um_6, um_7, um_8, um_9, um_10, um_11, um_12, um_13, um_14, um_15, um_16, um_17, um_18, um_19, um_20, um_21, um_22, um_23, um_24, um_25, um_26, um_27, um_28, um_29, rm_k, um_k, vu_at, vu_ne, mSh_o, e7, c1, mLy_o]) 553 0 (by omega)
    rw [mSh_0] at k8
    refine cl_X6_notes (.go ?_ k8)
    rw [sg_X6_notes_0]
    simp (disch := omega) only [nx_of, if_pos, if_neg, if_true, if_false, true_or, or_true, Int.toNat_natCast, Option.bind_some, rm_0, rm_1, rm_2, rm_3, rm_4, rm_5, rm_6, rm_7, rm_8, rm_9, rm_10, rm_11, rm_12, rm_13, rm_14, rm_15, rm_16, rm_17, rm_18, rm_19, rm_20, rm_21, rm_22, rm_23, rm_24, rm_25, rm_26, rm_27, rm_28, rm_29, um_0, um_1, um_2, um_3, um_4, um_5, um_6, um_7, um_8, um_9, um_10, um_11, um_12, um_13, um_14, um_15, um_16, um_17, um_18, um_19, um_20, um_21, um_22, um_23, um_24, um_25, um_26, um_27, um_28, um_29, rm_k, um_k, vu_at, vu_ne, q]
    rfl
  · have e9 : mNp V = V := by unfold mNp; rw [if_neg q]
    have e8 : (mNq V : Int) = V 24 0 := by
      have := b.1
      rw [e9] at this
      exact this
    have e7 : 79 * (V 24 0) = ((79 * mNq V : Nat) : Int) := by omega
    have c1 := sq_lays (LS := LS) hn1 (h := h) (V := V) (k := 23) (a := 79 * mNq V) (by omega) hs (by omega)
    have e6 : mNt V = vu (mLy V 23 (79 * mNq V)) 24 0 (V 24 0 + 1) := by
      unfold mNt
      rw [e9, e8]
    refine cl_X6_notes (.ret ?_)
    rw [sg_X6_notes_0, e6]
    simp (disch := omega) only [nx_of, if_pos, if_neg, if_true, if_false, true_or, or_true, Int.toNat_natCast, Option.bind_some, rm_0, rm_1, rm_2, rm_3, rm_4, rm_5, rm_6, rm_7, rm_8, rm_9, rm_10, rm_11, rm_12, rm_13, rm_14, rm_15, rm_16, rm_17, rm_18, rm_19, rm_20, rm_21, rm_22, rm_23, rm_24, rm_25, rm_26, rm_27, rm_28, rm_29, um_0, um_1, um_2, um_3, um_4, um_5, um_6, um_7, um_8, um_9, um_10, um_11, um_12, um_13, um_14, um_15, um_16, um_17, um_18, um_19, um_20, um_21, um_22, um_23, um_24, um_25, um_26, um_27, um_28, um_29, rm_k, um_k, vu_at, vu_ne, e7, c1, mLy_o]
theorem sq_start {LS : Int} {n : Nat} (hn : 2 ≤ n) {h : nl_H} {V : nl_O} : nl_c LS n m_X6_start [vO 6 0] (sm h V) = some (0, sm h (mLy V 25 0)) := by
  obtain ⟨n, rfl, hn1⟩ := nl_suc hn
  have c1 := sq_lays (LS := LS) hn1 (h := h) (V := V) (k := 25) (a := 0) (by omega) (by show _ ≤ (79 : Int); omega) (by omega)
  refine cl_X6_start (.ret ?_)
  rw [sg_X6_start_0]
  rw [show vI 0 = vI ((0 : Nat) : Int) from rfl, c1]
  rfl
theorem sq_putBack {LS : Int} {n : Nat} (hn : 2 ≤ n) {h : nl_H} {V : nl_O} : nl_c LS n m_X6_putBack [vO 6 0] (sm h V) = some (0, sm h (mTk V 25 0)) := by
  obtain ⟨n, rfl, hn1⟩ := nl_suc hn
  have c1 := sq_takes (LS := LS) hn1 (h := h) (V := V) (k := 25) (a := 0) (by omega) (by show _ ≤ (79 : Int); omega) (by omega)
  refine cl_X6_putBack (.ret ?_)
  rw [sg_X6_putBack_0]
  rw [show vI 0 = vI ((0 : Nat) : Int) from rfl, c1]
  rfl
/-- big valleys that are the same where it counts -/
def ms (W V : nl_O) : Prop := veq W V ∧ ∀ k i : Nat, (11 ≤ k ∧ k ≤ 16) ∨ k = 23 ∨ k = 24 ∨ k = 28 ∨ k = 29 → W k i = V k i
theorem ms_refl (V : nl_O) : ms V V := ⟨veq_refl V, fun _ _ _ => rfl⟩
theorem ms_trans {U V W : nl_O} (a : ms U V) (b : ms V W) : ms U W := ⟨veq_trans a.1 b.1, fun k i hk => (a.2 k i hk).trans (b.2 k i hk)⟩
/-- the fixed fields of a valley -/
def mfx (W V : nl_O) : Prop := W 0 0 = V 0 0 ∧ ∀ k i : Nat, 4 ≤ k → k ≤ 6 → (i : Int) < V 0 0 → W k i = V k i
theorem mfx_of {W V : nl_O} (h : ∀ k i : Nat, k = 0 ∨ (4 ≤ k ∧ k ≤ 6) → W k i = V k i) : mfx W V := ⟨h 0 0 (.inl rfl), fun k i a b _ => h k i (.inr ⟨a, b⟩)⟩
theorem mfx_veq {W V : nl_O} (h : veq W V) : mfx W V := ⟨h.1.1, fun k i a b c => h.2.1 k i (by omega) (by omega) (by rw [h.1.1]; exact c)⟩
theorem mfx_trans {U W V : nl_O} (a : mfx U W) (b : mfx W V) : mfx U V := ⟨a.1.trans b.1, fun k i h1 h2 h3 => (a.2 k i h1 h2 (by rw [b.1]; exact h3)).trans (b.2 k i h1 h2 h3)⟩
/-- taking a note: what it reads -/
theorem mTk_f {V : nl_O} {k a k' i : Nat} (hk : k' = 0 ∨ (4 ≤ k' ∧ k' ≤ 6)) : mTk V k a k' i = V k' i := by
  unfold mTk mK2 mK1
  rw [if_neg (by omega), if_neg (by omega), if_neg (by omega), if_neg (by omega), if_neg (by omega), if_neg (by omega), if_neg (by omega)]
theorem mTk_hi {V : nl_O} {k a k' i : Nat} (hk : 10 < k') : mTk V k a k' i = V k' i := mK2_hi hk
theorem mTk_1 {V : nl_O} {k a : Nat} : mTk V k a 1 0 = V k a := by
  unfold mTk mK2 mK1
  rw [if_neg (by omega), if_pos (by omega)]
theorem mTk_2 {V : nl_O} {k a : Nat} : mTk V k a 2 0 = V k (a + 1) := by
  unfold mTk mK2 mK1
  rw [if_neg (by omega), if_neg (by omega), if_pos (by omega)]
theorem mTk_8 {V : nl_O} {k a i : Nat} (hi : i < 7) : mTk V k a 8 i = V k (a + 2 + i) := by
  unfold mTk mK2 mK1
  rw [if_neg (by omega), if_neg (by omega), if_neg (by omega), if_pos (by omega)]
theorem mTk_7 {V : nl_O} {k a i : Nat} (hi : i < 7) : mTk V k a 7 i = V k (a + 9 + i) := by
  unfold mTk mK2 mK1
  rw [if_neg (by omega), if_neg (by omega), if_neg (by omega), if_neg (by omega), if_pos (by omega)]
theorem mTk_9 {V : nl_O} {k a i : Nat} (hi : i < 7) : mTk V k a 9 i = V k (a + 16 + i) := by
  unfold mTk mK2 mK1
  rw [if_neg (by omega), if_neg (by omega), if_neg (by omega), if_neg (by omega), if_neg (by omega), if_pos (by omega)]
theorem mTk_3 {V : nl_O} {k a i : Nat} (hi : i < 7) : mTk V k a 3 i = V k (a + 23 + i) := by
  unfold mTk mK2 mK1
  rw [if_neg (by omega), if_neg (by omega), if_neg (by omega), if_neg (by omega), if_neg (by omega), if_neg (by omega), if_pos (by omega)]
theorem mTk_10 {V : nl_O} {k a i : Nat} (hi : i < 49) : mTk V k a 10 i = V k (a + 30 + i) := by
  unfold mTk mK2
  rw [if_pos (by omega)]
/-- two notes that read the same are the same valley -/
theorem mTk_eq {V W : nl_O} {k l a b : Nat} (h7 : V 0 0 ≤ 7) (hf : mfx V W) (hr : ∀ j, j < 79 → V k (a + j) = W l (b + j)) : veq (mTk V k a) (mTk W l b) := by
  have z0 : mTk V k a 0 0 = V 0 0 := mTk_f (.inl rfl)
  have z1 : mTk W l b 0 0 = W 0 0 := mTk_f (.inl rfl)
  refine ⟨⟨?_, ?_, ?_⟩, fun k' i h1 h2 h3 => ?_, fun i k' h1 h2 => ?_⟩
  · rw [z0, z1]; exact hf.1
  · rw [mTk_1, mTk_1]; exact hr 0 (by omega)
  · rw [mTk_2, mTk_2]; exact hr 1 (by omega)
  · rw [z0] at h3
    by_cases q : 4 ≤ k' ∧ k' ≤ 6
    · rw [mTk_f (.inr q), mTk_f (.inr q)]; exact hf.2 k' i q.1 q.2 (by rw [← hf.1]; exact h3)
    · rcases (show k' = 3 ∨ k' = 7 ∨ k' = 8 ∨ k' = 9 by omega) with rfl | rfl | rfl | rfl
      · rw [mTk_3 (by omega), mTk_3 (by omega), Nat.add_assoc, Nat.add_assoc]; exact hr _ (by omega)
      · rw [mTk_7 (by omega), mTk_7 (by omega), Nat.add_assoc, Nat.add_assoc]; exact hr _ (by omega)
      · rw [mTk_8 (by omega), mTk_8 (by omega), Nat.add_assoc, Nat.add_assoc]; exact hr _ (by omega)
      · rw [mTk_9 (by omega), mTk_9 (by omega), Nat.add_assoc, Nat.add_assoc]; exact hr _ (by omega)
  · rw [z0] at h1 h2
    rw [mTk_10 (by omega), mTk_10 (by omega), Nat.add_assoc, Nat.add_assoc]; exact hr _ (by omega)
theorem mLy_in {V : nl_O} {k a j : Nat} (hj : j < 79) : mLy V k a k (a + j) = mNo V j := by
  unfold mLy mL2
  rw [if_pos (by omega), show a + j - a = j by omega]
theorem mLy_out {V : nl_O} {k a j : Nat} (hj : j < a ∨ a + 79 ≤ j) : mLy V k a k j = V k j := by
  unfold mLy mL2
  rw [if_neg (by omega)]
/-- what was laid is taken -/
theorem mTk_no {V W : nl_O} {k a : Nat} (h7 : W 0 0 ≤ 7) (hf : mfx W V) (hr : ∀ j, j < 79 → W k (a + j) = mNo V j) : veq (mTk W k a) V := by
  have z0 : mTk W k a 0 0 = W 0 0 := mTk_f (.inl rfl)
  refine ⟨⟨?_, ?_, ?_⟩, fun k' i h1 h2 h3 => ?_, fun i k' h1 h2 => ?_⟩
  · rw [z0]; exact hf.1
  · rw [mTk_1]; exact hr 0 (by omega)
  · rw [mTk_2]; exact hr 1 (by omega)
  · rw [z0] at h3
    by_cases q : 4 ≤ k' ∧ k' ≤ 6
    · rw [mTk_f (.inr q)]; exact hf.2 k' i q.1 q.2 (by rw [← hf.1]; exact h3)
    · rcases (show k' = 3 ∨ k' = 7 ∨ k' = 8 ∨ k' = 9 by omega) with rfl | rfl | rfl | rfl
      · rw [mTk_3 (by omega), Nat.add_assoc, hr _ (by omega)]
        unfold mNo
        rw [if_neg (by omega), if_neg (by omega), if_neg (by omega), if_neg (by omega), if_neg (by omega), if_pos (by omega), show 23 + i - 23 = i by omega]
      · rw [mTk_7 (by omega), Nat.add_assoc, hr _ (by omega)]
        unfold mNo
        rw [if_neg (by omega), if_neg (by omega), if_neg (by omega), if_pos (by omega), show 9 + i - 9 = i by omega]
      · rw [mTk_8 (by omega), Nat.add_assoc, hr _ (by omega)]
        unfold mNo
        rw [if_neg (by omega), if_neg (by omega), if_pos (by omega), show 2 + i - 2 = i by omega]
      · rw [mTk_9 (by omega), Nat.add_assoc, hr _ (by omega)]
        unfold mNo
        rw [if_neg (by omega), if_neg (by omega), if_neg (by omega), if_neg (by omega), if_pos (by omega), show 16 + i - 16 = i by omega]
  · rw [z0] at h1 h2
    rw [mTk_10 (by omega), Nat.add_assoc, hr _ (by omega)]
    unfold mNo
    rw [if_neg (by omega), if_neg (by omega), if_neg (by omega), if_neg (by omega), if_neg (by omega), if_neg (by omega), show 30 + (i * 7 + k') - 30 = i * 7 + k' by omega]
/-- behind start, whatever went by, putBack -/
theorem ms_back {V W : nl_O} (h7 : V 0 0 ≤ 7) (hf : mfx W V) (hr : ∀ j, W 25 j = mLy V 25 0 25 j) (ho : ∀ k i : Nat, (11 ≤ k ∧ k ≤ 16) ∨ k = 23 ∨ k = 24 ∨ k = 28 ∨ k = 29 → W k i = V k i) : ms (mTk W 25 0) V := by
  refine ⟨mTk_no (by rw [hf.1]; exact h7) hf fun j hj => ?_, fun k i hk => ?_⟩
  · rw [hr, mLy_in hj]
  · rw [mTk_hi (by omega)]; exact ho k i hk
