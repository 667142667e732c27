/-! The relation kept: shelves, what was seen, the text. -/
theorem rsh_cut {h : nl_H} {c lo hi : Int} {S V W : nl_O} {k q : Nat} {f : Int} (h7 : V 0 0 ≤ 7) (r : rsh h c lo hi S V k q) (hf : 0 ≤ f ∧ f ≤ S 1 0) (hq : W q 0 = f) (hk : ∀ i : Nat, (i : Int) < 79 * f → W k i = V k i) (hx : mfx W V) : rsh h c lo hi (vu S 1 0 f) W k q := by
  obtain ⟨r1, r2, r3⟩ := r
  have e0 : ∀ j, vu S 1 0 f 0 j = S 0 j := fun j => vu_k (by omega)
  refine ⟨⟨by rw [vu_at]; have := r1.1; omega, fun i hi => by rw [e0]; exact r1.2.1 i hi, fun i j hi hj e => r1.2.2 i j hi hj (by rw [← e0, ← e0]; exact e)⟩, by rw [vu_at]; exact hq, fun j hj => ?_⟩
  rw [vu_at] at hj
  have b := r3 j (by omega)
  have e := mTk_eq (V := W) (W := V) (k := k) (l := k) (a := 79 * j) (b := 79 * j) (by rw [hx.1]; exact h7) hx fun i hi => hk _ (by omega)
  rw [e0]
  exact ⟨vgd_veq b.1 e, veq_trans b.2 (veq_symm e)⟩
theorem rsh_same {h : nl_H} {c lo hi : Int} {S V W : nl_O} {k q : Nat} (h7 : V 0 0 ≤ 7) (r : rsh h c lo hi S V k q) (hq : W q 0 = V q 0) (hk : ∀ i, W k i = V k i) (hx : mfx W V) : rsh h c lo hi S W k q := by
  have b := rsh_cut (W := W) (f := S 1 0) h7 r ⟨r.1.1.1, by omega⟩ (by rw [hq]; exact r.2.1) (fun i _ => hk i) hx
  rw [vu_self] at b
  exact b
theorem rsh_0 {h : nl_H} {c lo hi : Int} {S W : nl_O} {k q : Nat} (r : shok c lo hi S) (hq : W q 0 = 0) : rsh h c lo hi (vu S 1 0 0) W k q := by
  have e0 : ∀ j, vu S 1 0 0 0 j = S 0 j := fun j => vu_k (by omega)
  refine ⟨⟨by rw [vu_at]; have := r.1; omega, fun i hi => by rw [e0]; exact r.2.1 i hi, fun i j hi hj e => r.2.2 i j hi hj (by rw [← e0, ← e0]; exact e)⟩, by rw [vu_at]; exact hq, fun j hj => ?_⟩
  rw [vu_at] at hj
  omega
theorem rsh_push {h g : nl_H} {c lo hi : Int} {S V W : nl_O} {k q f : Nat} (h7 : V 0 0 ≤ 7) (hlo : 0 ≤ lo) (r : rsh h c lo hi S V k q) (hf : S 1 0 = (f : Int)) (hfc : (f : Int) < c) (hq : W q 0 = (f : Int) + 1) (hk : ∀ i, i < 79 * f → W k i = V k i) (hx : mfx W V) (hn : ∀ i, i < 79 → W k (79 * f + i) = mNo V i) (hV : vgd V) (hg : ∀ r : Nat, r ≠ (S 0 f).toNat → lo ≤ r → (r : Int) < hi → g 4 r = h 4 r) (hgf : veq (g 4 (S 0 f).toNat) V) : rsh g c lo hi (vu S 1 0 (S 1 0 + 1)) W k q := by
  obtain ⟨r1, r2, r3⟩ := r
  have e0 : ∀ j, vu S 1 0 (S 1 0 + 1) 0 j = S 0 j := fun j => vu_k (by omega)
  refine ⟨⟨by rw [vu_at]; omega, fun i hi => by rw [e0]; exact r1.2.1 i hi, fun i j hi hj e => r1.2.2 i j hi hj (by rw [← e0, ← e0]; exact e)⟩, by rw [vu_at, hf]; exact hq, fun j hj => ?_⟩
  rw [vu_at, hf] at hj
  rw [e0]
  by_cases qj : j = f
  · subst qj
    have e := mTk_no (V := V) (W := W) (k := k) (a := 79 * j) (by rw [hx.1]; exact h7) hx hn
    exact ⟨vgd_veq hV e, veq_trans hgf (veq_symm e)⟩
  · have b := r3 j (by omega)
    have bj := r1.2.1 j (by omega)
    have bf := r1.2.1 f (by omega)
    have e := mTk_eq (V := W) (W := V) (k := k) (l := k) (a := 79 * j) (b := 79 * j) (by rw [hx.1]; exact h7) hx fun i hi => hk _ (by omega)
    have ne : (S 0 j).toNat ≠ (S 0 f).toNat := fun z => qj (r1.2.2 j f (by omega) (by omega) (by omega))
    rw [hg _ ne (by omega) (by omega)]
    exact ⟨vgd_veq b.1 e, veq_trans b.2 (veq_symm e)⟩
theorem vDrop_0 {S : nl_O} {c j : Nat} (hj : j + 1 < c) : vDrop S c 0 j = S 0 (j + 1) := by
  unfold vDrop vRot
  rw [vu_k (by omega), vu_ne (by omega), if_pos (by omega)]
theorem vDrop_1 {S : nl_O} {c : Nat} : vDrop S c 1 0 = (c : Int) - 1 := by
  unfold vDrop
  rw [vu_at]
theorem rsh_drop {h : nl_H} {c : Nat} {lo hi : Int} {S V W : nl_O} {k q : Nat} (h7 : V 0 0 ≤ 7) (hc : 2 ≤ c ∧ c ≤ 8) (r : rsh h c lo hi S V k q) (hf : S 1 0 = (c : Int)) (hq : W q 0 = (c : Int) - 1) (hk : ∀ i, i < 79 * (c - 1) → W k i = V k (i + 79)) (hx : mfx W V) : rsh h c lo hi (vDrop S c) W k q := by
  obtain ⟨r1, r2, r3⟩ := r
  refine ⟨shok_drop hc r1, by rw [vDrop_1]; exact hq, fun j hj => ?_⟩
  rw [vDrop_1] at hj
  have b := r3 (j + 1) (by omega)
  have e := mTk_eq (V := W) (W := V) (k := k) (l := k) (a := 79 * j) (b := 79 * (j + 1)) (by rw [hx.1]; exact h7) hx fun i hi => by rw [hk _ (by omega), show 79 * j + i + 79 = 79 * (j + 1) + i by omega]
  rw [vDrop_0 (by omega)]
  exact ⟨vgd_veq b.1 e, veq_trans b.2 (veq_symm e)⟩
theorem rse_same {S V W : nl_O} (r : rse S V) (h0 : W 0 0 = V 0 0) (h : ∀ k i : Nat, 11 ≤ k → k ≤ 14 → W k i = V k i) : rse S W := by
  refine ⟨by rw [h0]; exact r.1, by rw [h 11 0 (by omega) (by omega)]; exact r.2.1, fun i hi => ?_⟩
  rw [h 12 i (by omega) (by omega), h 13 i (by omega) (by omega), h 14 i (by omega) (by omega)]
  exact r.2.2 i hi
theorem rtx_same {T V W : nl_O} (r : rtx T V) (h : ∀ k i : Nat, 15 ≤ k → k ≤ 16 → W k i = V k i) : rtx T W := by
  obtain ⟨L, a, b, c, d⟩ := r
  refine ⟨L, a, by rw [h 16 0 (by omega) (by omega)]; exact b, c, fun i hi => by rw [h 15 i (by omega) (by omega)]; exact d i hi⟩
theorem rl_7 {h : nl_H} {V : nl_O} (r : rl h V) : V 0 0 ≤ 7 := r.1.1.1.2
theorem rl_ms {h : nl_H} {V W : nl_O} (r : rl h V) (e : ms W V) : rl h W := by
  have h7 := rl_7 r
  obtain ⟨a1, a2, a3, a4, a5, a6⟩ := r
  have hx := mfx_veq e.1
  exact ⟨vgd_veq a1 e.1, veq_trans a2 (veq_symm e.1), rsh_same h7 a3 (e.2 24 0 (by omega)) (fun i => e.2 23 i (by omega)) hx, rsh_same h7 a4 (e.2 29 0 (by omega)) (fun i => e.2 28 i (by omega)) hx, rse_same a5 e.1.1.1 (fun k i _ _ => e.2 k i (by omega)), rtx_same a6 (fun k i _ _ => e.2 k i (by omega))⟩
/-- the notes' shelf behind a put -/
theorem mNt_o {V : nl_O} {k i : Nat} (h1 : k ≠ 23) (h2 : k ≠ 24) : mNt V k i = V k i := by
  unfold mNt
  rw [vu_k h2, mLy_o h1]
  unfold mNp
  split
  · rw [vu_k h2, mSh_o h1]
  · rfl
theorem hp_o {h : nl_H} {o c v c' o' : Nat} (h1 : c' ≠ 4) (h2 : ¬ (c' = 2 ∧ o' = o)) : hp h o c v c' o' = h c' o' := by
  unfold hp
  rw [so_ne h2, so_ne (by omega)]
theorem hp_2 {h : nl_H} {o c v : Nat} : hp h o c v 2 o = vu (shPre c (h 2 o)) 1 0 (shPre c (h 2 o) 1 0 + 1) := by
  unfold hp
  rw [so_at]
theorem hp_4 {h : nl_H} {o c v r : Nat} : hp h o c v 4 r = if r = shR c (h 2 o) then vCopy (h 4 (shR c (h 2 o))) (h 4 v) else h 4 r := by
  unfold hp
  rw [so_ne (by omega)]
  by_cases q : r = shR c (h 2 o)
  · subst q
    rw [so_at, if_pos rfl]
  · rw [so_ne (by omega), if_neg q]
theorem rsh_note {h : nl_H} {V : nl_O} (r : rl h V) : rsh (hp h 0 8 0) 8 2 10 (hp h 0 8 0 2 0) (mNt V) 23 24 := by
  have h7 := rl_7 r
  obtain ⟨a1, a2, a3, a4, a5, a6⟩ := r
  have hs := a3.1.1
  have h24 : 0 ≤ V 24 0 ∧ V 24 0 ≤ 8 := by rw [a3.2.1]; exact hs
  have b := mNq_in h24
  have q24 := a3.2.1
  have h70 : h 4 0 0 0 ≤ 7 := by rw [a2.1.1]; exact h7
  have hcp : ∀ A, veq (vCopy A (h 4 0)) V := fun A => veq_trans (veq_copy h70) a2
  rw [hp_2]
  by_cases q : h 2 0 1 0 < 8
  · have eS : shPre 8 (h 2 0) = h 2 0 := by unfold shPre; rw [if_pos (by omega)]
    have eV : mNp V = V := by unfold mNp; rw [if_neg (by omega)]
    rw [eV] at b
    rw [eS]
    refine rsh_push (f := mNq V) (h := h) h7 (by omega) a3 (by omega) (by omega) ?_ (fun i hi => ?_) (mfx_of fun k i hk => mNt_o (by omega) (by omega)) (fun i hi => ?_) a1 (fun w hw h1 h2 => ?_) ?_
    · unfold mNt; rw [vu_at]
    · unfold mNt; rw [vu_k (by omega), eV, mLy_out (by omega)]
    · unfold mNt; rw [vu_k (by omega), eV, mLy_in hi]
    · rw [hp_4, if_neg]
      unfold shR
      rw [eS]
      rw [show (h 2 0 1 0).toNat = mNq V by omega]
      exact hw
    · rw [hp_4, if_pos]
      · exact hcp _
      · unfold shR
        rw [eS]
        rw [show (h 2 0 1 0).toNat = mNq V by omega]
  · have eS : shPre 8 (h 2 0) = vDrop (h 2 0) 8 := by unfold shPre; rw [if_neg (by omega)]
    have e8 : V 24 0 = 8 := by have := a3.2.1; omega
    have eV : mNp V = vu (mSh V 553) 24 0 (V 24 0 - 1) := by unfold mNp; rw [if_pos e8]
    have eq7 : mNq V = 7 := by unfold mNq; rw [eV, vu_at, e8]; rfl
    have d := rsh_drop (c := 8) (W := mNp V) h7 (by omega) a3 (by have := a3.2.1; omega) (by rw [eV, vu_at, e8]; rfl) (fun i hi => by rw [eV, vu_k (by omega)]; unfold mSh; rw [if_pos (by omega)]) (mfx_of fun k i hk => by rw [eV, vu_k (by omega), mSh_o (by omega)])
    have ep : ∀ k i : Nat, k ≠ 23 → k ≠ 24 → mNp V k i = V k i := fun k i h1 h2 => by rw [eV, vu_k h2, mSh_o h1]
    have ve : veq (mNp V) V := ⟨⟨ep _ _ (by omega) (by omega), ep _ _ (by omega) (by omega), ep _ _ (by omega) (by omega)⟩, fun k i _ _ _ => ep _ _ (by omega) (by omega), fun i k _ _ => ep _ _ (by omega) (by omega)⟩
    have e7 : mNp V 0 0 ≤ 7 := by rw [ve.1.1]; exact h7
    rw [eS]
    refine rsh_push (f := mNq V) (h := h) (V := mNp V) e7 (by omega) d ?_ (by omega) ?_ (fun i hi => ?_) (mfx_of fun k i hk => ?_) (fun i hi => ?_) (vgd_veq a1 ve) (fun w hw h1 h2 => ?_) ?_
    · rw [vDrop_1, eq7]; rfl
    · unfold mNt; rw [vu_at]
    · unfold mNt; rw [vu_k (by omega), mLy_out (by omega)]
    · rw [mNt_o (by omega) (by omega), ep _ _ (by omega) (by omega)]
    · unfold mNt; rw [vu_k (by omega), mLy_in hi]
    · rw [hp_4, if_neg]
      unfold shR
      rw [eS, vDrop_1]
      rw [show (((8 : Nat) : Int) - 1).toNat = mNq V by omega]
      exact hw
    · rw [hp_4, if_pos]
      · exact veq_trans (hcp _) (veq_symm ve)
      · unfold shR
        rw [eS, vDrop_1]
        rw [show (((8 : Nat) : Int) - 1).toNat = mNq V by omega]
/-- behind an act: the notes put by, the valley changed -/
theorem rl_act {h : nl_H} {V W X : nl_O} (r : rl h V) (hW : vgd W) (hX : veq X W) (hf : mfx W V) (ho : ∀ k i : Nat, 10 < k → W k i = mNt V k i) : rl (so (hp h 0 8 0) 4 0 X) W := by
  have n := rsh_note r
  have h7 := rl_7 r
  obtain ⟨a1, a2, a3, a4, a5, a6⟩ := r
  have fN : mfx W (mNt V) := mfx_trans hf ⟨(mNt_o (by omega) (by omega)).symm, fun k i _ _ _ => (mNt_o (by omega) (by omega)).symm⟩
  have hR : 2 ≤ shR 8 (h 2 0) ∧ shR 8 (h 2 0) < 10 := by
    have := shR_in (c := 8) (by omega) a3.1 (by omega)
    omega
  refine ⟨hW, by rw [so_at]; exact hX, ?_, ?_, ?_, ?_⟩
  · rw [so_ne (by omega)]
    have b := rsh_same (W := W) (by rw [mNt_o (by omega) (by omega)]; exact h7) n (ho _ _ (by omega)) (fun i => ho _ _ (by omega)) fN
    exact rsh_h b (by omega) (by omega) fun w h1 h2 => so_ne (by omega)
  · rw [so_ne (by omega), hp_o (by omega) (by omega)]
    have b := rsh_same (W := W) h7 a4 (by rw [ho _ _ (by omega), mNt_o (by omega) (by omega)]) (fun i => by rw [ho _ _ (by omega), mNt_o (by omega) (by omega)]) hf
    exact rsh_h b (by omega) (by omega) fun w h1 h2 => by rw [so_ne (by omega), hp_4, if_neg (by omega)]
  · rw [so_ne (by omega), hp_o (by omega) (by omega)]
    exact rse_same a5 hf.1 fun k i h1 h2 => by rw [ho _ _ (by omega), mNt_o (by omega) (by omega)]
  · rw [so_ne (by omega), hp_o (by omega) (by omega)]
    exact rtx_same a6 fun k i h1 h2 => by rw [ho _ _ (by omega), mNt_o (by omega) (by omega)]
