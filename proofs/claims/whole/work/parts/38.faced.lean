/-! What is called from without: what was seen. -/
theorem vFit_in (S V : nl_O) (x : Int) : ∀ d i, vFit S V x d i = 0 ∨ vFit S V x d i = 1 := by
  intro d
  induction d with
  | zero => intro i; exact .inr rfl
  | succ d ih =>
    intro i
    simp only [vFit]
    split
    · split
      · exact ih (i + 1)
      · exact .inl rfl
    · exact ih (i + 1)
/-- whether all seen fits a valley, of e nights from t on -/
def vFs (S : nl_O) : Nat → Nat → nl_O → Int
  | 0, _, _ => 1
  | e + 1, t, V => if vFit S V (t : Int) (S 3 0).toNat 0 = 0 then 0 else vFs S e (t + 1) (vPass 1 V)
theorem lp_fits {LS : Int} {n : Nat} (hn : 5 ≤ n) {S : nl_O} {m : Int} {y1 y2 y3 : Int} (hS : sok m S) {la : Nat} (hla : la ≤ 22) : ∀ (e t : Nat) {N : Int} {V : nl_O} (h : nl_H), h 4 1 = V → h 3 0 = S → t + e = la → N + 7 * e ≤ 80000 → vok N V → V 0 0 = m → ∃ W, nl_Rn LS cd_X5_fitsAllSeen (nl_c LS n) ct_X5_fitsAllSeen 3 43 [some (vO 5 0), some (vI y1), some (vI y2), some (vI y3), some (vI ((la : Int) - 1)), some (vI (t : Int))] h (vFs S e t V, so h 4 1 W) := by
  intro e
  induction e with
  | zero =>
    intro t N V h hv hs ht hN hV hm
    refine ⟨h 4 1, .ret ?_⟩
    rw [sg_X5_fitsAllSeen_43]
    simp (disch := omega) only [nx_of, if_pos, if_neg, if_true, if_false, true_or, or_true, Int.toNat_natCast, Option.bind_some, vFs, so_self]
  | succ e ih =>
    intro t N V h hv hs ht hN hV hm
    have c1 := sp_fit (LS := LS) hn (h := h) (v := 1) (N := N) (x := (t : Int)) (by omega) (by rw [hv]; exact hV) (by rw [hv, hs, hm]; exact hS) (by omega)
    rw [hv, hs] at c1
    have b1 := vFit_in S V (t : Int) (S 3 0).toNat 0
    by_cases q : vFit S V (t : Int) (S 3 0).toNat 0 = 0
    · have e9 : vFs S (e + 1) t V = 0 := by simp only [vFs]; rw [if_pos q]
      rw [e9]
      refine ⟨h 4 1, .ret ?_⟩
      rw [sg_X5_fitsAllSeen_43]
      simp (disch := omega) only [nx_of, if_pos, if_neg, if_true, if_false, true_or, or_true, Int.toNat_natCast, Option.bind_some, c1, q, so_self]
    · have e9 : vFs S (e + 1) t V = vFs S e (t + 1) (vPass 1 V) := by simp only [vFs]; rw [if_neg q]
      rw [e9]
      have c2 := sp_letNightsPass (LS := LS) hn (h := h) (o := 1) (d := 1) (N := N) (by omega) (by omega) (by rw [hv]; exact hV)
      rw [hv] at c2
      have g : ((1 : Nat) : Int) = 1 := rfl
      rw [g] at c2
      have hp := vPass_ok (d := 1) hV
      obtain ⟨W, k9⟩ := ih (t + 1) (N := N + 7 * ((1 : Nat) : Int)) (V := vPass 1 V) (so h 4 1 (vPass 1 V)) so_at (by rw [so_ne (by omega)]; exact hs) (by omega) (by omega) hp.1 (by rw [hp.2]; exact hm)
      rw [so_so] at k9
      refine ⟨W, .go ?_ k9⟩
      rw [sg_X5_fitsAllSeen_43]
      simp (disch := omega) only [nx_of, if_pos, if_neg, if_true, if_false, true_or, or_true, Int.toNat_natCast, Option.bind_some, c1, c2]
      rfl
/-- a valley with house i of another kind and strength -/
def vAs (V : nl_O) (i : Nat) (a b : Int) : nl_O := vu (vu V 4 i a) 5 i b
theorem vAs_ok {N : Int} {V : nl_O} (hV : vok N V) {i : Nat} {a b : Int} (ha : 0 ≤ a ∧ a ≤ 3) (hb : 0 ≤ b ∧ b ≤ 40) : vok N (vAs V i a b) := by
  obtain ⟨w1, w2, w3, w4, w5⟩ := hV
  have z : ∀ k j, k ≠ 4 → k ≠ 5 → vAs V i a b k j = V k j := fun k j h4 h5 => by unfold vAs; rw [vu_k h5, vu_k h4]
  have z4 : ∀ j, vAs V i a b 4 j = V 4 j ∨ vAs V i a b 4 j = a := fun j => by
    unfold vAs
    rw [vu_k (by omega)]
    by_cases q : j = i
    · subst q; rw [vu_at]; exact .inr rfl
    · rw [vu_ne (fun z => q z.2)]; exact .inl rfl
  have z5 : ∀ j, vAs V i a b 5 j = V 5 j ∨ vAs V i a b 5 j = b := fun j => by
    unfold vAs
    by_cases q : j = i
    · subst q; rw [vu_at]; exact .inr rfl
    · rw [vu_ne (fun z => q z.2), vu_k (by omega)]; exact .inl rfl
  refine ⟨by rw [z _ _ (by omega) (by omega)]; exact w1, by rw [z _ _ (by omega) (by omega)]; exact w2, by rw [z _ _ (by omega) (by omega)]; exact w3, fun j hj => ?_, fun j k hj hk => ?_⟩
  · rw [z 0 0 (by omega) (by omega)] at hj ⊢
    have := w4 j hj
    rw [z 3 _ (by omega) (by omega), z 6 _ (by omega) (by omega), z 7 _ (by omega) (by omega), z 8 _ (by omega) (by omega), z 9 _ (by omega) (by omega)]
    have k4 := z4 j
    have k5 := z5 j
    exact ⟨this.1, by rcases k4 with q | q <;> omega, by rcases k5 with q | q <;> omega, this.2.2.2.1, this.2.2.2.2.1, this.2.2.2.2.2⟩
  · rw [z 0 0 (by omega) (by omega)] at hj hk
    rw [z 10 _ (by omega) (by omega)]; exact w5 j k hj hk
theorem vFs_veq {S : nl_O} : ∀ (e t : Nat) {N : Int} {V W : nl_O}, vok N V → veq V W → sok (V 0 0) S → vFs S e t V = vFs S e t W := by
  intro e
  induction e with
  | zero => intro t N V W _ _ _; rfl
  | succ e ih =>
    intro t N V W hV h hS
    have hp := vPass_ok (d := 1) hV
    have b := hS.1
    simp only [vFs]
    rw [vFit_veq hV h hS (t : Int) (S 3 0).toNat 0 (by omega), ih (t + 1) hp.1 (vPass_veq hV h) (by rw [hp.2]; exact hS)]
/-- whether all seen fits, if house i is of that kind and strength -/
def vFa (S V : nl_O) (i : Nat) (a b : Int) : Int := vFs S (vLast S (S 3 0).toNat + 1).toNat 0 (vAs V i a b)
theorem sp_fits {LS : Int} {n : Nat} (hn : 6 ≤ n) {h : nl_H} {i : Nat} {a b N : Int} (hN : N ≤ 70000) (hV : vok N (h 4 0)) (hS : sok (h 4 0 0 0) (h 3 0)) (hi : (i : Int) < h 4 0 0 0) (ha : 0 ≤ a ∧ a ≤ 3) (hb : 0 ≤ b ∧ b ≤ 40) : ∃ W, nl_c LS n m_X5_fitsAllSeen [vO 5 0, vI (i : Int), vI a, vI b] h = some (vFa (h 3 0) (h 4 0) i a b, so h 4 1 W) := by
  obtain ⟨n, rfl, hn1⟩ := nl_suc hn
  have hn9 := hV.1
  have c1 := sp_copyFrom (LS := LS) (n := n) (by omega) (h := h) (o := 1) (v := 0) (by omega)
  have hq := veq_copy (A := h 4 1) (B := h 4 0) hn9.2
  have hW := vok_veq hV hq
  have hA := vAs_ok hW (i := i) ha hb
  have hB := vAs_ok hV (i := i) ha hb
  have hAB : veq (vAs (vCopy (h 4 1) (h 4 0)) i a b) (vAs (h 4 0) i a b) := veq_v (veq_v hq ⟨by omega, by omega⟩ rfl) ⟨by omega, by omega⟩ rfl
  have z0 : vAs (vCopy (h 4 1) (h 4 0)) i a b 0 0 = h 4 0 0 0 := by unfold vAs; rw [vu_k (by omega), vu_k (by omega)]; exact hq.1.1
  have bl := vLast_in hS (h 3 0 3 0).toNat (by have := hS.1; omega)
  have c2 := sp_last (LS := LS) (n := n) (by omega) (h := so h 4 1 (vAs (vCopy (h 4 1) (h 4 0)) i a b)) (m := h 4 0 0 0) (by rw [so_ne (by omega)]; exact hS)
  rw [so_ne (by omega)] at c2
  obtain ⟨la, hla⟩ : ∃ la : Nat, vLast (h 3 0) (h 3 0 3 0).toNat = (la : Int) - 1 := ⟨(vLast (h 3 0) (h 3 0 3 0).toNat + 1).toNat, by omega⟩
  have e9 : vFa (h 3 0) (h 4 0) i a b = vFs (h 3 0) la 0 (vAs (vCopy (h 4 1) (h 4 0)) i a b) := by
    have e8 : (vLast (h 3 0) (h 3 0 3 0).toNat + 1).toNat = la := by omega
    unfold vFa
    rw [e8, vFs_veq la 0 hA hAB (by rw [z0]; exact hS)]
  rw [e9]
  obtain ⟨W, k9⟩ := lp_fits (LS := LS) hn1 (S := h 3 0) (m := h 4 0 0 0) (y1 := (i : Int)) (y2 := a) (y3 := b) hS (la := la) (by omega) la 0 (N := N) (V := vAs (vCopy (h 4 1) (h 4 0)) i a b) (so h 4 1 (vAs (vCopy (h 4 1) (h 4 0)) i a b)) so_at (so_ne (by omega)) (by omega) (by omega) hA z0
  rw [so_so, ← hla] at k9
  refine ⟨W, cl_X5_fitsAllSeen (.go ?_ k9)⟩
  rw [sg_X5_fitsAllSeen_0]
  unfold vAs at c2 ⊢
  simp (disch := omega) only [nx_of, if_pos, if_neg, if_true, if_false, true_or, or_true, Int.toNat_natCast, Option.bind_some, c1, up_so, so_at, so_so, c2]
  rfl
