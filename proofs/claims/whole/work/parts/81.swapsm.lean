/-! Swaps: the model's. -/
set_option maxRecDepth 20000 in
theorem b_le : ∀ m, m < 8 → ∀ S, S < 2 ^ m → bN S ≤ m := by decide +kernel
theorem gt_map (f : Nat → Nat) : ∀ (p : List Nat) (a : Nat), a < p.length → gt (p.map f) a = f (gt p a) := by
  intro p
  induction p with
  | nil => intro a h; simp only [List.length_nil] at h; omega
  | cons x r ih =>
    intro a h
    simp only [List.length_cons] at h
    cases a with
    | zero => rfl
    | succ a => exact ih a (by omega)
/-- the houses that have a row's hours -/
def wl (V : nl_O) (p : List Nat) : List Nat := p.map fun (k : Nat) => (vWho V (k : Int) (vN V) 0).toNat
theorem wl_gt {V : nl_O} {p : List Nat} {a : Nat} (ha : a < p.length) : gt (wl V p) a = (vWho V ((gt p a : Nat) : Int) (vN V) 0).toNat := gt_map _ p a ha
theorem wl_in {N : Int} {V : nl_O} {m : Nat} {p : List Nat} (hV : vok N V) (hI : vinj V) (hm : V 0 0 = (m : Int)) (hp : pm m p) {a : Nat} (ha : a < m) : vWho V ((gt p a : Nat) : Int) (vN V) 0 = ((gt (wl V p) a : Nat) : Int) ∧ gt (wl V p) a < m ∧ V 8 (gt (wl V p) a) = ((gt p a : Nat) : Int) := by
  have g := hp.2.1 a ha
  have hl := hp.1
  obtain ⟨i, i1, i2⟩ := vsur hV hI (k := gt p a) (by omega)
  have w := vWho_of hV hI i1
  rw [i2] at w
  rw [wl_gt (by omega), w, Int.toNat_natCast]
  exact ⟨rfl, by omega, i2⟩
theorem cyc_lt {m : Nat} {s : List Nat} (hs : ∀ a, a < m → gt s a < m) : ∀ (f met x : Nat), met < 2 ^ m → x < m → cyc s f met x < 2 ^ m := by
  intro f
  induction f with
  | zero => intro met x h _; exact h
  | succ f ih =>
    intro met x h hx
    simp only [cyc]
    split
    · exact h
    · exact ih _ _ (bo_lt2 h hx) (hs x hx)
theorem lp_ring {LS : Int} {n : Nat} (hn : 1 ≤ n) {h : nl_H} {V : nl_O} {N n9 : Int} {m i : Nat} {p : List Nat} {r : Int × nl_H} (hV : vok N V) (hI : vinj V) (hm : V 0 0 = (m : Int)) (hp : pm m p) (hr : ro V p) : ∀ (f met x : Nat), met < 2 ^ m → x < m → m + 1 ≤ bN met + f → (∀ w, nl_Rn LS cd_X6_swapsTo (nl_c LS n) ct_X6_swapsTo 1 9 [some (vO 6 0), some (vI n9), some (vI ((cyc (wl V p) f met x : Nat) : Int)), some (vI ((i : Int) + 1)), w] (sm h V) r) → nl_Rn LS cd_X6_swapsTo (nl_c LS n) ct_X6_swapsTo 1 36 [some (vO 6 0), some (vI n9), some (vI (met : Int)), some (vI (i : Int)), some (vI (x : Int))] (sm h V) r := by
  have h9 := hV.1
  have h2 := bm_le (show m ≤ 7 by omega)
  intro f
  induction f with
  | zero =>
    intro met x h1 h3 h4 kk
    have := b_le m (by omega) met h1
    omega
  | succ f ih =>
    intro met x h1 h3 h4 kk
    have c1 := sq_has (LS := LS) (n := n) hn (h := sm h V) (S := met) (k := x) (by omega) (by omega)
    by_cases q : met.testBit x = true
    · rw [if_pos q] at c1
      have ec : cyc (wl V p) (f + 1) met x = met := by simp only [cyc]; rw [if_pos q]
      rw [ec] at kk
      refine .go ?_ (kk (some (vI (x : Int))))
      rw [sg_X6_swapsTo_36]
      simp (disch := omega) only [↓reduceIte, i_le, i_nle, i_lt, i_nlt, i_eq, i_ne, and_self, and_true, true_and, and_false, false_and, or_true, true_or, or_false, false_or, nx_of, Int.toNat_natCast, Option.bind_some, rm_0, rm_1, rm_2, rm_3, rm_4, rm_5, rm_6, rm_7, rm_8, rm_9, rm_10, rm_11, rm_12, rm_13, rm_14, rm_15, rm_16, rm_17, rm_18, rm_19, rm_20, rm_21, rm_22, rm_23, rm_24, rm_25, rm_26, rm_27, rm_28, rm_29, um_0, um_1, um_2, um_3, um_4, um_5, um_6, um_7, um_8, um_9, um_10, um_11, um_12, um_13, um_14, um_15, um_16, um_17, um_18, um_19, um_20, um_21, um_22, um_23, um_24, um_25, um_26, um_27, um_28, um_29, rm_k, um_k, vu_at, vu_ne, ↓bd c1, c1]
    · rw [if_neg q] at c1
      have q' : met.testBit x = false := by
        cases z : met.testBit x with
        | false => rfl
        | true => exact absurd z q
      have ba := b_add met (by omega) x (by omega) q'
      have ec : cyc (wl V p) (f + 1) met x = cyc (wl V p) f (met ||| 2 ^ x) (gt (wl V p) x) := by simp only [cyc]; rw [if_neg q]
      rw [ec] at kk
      have w := wl_in hV hI hm hp h3
      have g := hp.2.1 x h3
      have hl := hp.1
      have r1 := hr x (by omega)
      have c2 := sq_whoHas (LS := LS) (n := n) hn (h := h) hV hI (x := ((gt p x : Nat) : Int)) (by omega)
      rw [w.1] at c2
      have p9 : (0 : Int) ≤ ((2 ^ x : Nat) : Int) := Int.natCast_nonneg _
      refine .go ?_ (ih (met ||| 2 ^ x) (gt (wl V p) x) (bo_lt2 h1 h3) w.2.1 (by omega) kk)
      rw [sg_X6_swapsTo_36]
      simp (disch := omega) only [↓reduceIte, i_le, i_nle, i_lt, i_nlt, i_eq, i_ne, and_self, and_true, true_and, and_false, false_and, or_true, true_or, or_false, false_or, nx_of, Int.toNat_natCast, Option.bind_some, rm_0, rm_1, rm_2, rm_3, rm_4, rm_5, rm_6, rm_7, rm_8, rm_9, rm_10, rm_11, rm_12, rm_13, rm_14, rm_15, rm_16, rm_17, rm_18, rm_19, rm_20, rm_21, rm_22, rm_23, rm_24, rm_25, rm_26, rm_27, rm_28, rm_29, um_0, um_1, um_2, um_3, um_4, um_5, um_6, um_7, um_8, um_9, um_10, um_11, um_12, um_13, um_14, um_15, um_16, um_17, um_18, um_19, um_20, um_21, um_22, um_23, um_24, um_25, um_26, um_27, um_28, um_29, rm_k, um_k, vu_at, vu_ne, ↓bd c1, ↓bd c2, c1, c2, r1, bp_z]
theorem lp_sw9 {LS : Int} {n : Nat} (hn : 1 ≤ n) {h : nl_H} {V : nl_O} {N : Int} {m : Nat} {p : List Nat} (hV : vok N V) (hI : vinj V) (hm : V 0 0 = (m : Int)) (hp : pm m p) (hr : ro V p) : ∀ (e i k met : Nat) (w : Option nl_V), i + e = m → met < 2 ^ m → e ≤ k → k ≤ 7 → nl_Rn LS cd_X6_swapsTo (nl_c LS n) ct_X6_swapsTo 1 9 [some (vO 6 0), some (vI (k : Int)), some (vI (met : Int)), some (vI (i : Int)), w] (sm h V) (((swO (wl V p) e i k met : Nat) : Int), sm h V) := by
  have h9 := hV.1
  have h2 := bm_le (show m ≤ 7 by omega)
  intro e
  induction e with
  | zero =>
    intro i k met w hi h1 h3 h4
    refine .ret ?_
    rw [sg_X6_swapsTo_9]
    simp only [swO]
    simp (disch := omega) only [↓reduceIte, i_le, i_nle, i_lt, i_nlt, i_eq, i_ne, and_self, and_true, true_and, and_false, false_and, or_true, true_or, or_false, false_or, nx_of, Int.toNat_natCast, Option.bind_some, rm_0, rm_1, rm_2, rm_3, rm_4, rm_5, rm_6, rm_7, rm_8, rm_9, rm_10, rm_11, rm_12, rm_13, rm_14, rm_15, rm_16, rm_17, rm_18, rm_19, rm_20, rm_21, rm_22, rm_23, rm_24, rm_25, rm_26, rm_27, rm_28, rm_29, um_0, um_1, um_2, um_3, um_4, um_5, um_6, um_7, um_8, um_9, um_10, um_11, um_12, um_13, um_14, um_15, um_16, um_17, um_18, um_19, um_20, um_21, um_22, um_23, um_24, um_25, um_26, um_27, um_28, um_29, rm_k, um_k, vu_at, vu_ne]
  | succ e ih =>
    intro i k met w hi h1 h3 h4
    have c1 := sq_has (LS := LS) (n := n) hn (h := sm h V) (S := met) (k := i) (by omega) (by omega)
    have cl := cyc_lt (s := wl V p) (fun a ha => (wl_in hV hI hm hp ha).2.1) 8 met i h1 (by omega)
    by_cases q : met.testBit i = true
    · rw [if_pos q] at c1
      have es : swO (wl V p) (e + 1) i k met = swO (wl V p) e (i + 1) k (cyc (wl V p) 8 met i) := by simp only [swO]; rw [if_pos q, Nat.sub_zero]
      rw [es]
      have k9 := lp_ring (LS := LS) hn (h := h) (n9 := (k : Int)) (i := i) (r := (((swO (wl V p) e (i + 1) k (cyc (wl V p) 8 met i) : Nat) : Int), sm h V)) hV hI hm hp hr 8 met i h1 (by omega) (by omega) fun w => ih (i + 1) k _ w (by omega) cl (by omega) h4
      refine .go ?_ k9
      rw [sg_X6_swapsTo_9]
      simp (disch := omega) only [↓reduceIte, i_le, i_nle, i_lt, i_nlt, i_eq, i_ne, and_self, and_true, true_and, and_false, false_and, or_true, true_or, or_false, false_or, nx_of, Int.toNat_natCast, Option.bind_some, rm_0, rm_1, rm_2, rm_3, rm_4, rm_5, rm_6, rm_7, rm_8, rm_9, rm_10, rm_11, rm_12, rm_13, rm_14, rm_15, rm_16, rm_17, rm_18, rm_19, rm_20, rm_21, rm_22, rm_23, rm_24, rm_25, rm_26, rm_27, rm_28, rm_29, um_0, um_1, um_2, um_3, um_4, um_5, um_6, um_7, um_8, um_9, um_10, um_11, um_12, um_13, um_14, um_15, um_16, um_17, um_18, um_19, um_20, um_21, um_22, um_23, um_24, um_25, um_26, um_27, um_28, um_29, rm_k, um_k, vu_at, vu_ne, ↓bd c1, c1, Int.sub_zero]
    · rw [if_neg q] at c1
      have es : swO (wl V p) (e + 1) i k met = swO (wl V p) e (i + 1) (k - 1) (cyc (wl V p) 8 met i) := by simp only [swO]; rw [if_neg q]
      rw [es]
      have ek : (k : Int) - 1 = ((k - 1 : Nat) : Int) := by omega
      have k9 := lp_ring (LS := LS) hn (h := h) (n9 := ((k - 1 : Nat) : Int)) (i := i) (r := (((swO (wl V p) e (i + 1) (k - 1) (cyc (wl V p) 8 met i) : Nat) : Int), sm h V)) hV hI hm hp hr 8 met i h1 (by omega) (by omega) fun w => ih (i + 1) (k - 1) _ w (by omega) cl (by omega) (by omega)
      refine .go ?_ k9
      rw [sg_X6_swapsTo_9]
      simp (disch := omega) only [↓reduceIte, i_le, i_nle, i_lt, i_nlt, i_eq, i_ne, and_self, and_true, true_and, and_false, false_and, or_true, true_or, or_false, false_or, nx_of, Int.toNat_natCast, Option.bind_some, rm_0, rm_1, rm_2, rm_3, rm_4, rm_5, rm_6, rm_7, rm_8, rm_9, rm_10, rm_11, rm_12, rm_13, rm_14, rm_15, rm_16, rm_17, rm_18, rm_19, rm_20, rm_21, rm_22, rm_23, rm_24, rm_25, rm_26, rm_27, rm_28, rm_29, um_0, um_1, um_2, um_3, um_4, um_5, um_6, um_7, um_8, um_9, um_10, um_11, um_12, um_13, um_14, um_15, um_16, um_17, um_18, um_19, um_20, um_21, um_22, um_23, um_24, um_25, um_26, um_27, um_28, um_29, rm_k, um_k, vu_at, vu_ne, ↓bd c1, c1, ek]
theorem sq_swapsTo {LS : Int} {n : Nat} (hn : 2 ≤ n) {h : nl_H} {V : nl_O} {N : Int} {m : Nat} {p : List Nat} (hV : vok N V) (hI : vinj V) (hm : V 0 0 = (m : Int)) (hp : pm m p) (hr : ro V p) : nl_c LS n m_X6_swapsTo [vO 6 0] (sm h V) = some (((swT m (wl V p) : Nat) : Int), sm h V) := by
  obtain ⟨n, rfl, hn1⟩ := nl_suc hn
  have h9 := hV.1
  have k9 := lp_sw9 (LS := LS) hn1 (h := h) hV hI hm hp hr m 0 m 0 none (by omega) (Nat.two_pow_pos m) (by omega) (by omega)
  refine cl_X6_swapsTo (.go ?_ k9)
  rw [sg_X6_swapsTo_0]
  simp (disch := omega) only [↓reduceIte, i_le, i_nle, i_lt, i_nlt, i_eq, i_ne, and_self, and_true, true_and, and_false, false_and, or_true, true_or, or_false, false_or, nx_of, Int.toNat_natCast, Option.bind_some, rm_0, rm_1, rm_2, rm_3, rm_4, rm_5, rm_6, rm_7, rm_8, rm_9, rm_10, rm_11, rm_12, rm_13, rm_14, rm_15, rm_16, rm_17, rm_18, rm_19, rm_20, rm_21, rm_22, rm_23, rm_24, rm_25, rm_26, rm_27, rm_28, rm_29, um_0, um_1, um_2, um_3, um_4, um_5, um_6, um_7, um_8, um_9, um_10, um_11, um_12, um_13, um_14, um_15, um_16, um_17, um_18, um_19, um_20, um_21, um_22, um_23, um_24, um_25, um_26, um_27, um_28, um_29, rm_k, um_k, vu_at, vu_ne, hm]
  rfl
theorem swO_le (s : List Nat) : ∀ (e i k met : Nat), swO s e i k met ≤ k := by
  intro e
  induction e with
  | zero => intro i k met; exact Nat.le_refl _
  | succ e ih => intro i k met; simp only [swO]; have := ih (i + 1) (k - (if met.testBit i = true then 0 else 1)) (cyc s 8 met i); omega
theorem swT_lt {m : Nat} (hm : 1 ≤ m) (s : List Nat) : swT m s < m := by
  unfold swT
  obtain ⟨d, rfl⟩ : ∃ d, m = d + 1 := ⟨m - 1, by omega⟩
  have := swO_le s d 1 d (cyc s 8 0 0)
  simp only [swO]
  rw [if_neg (by rw [Nat.zero_testBit]; exact Bool.false_ne_true), Nat.add_sub_cancel, Nat.zero_add]
  omega
/-- the model's look at all rows: the fewest swaps -/
def mS (V : nl_O) (m : Nat) : List (List Nat) → Int → Int
  | [], f => f
  | p :: r, f => mS V m r (if gB V 0 p = 0 then (if ((swT m (wl V p) : Nat) : Int) ≤ f then ((swT m (wl V p) : Nat) : Int) else f) else f)
def anS (f : Int) : Int := if f = 1048576 then -4 else f
theorem wl_veq {N : Int} {V W : nl_O} (hV : vok N V) (h : veq V W) (p : List Nat) : wl V p = wl W p := by
  unfold wl
  refine List.map_congr_left fun k _ => ?_
  rw [vWho_vq hV h]
theorem st_swaps {LS : Int} {n : Nat} (hn : 5 ≤ n) {h : nl_H} {V : nl_O} {N : Int} {m : Nat} {L : List (List Nat)} {p : List Nat} (hN : N ≤ 100000) (hV : vok N V) (hI : vinj V) (h0 : V 0 0 = (m : Int)) (hp : pm m p) (hp9 : rw9 m p)
    (A : ∀ W', ro W' p → sy W' V → ∃ mo W2, nl_c LS n m_X6_nextRow [vO 6 0] (sm h W') = some (mo, sm h W2) ∧ ∀ f : Int, (0 ≤ f ∧ f ≤ 1048576) → ∃ U, nl_Rn LS cd_X6_swaps (nl_c LS n) ct_X6_swaps 1 9 [some (vO 6 0), some (vI f), some (vI mo)] (sm h W2) (anS (mS V m L f), sm h U) ∧ sy U V)
    (W : nl_O) (f : Int) (hr : ro W p) (hW : sy W V) (hf : 0 ≤ f ∧ f ≤ 1048576) :
    ∃ U, nl_Rn LS cd_X6_swaps (nl_c LS n) ct_X6_swaps 1 9 [some (vO 6 0), some (vI f), some (vI 1)] (sm h W) (anS (mS V m (p :: L) f), sm h U) ∧ sy U V := by
  have h9 := hV.1
  have hm : 2 ≤ m ∧ m ≤ 7 := by omega
  have hp1 : p.length = m := hp.1
  have e0 : W 0 0 = (m : Int) := by rw [hW 0 0 (by omega) (by omega)]; exact h0
  have ve := sy_veq hW
  have hVW := vok_veq hV ve
  have gv := gB_veq hVW ve p 0 (by rw [e0, hp1]; omega) (fun k hk => by have := hp9.2 k hk; omega)
  have gl : ∀ i, i < p.length → gt p i < p.length := fun i hi => by rw [hp1]; exact hp.2.1 i (by omega)
  have c1 := sq_gapsBy (LS := LS) (n := n) hn (h := h) (V := W) hN hVW (by rw [e0, hp1]) hr gl
  have c2 := sq_swapsTo (LS := LS) (n := n) (by omega) (h := h) (V := W) hVW (vinj_veq hI ve) e0 hp hr
  rw [gv.1] at c1
  rw [wl_veq hVW ve] at c2
  have b1 := gB_le V p 0
  have b2 := swT_lt (show 1 ≤ m by omega) (wl V p)
  obtain ⟨mo, W2, c3, k3⟩ := A W hr hW
  by_cases q : gB V 0 p = 0
  · have c4 := sp_lesser (LS := LS) (n := n) (by omega) (h := sm h W) (a := f) (b := ((swT m (wl V p) : Nat) : Int)) ⟨by omega, by omega⟩ ⟨by omega, by omega⟩
    have em : mS V m (p :: L) f = mS V m L (if ((swT m (wl V p) : Nat) : Int) ≤ f then ((swT m (wl V p) : Nat) : Int) else f) := by simp only [mS]; rw [if_pos q]
    rw [em]
    generalize hg : (if ((swT m (wl V p) : Nat) : Int) ≤ f then ((swT m (wl V p) : Nat) : Int) else f) = g at c4 ⊢
    have hg2 : 0 ≤ g ∧ g ≤ 1048576 := by rw [← hg]; split <;> omega
    obtain ⟨U, k4, k5⟩ := k3 g hg2
    refine ⟨U, .go ?_ k4, k5⟩
    rw [sg_X6_swaps_9]
    simp (disch := omega) only [↓reduceIte, i_le, i_nle, i_lt, i_nlt, i_eq, i_ne, and_self, and_true, true_and, and_false, false_and, or_true, true_or, or_false, false_or, nx_of, Int.toNat_natCast, Option.bind_some, rm_0, rm_1, rm_2, rm_3, rm_4, rm_5, rm_6, rm_7, rm_8, rm_9, rm_10, rm_11, rm_12, rm_13, rm_14, rm_15, rm_16, rm_17, rm_18, rm_19, rm_20, rm_21, rm_22, rm_23, rm_24, rm_25, rm_26, rm_27, rm_28, rm_29, um_0, um_1, um_2, um_3, um_4, um_5, um_6, um_7, um_8, um_9, um_10, um_11, um_12, um_13, um_14, um_15, um_16, um_17, um_18, um_19, um_20, um_21, um_22, um_23, um_24, um_25, um_26, um_27, um_28, um_29, rm_k, um_k, vu_at, vu_ne, ↓bd c1, ↓bd c2, ↓bd c3, ↓bd c4, c1, c2, c3, c4]
  · have em : mS V m (p :: L) f = mS V m L f := by simp only [mS]; rw [if_neg q]
    rw [em]
    obtain ⟨U, k4, k5⟩ := k3 f hf
    refine ⟨U, .go ?_ k4, k5⟩
    rw [sg_X6_swaps_9]
    simp (disch := omega) only [↓reduceIte, i_le, i_nle, i_lt, i_nlt, i_eq, i_ne, and_self, and_true, true_and, and_false, false_and, or_true, true_or, or_false, false_or, nx_of, Int.toNat_natCast, Option.bind_some, rm_0, rm_1, rm_2, rm_3, rm_4, rm_5, rm_6, rm_7, rm_8, rm_9, rm_10, rm_11, rm_12, rm_13, rm_14, rm_15, rm_16, rm_17, rm_18, rm_19, rm_20, rm_21, rm_22, rm_23, rm_24, rm_25, rm_26, rm_27, rm_28, rm_29, um_0, um_1, um_2, um_3, um_4, um_5, um_6, um_7, um_8, um_9, um_10, um_11, um_12, um_13, um_14, um_15, um_16, um_17, um_18, um_19, um_20, um_21, um_22, um_23, um_24, um_25, um_26, um_27, um_28, um_29, rm_k, um_k, vu_at, vu_ne, ↓bd c1, ↓bd c3, c1, c3]
theorem ex_swaps {LS : Int} {den : nl_D} {h : nl_H} {W : nl_O} {f : Int} (hf : 0 ≤ f ∧ f ≤ 1048576) : nl_Rn LS cd_X6_swaps den ct_X6_swaps 1 9 [some (vO 6 0), some (vI f), some (vI 0)] (sm h W) (anS f, sm h W) := by
  refine .ret ?_
  rw [sg_X6_swaps_9]
  unfold anS
  by_cases q : f = 1048576
  · simp (disch := omega) only [↓reduceIte, i_le, i_nle, i_lt, i_nlt, i_eq, i_ne, and_self, and_true, true_and, and_false, false_and, or_true, true_or, or_false, false_or, nx_of, Int.toNat_natCast, Option.bind_some, rm_0, rm_1, rm_2, rm_3, rm_4, rm_5, rm_6, rm_7, rm_8, rm_9, rm_10, rm_11, rm_12, rm_13, rm_14, rm_15, rm_16, rm_17, rm_18, rm_19, rm_20, rm_21, rm_22, rm_23, rm_24, rm_25, rm_26, rm_27, rm_28, rm_29, um_0, um_1, um_2, um_3, um_4, um_5, um_6, um_7, um_8, um_9, um_10, um_11, um_12, um_13, um_14, um_15, um_16, um_17, um_18, um_19, um_20, um_21, um_22, um_23, um_24, um_25, um_26, um_27, um_28, um_29, rm_k, um_k, vu_at, vu_ne]
  · simp (disch := omega) only [↓reduceIte, i_le, i_nle, i_lt, i_nlt, i_eq, i_ne, and_self, and_true, true_and, and_false, false_and, or_true, true_or, or_false, false_or, nx_of, Int.toNat_natCast, Option.bind_some, rm_0, rm_1, rm_2, rm_3, rm_4, rm_5, rm_6, rm_7, rm_8, rm_9, rm_10, rm_11, rm_12, rm_13, rm_14, rm_15, rm_16, rm_17, rm_18, rm_19, rm_20, rm_21, rm_22, rm_23, rm_24, rm_25, rm_26, rm_27, rm_28, rm_29, um_0, um_1, um_2, um_3, um_4, um_5, um_6, um_7, um_8, um_9, um_10, um_11, um_12, um_13, um_14, um_15, um_16, um_17, um_18, um_19, um_20, um_21, um_22, um_23, um_24, um_25, um_26, um_27, um_28, um_29, rm_k, um_k, vu_at, vu_ne]
theorem lp_swaps {LS : Int} {n : Nat} (hn : 5 ≤ n) {h : nl_H} {V : nl_O} {N : Int} {m : Nat} (hN : N ≤ 100000) (hV : vok N V) (hI : vinj V) (h0 : V 0 0 = (m : Int)) : ∀ (L : List (List Nat)) (p : List Nat) (W : nl_O) (f : Int), chL m (p :: L) = true → (∀ q, q ∈ p :: L → pm m q ∧ rw9 m q) → ro W p → sy W V → (0 ≤ f ∧ f ≤ 1048576) →
    ∃ U, nl_Rn LS cd_X6_swaps (nl_c LS n) ct_X6_swaps 1 9 [some (vO 6 0), some (vI f), some (vI 1)] (sm h W) (anS (mS V m (p :: L) f), sm h U) ∧ sy U V := by
  have h9 := hV.1
  have hm : 2 ≤ m ∧ m ≤ 7 := by omega
  have hW0 : ∀ W, sy W V → W 0 0 = (m : Int) := fun W h => by rw [h 0 0 (by omega) (by omega)]; exact h0
  intro L
  induction L with
  | nil =>
    intro p W f hc hq hr hW hf
    obtain ⟨hp, hp9⟩ := hq p List.mem_cons_self
    have hp1 : p.length = m := hp.1
    have hnx : nx m p = none := by
      simp only [chL] at hc
      exact Option.isNone_iff_eq_none.mp hc
    refine st_swaps hn hN hV hI h0 hp hp9 (fun W' hr' hW' => ⟨0, W', ?_, fun g hg => ⟨W', ex_swaps hg, hW'⟩⟩) W f hr hW hf
    exact (sq_nextRow (LS := LS) (n := n) (by omega) (h := h) hm (hW0 W' hW') hp1 hr' (fun i hi => by have := hp.2.1 i hi; omega)).1 hnx
  | cons p2 L ih =>
    intro p W f hc hq hr hW hf
    obtain ⟨hp, hp9⟩ := hq p List.mem_cons_self
    have hp1 : p.length = m := hp.1
    simp only [chL, Bool.and_eq_true] at hc
    obtain ⟨hc1, hc2⟩ := hc
    have hnx : nx m p = some p2 := by
      cases hz : nx m p with
      | none => rw [hz] at hc1; cases hc1
      | some c =>
        rw [hz] at hc1
        rw [eqL_eq c p2 hc1]
    refine st_swaps hn hN hV hI h0 hp hp9 (fun W' hr' hW' => ?_) W f hr hW hf
    obtain ⟨W2, c, r2, s2⟩ := (sq_nextRow (LS := LS) (n := n) (by omega) (h := h) hm (hW0 W' hW') hp1 hr' (fun i hi => by have := hp.2.1 i hi; omega)).2 p2 hnx
    exact ⟨1, W2, c, fun g hg => ih p2 W2 g hc2 (fun q hq' => hq q (List.mem_cons_of_mem _ hq')) r2 (sy_sx (.inl rfl) s2 hW') hg⟩
theorem sq_swaps {LS : Int} {n : Nat} (hn : 6 ≤ n) {h : nl_H} {V : nl_O} {N : Int} (hN : N ≤ 100000) (hV : vok N V) (hI : vinj V) : ∃ U, nl_c LS n m_X6_swaps [vO 6 0] (sm h V) = some (anS (mS V (vN V) (PL (vN V) (vN V) 0) 1048576), sm h U) ∧ ms U V := by
  obtain ⟨n, rfl, hn1⟩ := nl_suc hn
  have h9 := hV.1
  have e := vN_eq hV
  have hm : 2 ≤ vN V ∧ vN V ≤ 7 := by omega
  obtain ⟨W, c2, r2, s2⟩ := sq_firstRow (LS := LS) (n := n) (by omega) (h := h) (V := V) hm.2 e.symm
  have hW : sy W V := sy_sx (.inl rfl) s2 (fun _ _ _ _ => rfl)
  obtain ⟨L, hL⟩ := PL_hd hm
  have ch := (ch_all hm).1
  rw [hL] at ch ⊢
  obtain ⟨U, k9, k8⟩ := lp_swaps (LS := LS) hn1 (h := h) (V := V) hN hV hI e.symm L (List.range (vN V)) W 1048576 ch (fun q hq => ⟨PL_pm (by rw [hL]; exact hq), rw9_PL (by rw [hL]; exact hq)⟩) r2 hW ⟨by omega, by omega⟩
  refine ⟨U, cl_X6_swaps (.go ?_ k9), sy_ms k8⟩
  rw [sg_X6_swaps_0]
  simp (disch := omega) only [↓reduceIte, i_le, i_nle, i_lt, i_nlt, i_eq, i_ne, and_self, and_true, true_and, and_false, false_and, or_true, true_or, or_false, false_or, nx_of, Int.toNat_natCast, Option.bind_some, rm_0, rm_1, rm_2, rm_3, rm_4, rm_5, rm_6, rm_7, rm_8, rm_9, rm_10, rm_11, rm_12, rm_13, rm_14, rm_15, rm_16, rm_17, rm_18, rm_19, rm_20, rm_21, rm_22, rm_23, rm_24, rm_25, rm_26, rm_27, rm_28, rm_29, um_0, um_1, um_2, um_3, um_4, um_5, um_6, um_7, um_8, um_9, um_10, um_11, um_12, um_13, um_14, um_15, um_16, um_17, um_18, um_19, um_20, um_21, um_22, um_23, um_24, um_25, um_26, um_27, um_28, um_29, rm_k, um_k, vu_at, vu_ne, ↓bd c2, c2]
