/-! Both answer alike: swaps. -/
theorem gB_0 {V : nl_O} : ∀ (p : List Nat) (i : Nat), gB V i p = 0 ↔ ∀ a, a < p.length → vHv V (i + a) (gt p a) ≤ V 5 (i + a) - V 7 (i + a) := by
  intro p
  induction p with
  | nil => intro i; exact ⟨fun _ a h => by simp only [List.length_nil] at h; omega, fun _ => rfl⟩
  | cons k r ih =>
    intro i
    simp only [gB]
    have k9 := ih (i + 1)
    by_cases q : vHv V i k ≤ V 5 i - V 7 i
    · rw [if_pos q, Nat.zero_add, k9]
      constructor
      · intro h a ha
        simp only [List.length_cons] at ha
        cases a with
        | zero => exact q
        | succ a =>
          have := h a (by omega)
          rw [show i + 1 + a = i + (a + 1) by omega] at this
          exact this
      · intro h a ha
        have := h (a + 1) (by simp only [List.length_cons]; omega)
        rw [show i + (a + 1) = i + 1 + a by omega] at this
        exact this
    · rw [if_neg q]
      constructor
      · intro h; omega
      · intro h
        exact absurd (h 0 (by simp only [List.length_cons]; omega)) q
theorem mS_is {V : nl_O} {m : Nat} : ∀ (L : List (List Nat)) (f : Int), mS V m L f ≤ f ∧ (∀ p, p ∈ L → gB V 0 p = 0 → mS V m L f ≤ ((swT m (wl V p) : Nat) : Int)) ∧ (mS V m L f = f ∨ ∃ p, p ∈ L ∧ gB V 0 p = 0 ∧ mS V m L f = ((swT m (wl V p) : Nat) : Int)) := by
  intro L
  induction L with
  | nil => intro f; exact ⟨Int.le_refl _, fun p hp => (by cases hp), .inl rfl⟩
  | cons p L ih =>
    intro f
    by_cases q : gB V 0 p = 0
    · have em : mS V m (p :: L) f = mS V m L (if ((swT m (wl V p) : Nat) : Int) ≤ f then ((swT m (wl V p) : Nat) : Int) else f) := by simp only [mS]; rw [if_pos q]
      rw [em]
      generalize hg : (if ((swT m (wl V p) : Nat) : Int) ≤ f then ((swT m (wl V p) : Nat) : Int) else f) = g
      have g1 : g ≤ f ∧ g ≤ ((swT m (wl V p) : Nat) : Int) ∧ (g = f ∨ g = ((swT m (wl V p) : Nat) : Int)) := by
        rw [← hg]; split <;> omega
      obtain ⟨a, b, c⟩ := ih g
      refine ⟨by omega, fun r hr h0 => ?_, ?_⟩
      · rcases List.mem_cons.mp hr with z | z
        · subst z; omega
        · exact b r z h0
      · rcases c with c | ⟨r, r1, r2, r3⟩
        · rcases g1.2.2 with z | z
          · exact .inl (by omega)
          · exact .inr ⟨p, List.mem_cons_self, q, by omega⟩
        · exact .inr ⟨r, List.mem_cons_of_mem _ r1, r2, r3⟩
    · have em : mS V m (p :: L) f = mS V m L f := by simp only [mS]; rw [if_neg q]
      rw [em]
      obtain ⟨a, b, c⟩ := ih f
      refine ⟨a, fun r hr h0 => ?_, ?_⟩
      · rcases List.mem_cons.mp hr with z | z
        · subst z; exact absurd h0 q
        · exact b r z h0
      · rcases c with c | ⟨r, r1, r2, r3⟩
        · exact .inl c
        · exact .inr ⟨r, List.mem_cons_of_mem _ r1, r2, r3⟩
theorem fS_is {D : nl_O} {m k : Nat} (hk : cB m 0 D k = true) (hl : ∀ q, q < k → cB m 0 D q ≠ true) : ∀ (e q : Nat), q ≤ k → k < q + e → fS D m e q = (k : Int) := by
  intro e
  induction e with
  | zero => intro q h1 h2; omega
  | succ e ih =>
    intro q h1 h2
    simp only [fS]
    by_cases z : q = k
    · subst z; rw [if_pos hk]
    · rw [if_neg (hl q (by omega))]
      exact ih (q + 1) (by omega) (by omega)
/-- exchanging bridges with q swaps, if a row without a gap is q swaps away -/
theorem cB_is {N : Int} {D V : nl_O} {m q : Nat} (hV : vok N V) (hI : vinj V) (hm : V 0 0 = (m : Int)) (hD : dv D V m (List.range m)) : cB m 0 D q = true ↔ ∃ p, p ∈ PL m m 0 ∧ gB V 0 p = 0 ∧ swT m (wl V p) ≤ q := by
  have h9 := hV.1
  have hm2 : 2 ≤ m ∧ m ≤ 7 := by omega
  constructor
  · intro h
    obtain ⟨s, s1, -, s3, s4⟩ := cB_to hV hm m 0 q 0 D (List.range m) (by omega) hD (pm_range m) (ct_all hm2) h
    have sl := s1.1
    have b8 : ∀ a, a < m → 0 ≤ V 8 (gt s a) ∧ V 8 (gt s a) < (m : Int) := fun a ha => by
      have := (hV.2.2.2.1 (gt s a) (by have := s1.2.1 a ha; omega)).2.2.2.2.2.1
      omega
    have gp : ∀ a, a < m → gt (s.map fun x => (V 8 x).toNat) a = (V 8 (gt s a)).toNat := fun a ha => gt_map _ s a (by omega)
    have pp : pm m (s.map fun x => (V 8 x).toNat) := by
      refine ⟨by rw [List.length_map]; exact sl, fun a ha => ?_, fun a b ha hb e => ?_⟩
      · rw [gp a ha]; have := b8 a ha; omega
      · rw [gp a ha, gp b hb] at e
        have c1 := b8 a ha
        have c2 := b8 b hb
        exact s1.2.2 a b ha hb (hI _ _ (by have := s1.2.1 a ha; omega) (by have := s1.2.1 b hb; omega) (by omega))
    have pl := pp.1
    have ew : wl V (s.map fun x => (V 8 x).toNat) = s := by
      refine gt_ext _ _ (by unfold wl; rw [List.length_map, List.length_map]) fun a ha => ?_
      have ha' : a < m := by unfold wl at ha; rw [List.length_map, List.length_map] at ha; omega
      have w := wl_in hV hI hm pp ha'
      have c1 := b8 a ha'
      have g1 := s1.2.1 a ha'
      refine hI _ _ (by have := w.2.1; omega) (by omega) ?_
      rw [w.2.2, gp a ha']
      omega
    refine ⟨_, pm_PL pp, (gB_0 _ 0).mpr fun a ha => ?_, by rw [ew]; omega⟩
    have ha' : a < m := by omega
    have := s3 a (by omega) ha'
    unfold kp at this
    rw [Nat.zero_add, gp a ha']
    exact this
  · rintro ⟨p, p1, p2, p3⟩
    have pp := PL_pm p1
    have pl := pp.1
    have ps : pm m (wl V p) := by
      refine ⟨by unfold wl; rw [List.length_map]; exact pl, fun a ha => (wl_in hV hI hm pp ha).2.1, fun a b ha hb e => ?_⟩
      have w1 := (wl_in hV hI hm pp ha).2.2
      have w2 := (wl_in hV hI hm pp hb).2.2
      rw [e] at w1
      exact pp.2.2 a b ha hb (by omega)
    refine cB_of hV hm m 0 q 0 D (List.range m) (wl V p) (by omega) hD (pm_range m) ps (fun a ha => by omega) (fun a h1 h2 => ?_) (ct_all hm2) (by omega)
    have := (gB_0 p 0).mp p2 a (by omega)
    rw [Nat.zero_add] at this
    unfold kp
    rw [(wl_in hV hI hm pp h2).2.2, Int.toNat_natCast]
    exact this
theorem fl_is {V : nl_O} {i : Nat} : ∀ (L : List (List Nat)) (a : Int × List Nat), (fl V i a L).1 ≤ a.1 ∧ (∀ p, p ∈ L → (fl V i a L).1 ≤ cs V i p) ∧ (fl V i a L = a ∨ ∃ p, p ∈ L ∧ fl V i a L = (cs V i p, p)) := by
  intro L
  induction L with
  | nil => intro a; exact ⟨Int.le_refl _, fun p hp => (by cases hp), .inl rfl⟩
  | cons x L ih =>
    intro a
    have e : fl V i a (x :: L) = fl V i (stp a (cs V i x, x)) L := rfl
    rw [e]
    obtain ⟨b1, b2, b3⟩ := ih (stp a (cs V i x, x))
    by_cases q : cs V i x < a.1
    · have es : stp a (cs V i x, x) = (cs V i x, x) := by unfold stp; rw [if_pos q]
      rw [es] at b1 b2 b3 ⊢
      refine ⟨by dsimp only at b1; omega, fun p hp => ?_, ?_⟩
      · rcases List.mem_cons.mp hp with z | z
        · subst z; exact b1
        · exact b2 p z
      · rcases b3 with z | ⟨p, z1, z2⟩
        · exact .inr ⟨x, List.mem_cons_self, z⟩
        · exact .inr ⟨p, List.mem_cons_of_mem _ z1, z2⟩
    · have es : stp a (cs V i x, x) = a := by unfold stp; rw [if_neg q]
      rw [es] at b1 b2 b3 ⊢
      refine ⟨b1, fun p hp => ?_, ?_⟩
      · rcases List.mem_cons.mp hp with z | z
        · subst z; omega
        · exact b2 p z
      · rcases b3 with z | ⟨p, z1, z2⟩
        · exact .inl z
        · exact .inr ⟨p, List.mem_cons_of_mem _ z1, z2⟩
/-- the best row has no gap, if one has none -/
theorem best_0 {N : Int} {V : nl_O} {m : Nat} (hV : vok N V) (hm : V 0 0 = (m : Int)) : gB V 0 (pA V m m 0).2 = 0 ↔ ∃ p, p ∈ PL m m 0 ∧ gB V 0 p = 0 := by
  have h9 := hV.1
  have f := fl_PL hV hm m 0 (Nat.two_pow_pos m) (by unfold bN; omega)
  rw [Nat.sub_self] at f
  have w : ∀ p, p ∈ PL m m 0 → 0 ≤ sW V 0 p ∧ sW V 0 p ≤ 280 := fun p hp => by
    have r := rw9_PL hp
    have := sW_in hV p 0 fun k hk => by have := r.2 k hk; omega
    have := r.1
    omega
  obtain ⟨b, hb, e⟩ := (pA_le hV hm m 0 (Nat.two_pow_pos m) (by unfold bN; omega)).2
  rw [e]
  constructor
  · intro h; exact ⟨b, hb, h⟩
  · rintro ⟨p, p1, p2⟩
    obtain ⟨f1, f2, f3⟩ := fl_is (V := V) (i := 0) (PL m m 0) (8000, [])
    rw [f] at f1 f2 f3
    have c1 := f2 p p1
    have c2 := cs_eq (V := V) p 0
    have c3 := cs_eq (V := V) b 0
    have w1 := w p p1
    have w2 := w b hb
    rcases f3 with z | ⟨r, r1, r2⟩
    · have := congrArg Prod.fst z
      dsimp only at this
      omega
    · have z1 : (pA V m m 0).1 = cs V 0 r := congrArg Prod.fst r2
      have z2 : (pA V m m 0).2 = r := congrArg Prod.snd r2
      rw [e] at z2
      subst z2
      omega
theorem mS_veq {N : Int} {V W : nl_O} {m : Nat} (hV : vok N V) (h : veq V W) (hm : V 0 0 = (m : Int)) : ∀ (L : List (List Nat)) (f : Int), (∀ p, p ∈ L → rw9 m p) → mS V m L f = mS W m L f := by
  intro L
  induction L with
  | nil => intro f _; rfl
  | cons p L ih =>
    intro f hL
    have r := hL p List.mem_cons_self
    have rl := r.1
    simp only [mS]
    rw [(gB_veq hV h p 0 (by omega) (fun k hk => by have := r.2 k hk; omega)).1, wl_veq hV h, ih _ fun q hq => hL q (List.mem_cons_of_mem _ hq)]
theorem ag_swaps {LS : Int} {n : Nat} (hn : 20 ≤ n) {g : nl_H} (r : rg g) : ag LS n m_X5_swaps m_X6_swaps [] g := by
  have hV := vgd_N r.1
  have hI := r.1.2.1
  have a2 := r.2.1
  have hW := vok_veq hV a2
  have hJ := vinj_veq hI a2
  have e := vN_eq hW
  have h9 := hW.1
  obtain ⟨D, c⟩ := pu_swaps (LS := LS) (n := n) (by omega) (h := g) (by omega) hW
  obtain ⟨U, m, s⟩ := sq_swaps (LS := LS) (n := n) (by omega) (h := so g 0 0 D) (V := mv (g 6 0)) (by omega) hV hI
  refine ag_of rfl c (so_ne (by omega)) m ?_ (rl_ms (rl_so r (by omega)) s)
  have eN := vN_veq a2
  rw [← eN, ← mS_veq hW a2 e.symm _ _ (fun p hp => rw9_PL hp)]
  have dc := (dC_is (D := g 0 0) hW e.symm).2
  have b0 := best_0 hW e.symm
  have dvv : dv (dL (dC (g 0 0) (g 4 0)) (g 4 0) (vN (g 4 0)) 0) (g 4 0) (vN (g 4 0)) (List.range (vN (g 4 0))) := by
    refine ⟨fun a ha => ?_, fun a ha => ?_⟩
    · rw [dL_v _ 0 _ a (by omega) (by omega), gt_range _ a ha]
    · rw [dL_k _ 0 _ 3 a (.inl (by omega)), dC_3 _ _ ha]
  obtain ⟨x1, x2, x3⟩ := mS_is (V := g 4 0) (m := vN (g 4 0)) (PL (vN (g 4 0)) (vN (g 4 0)) 0) 1048576
  by_cases q : ∃ p, p ∈ PL (vN (g 4 0)) (vN (g 4 0)) 0 ∧ gB (g 4 0) 0 p = 0
  · have d0 : dC (g 0 0) (g 4 0) 5 0 ≤ 0 := by rw [dc, b0.mpr q]; omega
    rw [if_pos d0]
    obtain ⟨p, p1, p2⟩ := q
    have y := x2 p p1 p2
    have yl := swT_lt (show 1 ≤ vN (g 4 0) by omega) (wl (g 4 0) p)
    rcases x3 with z | ⟨p9, z1, z2, z3⟩
    · exfalso; omega
    · rw [z3]
      have zl := swT_lt (show 1 ≤ vN (g 4 0) by omega) (wl (g 4 0) p9)
      have k1 : cB (vN (g 4 0)) 0 (dL (dC (g 0 0) (g 4 0)) (g 4 0) (vN (g 4 0)) 0) (swT (vN (g 4 0)) (wl (g 4 0) p9)) = true := (cB_is hW hJ e.symm dvv).mpr ⟨p9, z1, z2, Nat.le_refl _⟩
      have k2 : ∀ q, q < swT (vN (g 4 0)) (wl (g 4 0) p9) → cB (vN (g 4 0)) 0 (dL (dC (g 0 0) (g 4 0)) (g 4 0) (vN (g 4 0)) 0) q ≠ true := fun q hq h => by
        obtain ⟨p', h1, h2, h3⟩ := (cB_is hW hJ e.symm dvv).mp h
        have := x2 p' h1 h2
        omega
      rw [fS_is k1 k2 (vN (g 4 0)) 0 (by omega) (by omega)]
      unfold anS
      rw [if_neg (by omega)]
  · have d0 : ¬ dC (g 0 0) (g 4 0) 5 0 ≤ 0 := by
      rw [dc]
      have : gB (g 4 0) 0 (pA (g 4 0) (vN (g 4 0)) (vN (g 4 0)) 0).2 ≠ 0 := fun z => q (b0.mp z)
      omega
    rw [if_neg d0]
    rcases x3 with z | ⟨p9, z1, z2, z3⟩
    · unfold anS
      rw [if_pos z]
    · exact absurd ⟨p9, z1, z2⟩ q
