/-! Swaps: rings, and the way of exchanging house by house. -/
/-- the houses met from 'at' on -/
def cyc (s : List Nat) : Nat → Nat → Nat → Nat
  | 0, met, _ => met
  | f + 1, met, x => if met.testBit x = true then met else cyc s f (met ||| 2 ^ x) (gt s x)
/-- houses less rings: e houses from i on -/
def swO (s : List Nat) : Nat → Nat → Nat → Nat → Nat
  | 0, _, n, _ => n
  | e + 1, i, n, met => swO s e (i + 1) (n - (if met.testBit i = true then 0 else 1)) (cyc s 8 met i)
def swT (m : Nat) (s : List Nat) : Nat := swO s m 0 m 0
def isRb (m : Nat) : Nat → List Nat → Bool
  | _, [] => true
  | S, k :: r => Nat.blt k m && !(S.testBit k) && isRb m (S ||| 2 ^ k) r
theorem isRb_is {m : Nat} : ∀ (p : List Nat) (S : Nat), isRb m S p = true → isR m S p := by
  intro p
  induction p with
  | nil => intro S _; trivial
  | cons k r ih =>
    intro S h
    simp only [isRb, Bool.and_eq_true, Bool.not_eq_true'] at h
    exact ⟨Nat.blt_eq.mp h.1.1, h.1.2, ih _ h.2⟩
def chTo (f : Nat → Bool) : Nat → Nat → Bool
  | 0, _ => true
  | e + 1, j => f j && chTo f e (j + 1)
/-- every way of exchanging, from house i on, d houses left: as many exchanges as houses less rings -/
def chT (m : Nat) : Nat → Nat → List Nat → Nat → Bool
  | 0, _, cur, cnt => Nat.beq (swT m cur) cnt && isRb m 0 cur && Nat.beq cur.length m
  | d + 1, i, cur, cnt => chTo (fun j => chT m d (i + 1) (gsw cur i j) (if j = i then cnt else cnt + 1)) (d + 1) i
set_option maxRecDepth 100000 in
theorem ct_2 : chT 2 2 0 (List.range 2) 0 = true := by decide +kernel
set_option maxRecDepth 100000 in
theorem ct_3 : chT 3 3 0 (List.range 3) 0 = true := by decide +kernel
set_option maxRecDepth 100000 in
theorem ct_4 : chT 4 4 0 (List.range 4) 0 = true := by decide +kernel
set_option maxRecDepth 100000 in
theorem ct_5 : chT 5 5 0 (List.range 5) 0 = true := by decide +kernel
set_option maxRecDepth 100000 in
theorem ct_6 : chT 6 6 0 (List.range 6) 0 = true := by decide +kernel
set_option maxRecDepth 100000 in
theorem ct_7 : chT 7 7 0 (List.range 7) 0 = true := by decide +kernel
theorem ct_all {m : Nat} (h : 2 ≤ m ∧ m ≤ 7) : chT m m 0 (List.range m) 0 = true := by
  rcases (show m = 2 ∨ m = 3 ∨ m = 4 ∨ m = 5 ∨ m = 6 ∨ m = 7 by omega) with rfl | rfl | rfl | rfl | rfl | rfl
  · exact ct_2
  · exact ct_3
  · exact ct_4
  · exact ct_5
  · exact ct_6
  · exact ct_7
theorem chTo_at {f : Nat → Bool} : ∀ (e j : Nat), chTo f e j = true → ∀ k, j ≤ k → k < j + e → f k = true := by
  intro e
  induction e with
  | zero => intro j _ k h1 h2; omega
  | succ e ih =>
    intro j h k h1 h2
    simp only [chTo, Bool.and_eq_true] at h
    by_cases q : k = j
    · subst q; exact h.1
    · exact ih (j + 1) h.2 k (by omega) (by omega)
theorem chT_s {m d i cnt : Nat} {cur : List Nat} (h : chT m (d + 1) i cur cnt = true) {j : Nat} (h1 : i ≤ j) (h2 : j < i + (d + 1)) : chT m d (i + 1) (gsw cur i j) (if j = i then cnt else cnt + 1) = true := chTo_at (d + 1) i h j h1 h2
theorem isR_not {m : Nat} : ∀ (p : List Nat) (S : Nat), isR m S p → ∀ a, a < p.length → S.testBit (gt p a) = false := by
  intro p
  induction p with
  | nil => intro S _ a ha; simp only [List.length_nil] at ha; omega
  | cons k r ih =>
    intro S h a ha
    simp only [List.length_cons] at ha
    cases a with
    | zero => exact h.2.1
    | succ a =>
      have := ih _ h.2.2 a (by omega)
      rw [Nat.testBit_or] at this
      show S.testBit (gt r a) = false
      cases q : S.testBit (gt r a) with
      | false => rfl
      | true => rw [q] at this; cases this
theorem isR_inj {m : Nat} : ∀ (p : List Nat) (S : Nat), isR m S p → ∀ a b, a < p.length → b < p.length → gt p a = gt p b → a = b := by
  intro p
  induction p with
  | nil => intro S _ a b ha; simp only [List.length_nil] at ha; omega
  | cons k r ih =>
    intro S h a b ha hb e
    simp only [List.length_cons] at ha hb
    have nb : ∀ c, c < r.length → gt r c ≠ k := fun c hc z => by
      have := isR_not r _ h.2.2 c hc
      rw [z, Nat.testBit_or, Nat.testBit_two_pow] at this
      simp at this
    cases a with
    | zero =>
      cases b with
      | zero => rfl
      | succ b => exact absurd e.symm (nb b (by omega))
    | succ a =>
      cases b with
      | zero => exact absurd e (nb a (by omega))
      | succ b => rw [ih _ h.2.2 a b (by omega) (by omega) e]
theorem isR_of {m : Nat} : ∀ (p : List Nat) (S : Nat), (∀ a, a < p.length → gt p a < m ∧ S.testBit (gt p a) = false) → (∀ a b, a < p.length → b < p.length → gt p a = gt p b → a = b) → isR m S p := by
  intro p
  induction p with
  | nil => intro S _ _; trivial
  | cons k r ih =>
    intro S h1 h2
    have h0 := h1 0 (by simp only [List.length_cons]; omega)
    refine ⟨h0.1, h0.2, ih _ (fun a ha => ?_) fun a b ha hb e => ?_⟩
    · have := h1 (a + 1) (by simp only [List.length_cons]; omega)
      refine ⟨this.1, ?_⟩
      rw [Nat.testBit_or, Nat.testBit_two_pow]
      have n2 : S.testBit (gt r a) = false := this.2
      rw [n2]
      cases q : decide (k = gt r a) with
      | false => rfl
      | true =>
        have e := of_decide_eq_true q
        have := h2 0 (a + 1) (by simp only [List.length_cons]; omega) (by simp only [List.length_cons]; omega) e
        omega
    · have := h2 (a + 1) (b + 1) (by simp only [List.length_cons]; omega) (by simp only [List.length_cons]; omega) e
      omega
/-- a row of all m -/
def pm (m : Nat) (p : List Nat) : Prop := p.length = m ∧ (∀ a, a < m → gt p a < m) ∧ ∀ a b, a < m → b < m → gt p a = gt p b → a = b
theorem pm_R {m : Nat} {p : List Nat} (hl : p.length = m) (h : isR m 0 p) : pm m p := ⟨hl, fun a ha => isR_lt p 0 h a (by omega), fun a b ha hb e => isR_inj p 0 h a b (by omega) (by omega) e⟩
theorem pm_PL {m : Nat} {p : List Nat} (h : pm m p) : p ∈ PL m m 0 := (mem_PL m 0 p).mpr ⟨h.1, isR_of p 0 (fun a ha => ⟨h.2.1 a (by rw [← h.1]; exact ha), Nat.zero_testBit _⟩) fun a b ha hb e => h.2.2 a b (by rw [← h.1]; exact ha) (by rw [← h.1]; exact hb) e⟩
theorem PL_pm {m : Nat} {p : List Nat} (h : p ∈ PL m m 0) : pm m p := by
  have := (mem_PL m 0 p).mp h
  exact pm_R this.1 this.2
theorem pm_sw {m i j : Nat} {p : List Nat} (h : pm m p) (hi : i < m) (hj : j < m) : pm m (gsw p i j) := by
  obtain ⟨h1, h2, h3⟩ := h
  refine ⟨by rw [gsw_len]; exact h1, fun a ha => ?_, fun a b ha hb e => ?_⟩
  · rw [gt_sw (by omega) (by omega)]
    split
    · exact h2 i hi
    · split
      · exact h2 j hj
      · exact h2 a ha
  · rw [gt_sw (by omega) (by omega), gt_sw (by omega) (by omega)] at e
    by_cases a1 : a = j <;> by_cases b1 : b = j
    · omega
    · rw [if_pos a1, if_neg b1] at e
      by_cases b2 : b = i
      · rw [if_pos b2] at e
        have := h3 i j hi hj e
        omega
      · rw [if_neg b2] at e
        have := h3 i b hi hb e
        omega
    · rw [if_neg a1, if_pos b1] at e
      by_cases a2 : a = i
      · rw [if_pos a2] at e
        have := h3 j i hj hi e
        omega
      · rw [if_neg a2] at e
        have := h3 a i ha hi e
        omega
    · rw [if_neg a1, if_neg b1] at e
      by_cases a2 : a = i <;> by_cases b2 : b = i
      · omega
      · rw [if_pos a2, if_neg b2] at e
        have := h3 j b hj hb e
        omega
      · rw [if_neg a2, if_pos b2] at e
        have := h3 a j ha hj e
        omega
      · rw [if_neg a2, if_neg b2] at e
        exact h3 a b ha hb e
theorem pm_range (m : Nat) : pm m (List.range m) := by
  refine ⟨List.length_range, fun a ha => by rw [gt_range m a ha]; exact ha, fun a b ha hb e => ?_⟩
  rw [gt_range m a ha, gt_range m b hb] at e
  exact e
theorem gt_ext : ∀ (p q : List Nat), p.length = q.length → (∀ a, a < p.length → gt p a = gt q a) → p = q := by
  intro p
  induction p with
  | nil => intro q h _; cases q with
    | nil => rfl
    | cons y s => simp only [List.length_nil, List.length_cons] at h; omega
  | cons x r ih => intro q h e; cases q with
    | nil => simp only [List.length_nil, List.length_cons] at h; omega
    | cons y s =>
      simp only [List.length_cons] at h
      have e0 : x = y := e 0 (by simp only [List.length_cons]; omega)
      rw [e0, ih s (by omega) fun a ha => e (a + 1) (by simp only [List.length_cons]; omega)]
/-- the place of a house's goal behind those done -/
theorem pm_find {m i : Nat} {cur s : List Nat} (hc : pm m cur) (hs : pm m s) (hi : i < m) (ha : ∀ a, a < i → gt cur a = gt s a) : ∃ j, i ≤ j ∧ j < m ∧ gt cur j = gt s i := by
  obtain ⟨j, j1, j2⟩ := pig m (gt cur) hc.2.1 hc.2.2 (gt s i) (hs.2.1 i hi)
  refine ⟨j, ?_, j1, j2⟩
  by_cases q : j < i
  · have := ha j q
    have := hs.2.2 j i j1 hi (by omega)
    omega
  · omega
theorem gsw_agree {m i j : Nat} {cur s : List Nat} (hc : pm m cur) (hi : i < m) (hj : i ≤ j ∧ j < m) (ha : ∀ a, a < i → gt cur a = gt s a) (e : gt cur j = gt s i) : ∀ a, a < i + 1 → gt (gsw cur i j) a = gt s a := by
  intro a h
  have hl := hc.1
  rw [gt_sw (by omega) (by omega)]
  by_cases q : a = i
  · subst q
    by_cases p : a = j
    · rw [if_pos p]; rw [← p] at e; exact e
    · rw [if_neg p, if_pos rfl]; exact e
  · rw [if_neg (by omega), if_neg q]; exact ha a (by omega)
theorem chT_ge {m : Nat} : ∀ (d i cnt : Nat) (cur s : List Nat), i + d = m → chT m d i cur cnt = true → pm m cur → pm m s → (∀ a, a < i → gt cur a = gt s a) → cnt ≤ swT m s := by
  intro d
  induction d with
  | zero =>
    intro i cnt cur s hi h hc hs ha
    obtain rfl : i = m := by omega
    have e := gt_ext cur s (by rw [hc.1, hs.1]) fun a h => ha a (by rw [← hc.1]; exact h)
    simp only [chT, Bool.and_eq_true] at h
    have := Nat.eq_of_beq_eq_true h.1.1
    rw [← e]
    omega
  | succ d ih =>
    intro i cnt cur s hi h hc hs ha
    obtain ⟨j, j1, j2, j3⟩ := pm_find hc hs (show i < m by omega) ha
    have k9 := ih (i + 1) _ _ s (by omega) (chT_s h j1 (by omega)) (pm_sw hc (by omega) j2) hs (gsw_agree hc (by omega) ⟨j1, j2⟩ ha j3)
    by_cases q : j = i
    · rw [if_pos q] at k9; exact k9
    · rw [if_neg q] at k9; omega
theorem cBo_iff {f : nl_O → Nat → Bool} {D : nl_O} {i q : Nat} : ∀ (e j : Nat), cBo f D i q e j = true ↔ ∃ k, j ≤ k ∧ k < j + e ∧ lk (dEx D i k) i = true ∧ f (dEx D i k) (if k = i then q else q - 1) = true := by
  intro e
  induction e with
  | zero =>
    intro j
    simp only [cBo]
    constructor
    · intro h; cases h
    · rintro ⟨k, h1, h2, _⟩; omega
  | succ e ih =>
    intro j
    simp only [cBo]
    by_cases c : lk (dEx D i j) i = true ∧ f (dEx D i j) (if j = i then q else q - 1) = true
    · rw [if_pos c]
      exact ⟨fun _ => ⟨j, by omega, by omega, c.1, c.2⟩, fun _ => rfl⟩
    · rw [if_neg c, ih]
      constructor
      · rintro ⟨k, h1, h2, h3⟩; exact ⟨k, by omega, by omega, h3⟩
      · rintro ⟨k, h1, h2, h3⟩
        by_cases z : k = j
        · subst z; exact absurd h3 c
        · exact ⟨k, by omega, by omega, h3⟩
/-- the lots in D are those of V, taken round by cur -/
def dv (D V : nl_O) (m : Nat) (cur : List Nat) : Prop := (∀ a, a < m → D 4 a = V 8 (gt cur a)) ∧ ∀ a, a < m → D 3 a = ((dBits V a m : Nat) : Int)
theorem dv_ex {D V : nl_O} {m i j : Nat} {cur : List Nat} (h : dv D V m cur) (hc : pm m cur) (hi : i < m) (hj : j < m) : dv (dEx D i j) V m (gsw cur i j) := by
  have hl := hc.1
  refine ⟨fun a ha => ?_, fun a ha => ?_⟩
  · rw [gt_sw (by omega) (by omega)]
    by_cases p : a = j
    · rw [if_pos p, p, dEx_w]; exact h.1 i hi
    · rw [if_neg p]
      by_cases q : a = i
      · rw [if_pos q, q, dEx_v]; exact h.1 j hj
      · rw [if_neg q, dEx_o q p]; exact h.1 a ha
  · rw [dEx_k (by omega)]; exact h.2 a ha
/-- house a would keep the hour of house x -/
def kp (V : nl_O) (a x : Nat) : Prop := vHv V a (V 8 x).toNat ≤ V 5 a - V 7 a
theorem lk_kp {N : Int} {D V : nl_O} {m a : Nat} {cur : List Nat} (hV : vok N V) (hm : V 0 0 = (m : Int)) (h : dv D V m cur) (hc : pm m cur) (ha : a < m) : lk D a = true ↔ kp V a (gt cur a) := by
  have g := hc.2.1 a ha
  have b8 := (hV.2.2.2.1 (gt cur a) (by omega)).2.2.2.2.2.1
  unfold lk kp
  rw [h.1 a ha, h.2 a ha, Int.toNat_natCast, dBits_tb]
  exact ⟨fun z => z.2, fun z => ⟨by omega, z⟩⟩
theorem cB_to {N : Int} {V : nl_O} {m : Nat} (hV : vok N V) (hm : V 0 0 = (m : Int)) : ∀ (d i q cnt : Nat) (D : nl_O) (cur : List Nat), i + d = m → dv D V m cur → pm m cur → chT m d i cur cnt = true → cB d i D q = true → ∃ s, pm m s ∧ (∀ a, a < i → gt s a = gt cur a) ∧ (∀ a, i ≤ a → a < m → kp V a (gt s a)) ∧ swT m s ≤ cnt + q := by
  intro d
  induction d with
  | zero =>
    intro i q cnt D cur hi hD hc hch _
    simp only [chT, Bool.and_eq_true] at hch
    have := Nat.eq_of_beq_eq_true hch.1.1
    exact ⟨cur, hc, fun _ _ => rfl, fun a h1 h2 => by omega, by omega⟩
  | succ d ih =>
    intro i q cnt D cur hi hD hc hch hB
    simp only [cB] at hB
    obtain ⟨j, j1, j2, j3, j4⟩ := (cBo_iff _ _).mp hB
    have jm : j < i + (d + 1) := by
      by_cases z : 0 < q
      · rw [if_pos z] at j2; exact j2
      · rw [if_neg z] at j2; omega
    have hD' := dv_ex hD hc (show i < m by omega) (show j < m by omega)
    have hc' := pm_sw hc (show i < m by omega) (show j < m by omega)
    obtain ⟨s, s1, s2, s3, s4⟩ := ih (i + 1) _ _ _ _ (by omega) hD' hc' (chT_s hch j1 jm) j4
    have kk := (lk_kp hV hm hD' hc' (show i < m by omega)).mp j3
    have hl := hc.1
    refine ⟨s, s1, fun a ha => ?_, fun a h1 h2 => ?_, ?_⟩
    · rw [s2 a (by omega), gt_sw (by omega) (by omega), if_neg (by omega), if_neg (by omega)]
    · by_cases z : a = i
      · subst z; rw [s2 a (by omega)]; exact kk
      · exact s3 a (by omega) h2
    · by_cases z : j = i
      · rw [if_pos z, if_pos z] at s4; exact s4
      · rw [if_neg z, if_neg z] at s4
        by_cases y : 0 < q
        · omega
        · rw [if_neg y] at j2; omega
theorem cB_of {N : Int} {V : nl_O} {m : Nat} (hV : vok N V) (hm : V 0 0 = (m : Int)) : ∀ (d i q cnt : Nat) (D : nl_O) (cur s : List Nat), i + d = m → dv D V m cur → pm m cur → pm m s → (∀ a, a < i → gt cur a = gt s a) → (∀ a, i ≤ a → a < m → kp V a (gt s a)) → chT m d i cur cnt = true → swT m s ≤ cnt + q → cB d i D q = true := by
  intro d
  induction d with
  | zero => intro i q cnt D cur s _ _ _ _ _ _ _ _; rfl
  | succ d ih =>
    intro i q cnt D cur s hi hD hc hs ha hk hch hq
    obtain ⟨j, j1, j2, j3⟩ := pm_find hc hs (show i < m by omega) ha
    have hD' := dv_ex hD hc (show i < m by omega) j2
    have hc' := pm_sw hc (show i < m by omega) j2
    have ag := gsw_agree hc (show i < m by omega) ⟨j1, j2⟩ ha j3
    have ch' := chT_s hch j1 (show j < i + (d + 1) by omega)
    have ge := chT_ge d (i + 1) _ _ s (by omega) ch' hc' hs ag
    simp only [cB]
    refine (cBo_iff _ _).mpr ⟨j, j1, ?_, ?_, ?_⟩
    · by_cases z : j = i
      · split <;> omega
      · rw [if_neg z] at ge
        rw [if_pos (by omega)]
        omega
    · rw [lk_kp hV hm hD' hc' (show i < m by omega), ag i (by omega)]
      exact hk i (by omega) (by omega)
    · refine ih (i + 1) _ _ _ _ s (by omega) hD' hc' hs ag (fun a h1 h2 => hk a (by omega) h2) ch' ?_
      by_cases z : j = i
      · rw [if_pos z, if_pos z]; exact hq
      · rw [if_neg z] at ge
        rw [if_neg z, if_neg z]; omega
