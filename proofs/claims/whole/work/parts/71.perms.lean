/-! Rows of hours: all of them in order, and the row that comes next. -/
def gt : List Nat → Nat → Nat
  | [], _ => 0
  | x :: _, 0 => x
  | _ :: r, i + 1 => gt r i
def gset : List Nat → Nat → Nat → List Nat
  | [], _, _ => []
  | _ :: r, 0, v => v :: r
  | x :: r, i + 1, v => x :: gset r i v
theorem gset_len : ∀ (p : List Nat) (a v : Nat), (gset p a v).length = p.length := by
  intro p
  induction p with
  | nil => intro a v; rfl
  | cons x r ih =>
    intro a v
    cases a with
    | zero => rfl
    | succ a => simp only [gset, List.length_cons, ih]
theorem gt_set : ∀ (p : List Nat) (a v i : Nat), a < p.length → gt (gset p a v) i = if i = a then v else gt p i := by
  intro p
  induction p with
  | nil => intro a v i h; simp only [List.length_nil] at h; omega
  | cons x r ih =>
    intro a v i h
    simp only [List.length_cons] at h
    cases a with
    | zero =>
      cases i with
      | zero => rfl
      | succ i => rw [if_neg (by omega)]; rfl
    | succ a =>
      cases i with
      | zero => rw [if_neg (by omega)]; rfl
      | succ i =>
        show gt (gset r a v) i = _
        rw [ih a v i (by omega)]
        by_cases q : i = a
        · rw [if_pos q, if_pos (by omega)]
        · rw [if_neg q, if_neg (by omega)]; rfl
/-- two places exchanged -/
def gsw (p : List Nat) (a b : Nat) : List Nat := gset (gset p a (gt p b)) b (gt p a)
theorem gsw_len (p : List Nat) (a b : Nat) : (gsw p a b).length = p.length := by unfold gsw; rw [gset_len, gset_len]
theorem gt_sw {p : List Nat} {a b : Nat} (ha : a < p.length) (hb : b < p.length) (i : Nat) : gt (gsw p a b) i = if i = b then gt p a else if i = a then gt p b else gt p i := by
  unfold gsw
  rw [gt_set _ _ _ _ (by rw [gset_len]; exact hb), gt_set _ _ _ _ ha]
def kS (p : List Nat) : Nat → Option Nat
  | 0 => none
  | k + 1 => if gt p (k + 1) < gt p k then kS p k else some k
def jS (p : List Nat) (v : Nat) : Nat → Nat
  | 0 => 0
  | j + 1 => if gt p (j + 1) < v then jS p v j else j + 1
def rv : Nat → List Nat → Nat → Nat → List Nat
  | 0, p, _, _ => p
  | n + 1, p, a, b => if b ≤ a then p else rv n (gsw p a b) (a + 1) (b - 1)
def nx (m : Nat) (p : List Nat) : Option (List Nat) := match kS p (m - 1) with
  | none => none
  | some k => some (rv m (gsw p k (jS p (gt p k) (m - 1))) (k + 1) (m - 1))
def PLo (f : Nat → List (List Nat)) (S : Nat) : Nat → List (List Nat)
  | 0 => []
  | j + 1 => PLo f S j ++ (bif S.testBit j then [] else (f j).map (fun r => j :: r))
/-- all ways to give d houses hours below m that are not in S -/
def PL (m : Nat) : Nat → Nat → List (List Nat)
  | 0, _ => [[]]
  | d + 1, S => PLo (fun k => PL m d (S ||| 2 ^ k)) S m
def eqL : List Nat → List Nat → Bool
  | [], [] => true
  | x :: r, y :: s => Nat.beq x y && eqL r s
  | _, _ => false
theorem eqL_eq : ∀ (p q : List Nat), eqL p q = true → p = q := by
  intro p
  induction p with
  | nil => intro q h; cases q with
    | nil => rfl
    | cons y s => cases h
  | cons x r ih => intro q h; cases q with
    | nil => cases h
    | cons y s =>
      simp only [eqL, Bool.and_eq_true] at h
      rw [Nat.eq_of_beq_eq_true h.1, ih s h.2]
def eqO : Option (List Nat) → List Nat → Bool
  | none, _ => false
  | some c, b => eqL c b
def chL (m : Nat) : List (List Nat) → Bool
  | [] => false
  | [a] => (nx m a).isNone
  | a :: b :: r => eqO (nx m a) b && chL m (b :: r)
def hdL (m : Nat) : List (List Nat) → Bool
  | [] => false
  | a :: _ => eqL a (List.range m)
set_option maxRecDepth 100000 in
theorem ch_2 : chL 2 (PL 2 2 0) = true ∧ hdL 2 (PL 2 2 0) = true := by decide +kernel
set_option maxRecDepth 100000 in
theorem ch_3 : chL 3 (PL 3 3 0) = true ∧ hdL 3 (PL 3 3 0) = true := by decide +kernel
set_option maxRecDepth 100000 in
theorem ch_4 : chL 4 (PL 4 4 0) = true ∧ hdL 4 (PL 4 4 0) = true := by decide +kernel
set_option maxRecDepth 100000 in
theorem ch_5 : chL 5 (PL 5 5 0) = true ∧ hdL 5 (PL 5 5 0) = true := by decide +kernel
set_option maxRecDepth 100000 in
theorem ch_6 : chL 6 (PL 6 6 0) = true ∧ hdL 6 (PL 6 6 0) = true := by decide +kernel
set_option maxRecDepth 100000 in
theorem ch_7 : chL 7 (PL 7 7 0) = true ∧ hdL 7 (PL 7 7 0) = true := by decide +kernel
theorem ch_all {m : Nat} (h : 2 ≤ m ∧ m ≤ 7) : chL m (PL m m 0) = true ∧ hdL m (PL m m 0) = true := by
  rcases (show m = 2 ∨ m = 3 ∨ m = 4 ∨ m = 5 ∨ m = 6 ∨ m = 7 by omega) with rfl | rfl | rfl | rfl | rfl | rfl
  · exact ch_2
  · exact ch_3
  · exact ch_4
  · exact ch_5
  · exact ch_6
  · exact ch_7
theorem mem_PLo {f : Nat → List (List Nat)} {S : Nat} {p : List Nat} : ∀ j, p ∈ PLo f S j ↔ ∃ k r, k < j ∧ S.testBit k = false ∧ r ∈ f k ∧ p = k :: r := by
  intro j
  induction j with
  | zero =>
    simp only [PLo]
    constructor
    · intro h; cases h
    · rintro ⟨k, r, h, _⟩; omega
  | succ j ih =>
    simp only [PLo, List.mem_append, ih]
    constructor
    · rintro (⟨k, r, a, b, c, d⟩ | h)
      · exact ⟨k, r, by omega, b, c, d⟩
      · cases q : S.testBit j with
        | true => rw [q] at h; cases h
        | false =>
          rw [q] at h
          obtain ⟨r, h1, h2⟩ := List.mem_map.mp h
          exact ⟨j, r, by omega, q, h1, h2.symm⟩
    · rintro ⟨k, r, a, b, c, d⟩
      by_cases q : k = j
      · subst q
        refine .inr ?_
        rw [b]
        exact List.mem_map.mpr ⟨r, c, d.symm⟩
      · exact .inl ⟨k, r, by omega, b, c, d⟩
/-- a row of d different hours below m, none of them in S -/
def isR (m S : Nat) : List Nat → Prop
  | [] => True
  | k :: r => k < m ∧ S.testBit k = false ∧ isR m (S ||| 2 ^ k) r
theorem mem_PL {m : Nat} : ∀ (d S : Nat) (p : List Nat), p ∈ PL m d S ↔ p.length = d ∧ isR m S p := by
  intro d
  induction d with
  | zero =>
    intro S p
    simp only [PL, List.mem_singleton]
    constructor
    · rintro rfl; exact ⟨rfl, trivial⟩
    · rintro ⟨h, _⟩; exact List.eq_nil_of_length_eq_zero h
  | succ d ih =>
    intro S p
    simp only [PL]
    rw [mem_PLo]
    constructor
    · rintro ⟨k, r, a, b, c, rfl⟩
      have := (ih _ _).mp c
      exact ⟨by simp only [List.length_cons]; omega, a, b, this.2⟩
    · rintro ⟨h1, h2⟩
      cases p with
      | nil => simp only [List.length_nil] at h1; omega
      | cons k r =>
        simp only [List.length_cons] at h1
        exact ⟨k, r, h2.1, h2.2.1, (ih _ _).mpr ⟨by omega, h2.2.2⟩, rfl⟩
theorem isR_lt {m : Nat} : ∀ (p : List Nat) (S : Nat), isR m S p → ∀ i, i < p.length → gt p i < m := by
  intro p
  induction p with
  | nil => intro S _ i h; simp only [List.length_nil] at h; omega
  | cons k r ih =>
    intro S h i hi
    simp only [List.length_cons] at hi
    cases i with
    | zero => exact h.1
    | succ i => exact ih _ h.2.2 i (by omega)
