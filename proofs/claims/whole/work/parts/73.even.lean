/-! The best way to deal: over all rows in order, and by the table. -/
set_option maxRecDepth 20000 in
theorem b_ex : ∀ m, m < 8 → ∀ S, S < 2 ^ m → bN S < m → ∃ k, k < m ∧ S.testBit k = false := by decide +kernel
set_option maxRecDepth 20000 in
theorem b_add : ∀ S, S < 128 → ∀ k, k < 7 → S.testBit k = false → bN (S ||| 2 ^ k) = bN S + 1 := by decide +kernel
theorem PL_ne {m : Nat} (hm : m ≤ 7) : ∀ (d S : Nat), S < 2 ^ m → bN S + d = m → ∃ p, p ∈ PL m d S := by
  have h2 := bm_le hm
  intro d
  induction d with
  | zero => intro S _ _; exact ⟨[], List.mem_singleton.mpr rfl⟩
  | succ d ih =>
    intro S hS hb
    obtain ⟨k, k1, k2⟩ := b_ex m (by omega) S hS (by omega)
    have a := b_add S (by omega) k (by omega) k2
    obtain ⟨r, hr⟩ := ih (S ||| 2 ^ k) (bo_lt2 hS k1) (by omega)
    exact ⟨k :: r, (mem_PLo m).mpr ⟨k, r, k1, k2, hr, rfl⟩⟩
def stp (a x : Int × List Nat) : Int × List Nat := if x.1 < a.1 then x else a
/-- the price of a row's hours for houses i, i + 1, .. -/
def cs (V : nl_O) : Nat → List Nat → Int
  | _, [] => 0
  | i, k :: r => dP V i k + cs V (i + 1) r
/-- the first cheapest of rows, behind one so far -/
def fl (V : nl_O) (i : Nat) (a : Int × List Nat) (L : List (List Nat)) : Int × List Nat := L.foldl (fun a p => stp a (cs V i p, p)) a
def pg (V : nl_O) (i k : Nat) (a : Int × List Nat) : Int × List Nat := (dP V i k + a.1, k :: a.2)
theorem stp_g {V : nl_O} {i k : Nat} {c a b : Int × List Nat} : stp (stp c (pg V i k a)) (pg V i k b) = stp c (pg V i k (stp a b)) := by
  unfold stp pg
  dsimp only
  by_cases q : b.1 < a.1
  · rw [if_pos q]
    by_cases p : dP V i k + a.1 < c.1
    · rw [if_pos p]
      dsimp only
      rw [if_pos (by omega), if_pos (by omega)]
    · rw [if_neg p]
  · rw [if_neg q]
    by_cases p : dP V i k + a.1 < c.1
    · rw [if_pos p]
      dsimp only
      rw [if_neg (by omega)]
    · rw [if_neg p, if_neg (by omega)]
theorem fl_map {V : nl_O} {i k : Nat} : ∀ (L : List (List Nat)) (a c : Int × List Nat), fl V i (stp c (pg V i k a)) (L.map (fun r => k :: r)) = stp c (pg V i k (fl V (i + 1) a L)) := by
  intro L
  induction L with
  | nil => intro a c; rfl
  | cons x L ih =>
    intro a c
    show fl V i (stp (stp c (pg V i k a)) (pg V i k (cs V (i + 1) x, x))) (L.map (fun r => k :: r)) = stp c (pg V i k (fl V (i + 1) (stp a (cs V (i + 1) x, x)) L))
    rw [stp_g]
    exact ih _ _
theorem cs_le {N : Int} {V : nl_O} (hV : vok N V) : ∀ (p : List Nat) (i S m : Nat), V 0 0 = (m : Int) → isR m S p → -40 * p.length ≤ cs V i p ∧ cs V i p ≤ 1000 * p.length := by
  intro p
  induction p with
  | nil => intro i S m _ _; simp only [cs, List.length_nil]; omega
  | cons k r ih =>
    intro i S m hm h
    have b := dP_in hV (i := i) (k := k) (by have := h.1; omega)
    have c := ih (i + 1) _ m hm h.2.2
    simp only [cs, List.length_cons]
    omega
/-- the best row by its first hour -/
def pAo (V : nl_O) (i : Nat) (f : Nat → Int × List Nat) (S : Nat) : Nat → Int × List Nat
  | 0 => (8000, [])
  | j + 1 => if S.testBit j = true then pAo V i f S j else stp (pAo V i f S j) (pg V i j (f j))
def pA (V : nl_O) (m : Nat) : Nat → Nat → Int × List Nat
  | 0, _ => (0, [])
  | d + 1, S => pAo V (m - (d + 1)) (fun k => pA V m d (S ||| 2 ^ k)) S m
theorem fl_PL {N : Int} {V : nl_O} {m : Nat} (hV : vok N V) (hm : V 0 0 = (m : Int)) : ∀ (d S : Nat), S < 2 ^ m → bN S + d = m → fl V (m - d) (8000, []) (PL m d S) = pA V m d S := by
  have h0 := hV.1
  have h2 := bm_le (show m ≤ 7 by omega)
  intro d
  induction d with
  | zero =>
    intro S _ _
    rfl
  | succ d ih =>
    intro S hS hb
    have key : ∀ j, j ≤ m → fl V (m - (d + 1)) (8000, []) (PLo (fun k => PL m d (S ||| 2 ^ k)) S j) = pAo V (m - (d + 1)) (fun k => pA V m d (S ||| 2 ^ k)) S j := by
      intro j
      induction j with
      | zero => intro _; rfl
      | succ j ihj =>
        intro hj
        have a := ihj (by omega)
        have e1 : fl V (m - (d + 1)) (8000, []) (PLo (fun k => PL m d (S ||| 2 ^ k)) S (j + 1)) = fl V (m - (d + 1)) (fl V (m - (d + 1)) (8000, []) (PLo (fun k => PL m d (S ||| 2 ^ k)) S j)) (bif S.testBit j then [] else (PL m d (S ||| 2 ^ j)).map (fun r => j :: r)) := by
          unfold fl
          simp only [PLo]
          rw [List.foldl_append]
        rw [e1, a]
        cases q : S.testBit j with
        | true =>
          simp only [pAo]
          rw [if_pos q]
          rfl
        | false =>
          simp only [pAo]
          rw [if_neg (by rw [q]; exact Bool.false_ne_true)]
          have ba := b_add S (by omega) j (by omega) q
          have i9 := ih (S ||| 2 ^ j) (bo_lt2 hS (by omega)) (by omega)
          obtain ⟨p, hp⟩ := PL_ne (show m ≤ 7 by omega) d (S ||| 2 ^ j) (bo_lt2 hS (by omega)) (by omega)
          cases hL : PL m d (S ||| 2 ^ j) with
          | nil => rw [hL] at hp; cases hp
          | cons x L =>
            have hx : x ∈ PL m d (S ||| 2 ^ j) := by rw [hL]; exact List.mem_cons_self
            have hx2 := (mem_PL d _ x).mp hx
            have cl := cs_le hV x (m - d) _ m hm hx2.2
            rw [hL] at i9
            have e3 : fl V (m - d) (8000, []) (x :: L) = fl V (m - d) (cs V (m - d) x, x) L := by
              show fl V (m - d) (stp (8000, []) (cs V (m - d) x, x)) L = _
              unfold stp
              rw [if_pos (by dsimp only; omega)]
            rw [e3] at i9
            have em : m - (d + 1) + 1 = m - d := by omega
            show fl V (m - (d + 1)) (stp _ (cs V (m - (d + 1)) (j :: x), j :: x)) (L.map (fun r => j :: r)) = _
            have e4 : ((cs V (m - (d + 1)) (j :: x), j :: x) : Int × List Nat) = pg V (m - (d + 1)) j (cs V (m - d) x, x) := by
              unfold pg
              simp only [cs]
              rw [em]
            rw [e4, fl_map, em, i9]
    exact key m (Nat.le_refl m)
/-- the table holds the least prices -/
theorem pA_tab {V T : nl_O} {m : Nat} (hm : m ≤ 7) (hT : dT T m) (h0 : ∀ i k, i < m → k < m → T 0 (i * 7 + k) = dP V i k) : ∀ (d S : Nat), S < 2 ^ m → bN S + d = m → T 1 S = (pA V m d S).1 := by
  have h2 := bm_le hm
  intro d
  induction d with
  | zero =>
    intro S hS hb
    rw [hT S hS]
    unfold dLeast
    rw [if_neg (by omega)]
    rfl
  | succ d ih =>
    intro S hS hb
    rw [hT S hS]
    unfold dLeast
    rw [if_pos (by omega)]
    have ei : bN S = m - (d + 1) := by omega
    have key : ∀ j, j ≤ m → dLo T S (bN S) j = (pAo V (m - (d + 1)) (fun k => pA V m d (S ||| 2 ^ k)) S j).1 := by
      intro j
      induction j with
      | zero => intro _; rfl
      | succ j ihj =>
        intro hj
        simp only [dLo, pAo]
        rw [ihj (by omega)]
        cases q : S.testBit j with
        | true => rw [if_pos rfl, if_pos rfl]
        | false =>
          rw [if_neg Bool.false_ne_true, if_neg Bool.false_ne_true]
          have ba := b_add S (by omega) j (by omega) q
          have i9 := ih (S ||| 2 ^ j) (bo_lt2 hS (by omega)) (by omega)
          have ep : dPr T S (bN S) j = (pg V (m - (d + 1)) j (pA V m d (S ||| 2 ^ j))).1 := by
            unfold dPr pg
            rw [h0 _ _ (by omega) (by omega), i9, ei]
          rw [ep]
          unfold stp
          split <;> rfl
    exact key m (Nat.le_refl m)
theorem dLow_is {T : nl_O} {S i k0 : Nat} (h1 : S.testBit k0 = false) (h2 : dPr T S i k0 = T 1 S) : ∀ (d j : Nat), j ≤ k0 → k0 < j + d → (∀ k, j ≤ k → k < k0 → S.testBit k = false → dPr T S i k ≠ T 1 S) → dLow T S i d j = k0 := by
  intro d
  induction d with
  | zero => intro j _ _ _; omega
  | succ d ih =>
    intro j a b c
    simp only [dLow]
    by_cases q : j = k0
    · subst q
      rw [if_pos ⟨h1, h2⟩]
    · rw [if_neg (fun z => c j (by omega) (by omega) z.1 z.2)]
      exact ih (j + 1) (by omega) (by omega) fun k k1 k2 => c k (by omega) k2
/-- the best row's first hour -/
theorem pAo_is {V : nl_O} {i S : Nat} {f : Nat → Int × List Nat} : ∀ j, (∀ k, k < j → S.testBit k = false → (pg V i k (f k)).1 < 8000) → ((∀ k, k < j → S.testBit k = true) ∧ pAo V i f S j = (8000, [])) ∨ ∃ k0, k0 < j ∧ S.testBit k0 = false ∧ pAo V i f S j = pg V i k0 (f k0) ∧ (∀ k, k < k0 → S.testBit k = false → (pg V i k0 (f k0)).1 < (pg V i k (f k)).1) ∧ ∀ k, k < j → S.testBit k = false → (pg V i k0 (f k0)).1 ≤ (pg V i k (f k)).1 := by
  intro j
  induction j with
  | zero => intro _; exact .inl ⟨fun k hk => by omega, rfl⟩
  | succ j ih =>
    intro hw
    have a := ih fun k hk => hw k (by omega)
    simp only [pAo]
    cases q : S.testBit j with
    | true =>
      rw [if_pos rfl]
      rcases a with ⟨a1, a2⟩ | ⟨k0, a1, a2, a3, a4, a5⟩
      · exact .inl ⟨fun k hk => by
          by_cases z : k = j
          · subst z; exact q
          · exact a1 k (by omega), a2⟩
      · exact .inr ⟨k0, by omega, a2, a3, a4, fun k hk hb => by
          by_cases z : k = j
          · subst z; rw [q] at hb; cases hb
          · exact a5 k (by omega) hb⟩
    | false =>
      rw [if_neg Bool.false_ne_true]
      have w := hw j (by omega) q
      rcases a with ⟨a1, a2⟩ | ⟨k0, a1, a2, a3, a4, a5⟩
      · refine .inr ⟨j, by omega, q, ?_, fun k hk hb => ?_, fun k hk hb => ?_⟩
        · rw [a2]
          unfold stp
          rw [if_pos w]
        · have := a1 k hk
          rw [hb] at this; cases this
        · by_cases z : k = j
          · subst z; exact Int.le_refl _
          · have := a1 k (by omega)
            rw [hb] at this; cases this
      · rw [a3]
        by_cases p : (pg V i j (f j)).1 < (pg V i k0 (f k0)).1
        · refine .inr ⟨j, by omega, q, by unfold stp; rw [if_pos p], fun k hk hb => ?_, fun k hk hb => ?_⟩
          · have := a5 k hk hb; omega
          · by_cases z : k = j
            · subst z; exact Int.le_refl _
            · have := a5 k (by omega) hb; omega
        · refine .inr ⟨k0, by omega, a2, by unfold stp; rw [if_neg p], a4, fun k hk hb => ?_⟩
          by_cases z : k = j
          · subst z; omega
          · exact a5 k (by omega) hb
theorem pA_le {N : Int} {V : nl_O} {m : Nat} (hV : vok N V) (hm : V 0 0 = (m : Int)) : ∀ (d S : Nat), S < 2 ^ m → bN S + d = m → (pA V m d S).1 ≤ 1000 * d ∧ ∃ p, p ∈ PL m d S ∧ (pA V m d S).2 = p := by
  have h0 := hV.1
  have h2 := bm_le (show m ≤ 7 by omega)
  intro d
  induction d with
  | zero => intro S _ _; exact ⟨by simp only [pA]; omega, [], List.mem_singleton.mpr rfl, rfl⟩
  | succ d ih =>
    intro S hS hb
    have hw : ∀ k, k < m → S.testBit k = false → (pg V (m - (d + 1)) k (pA V m d (S ||| 2 ^ k))).1 ≤ 1000 * ((d + 1 : Nat) : Int) := by
      intro k hk q
      have ba := b_add S (by omega) k (by omega) q
      have i9 := (ih (S ||| 2 ^ k) (bo_lt2 hS hk) (by omega)).1
      have b := dP_in hV (i := m - (d + 1)) (k := k) (by omega)
      unfold pg
      dsimp only
      omega
    have a := pAo_is (V := V) (i := m - (d + 1)) (S := S) (f := fun k => pA V m d (S ||| 2 ^ k)) m fun k hk q => by have := hw k hk q; omega
    obtain ⟨k1, k2, k3⟩ := b_ex m (by omega) S hS (by omega)
    rcases a with ⟨a1, a2⟩ | ⟨k0, a1, a2, a3, a4, a5⟩
    · have := a1 k1 k2; rw [k3] at this; cases this
    · have ba := b_add S (by omega) k0 (by omega) a2
      have i9 := (ih (S ||| 2 ^ k0) (bo_lt2 hS a1) (by omega)).2
      obtain ⟨p, hp, e⟩ := i9
      simp only [pA]
      rw [a3]
      refine ⟨hw k0 a1 a2, k0 :: p, (mem_PLo m).mpr ⟨k0, p, a1, a2, hp, rfl⟩, ?_⟩
      unfold pg
      rw [e]
theorem pA_s {N : Int} {V T : nl_O} {m : Nat} (hV : vok N V) (hm : V 0 0 = (m : Int)) (hT : dT T m) (h0 : ∀ i k, i < m → k < m → T 0 (i * 7 + k) = dP V i k) {d S : Nat} (hS : S < 2 ^ m) (hb : bN S + (d + 1) = m) : dLow T S (m - (d + 1)) m 0 < m ∧ S.testBit (dLow T S (m - (d + 1)) m 0) = false ∧ (pA V m (d + 1) S).2 = dLow T S (m - (d + 1)) m 0 :: (pA V m d (S ||| 2 ^ dLow T S (m - (d + 1)) m 0)).2 := by
  have h9 := hV.1
  have h2 := bm_le (show m ≤ 7 by omega)
  have ti : ∀ k, k < m → S.testBit k = false → dPr T S (m - (d + 1)) k = (pg V (m - (d + 1)) k (pA V m d (S ||| 2 ^ k))).1 := by
    intro k hk q
    have ba := b_add S (by omega) k (by omega) q
    have i9 := pA_tab (show m ≤ 7 by omega) hT h0 d (S ||| 2 ^ k) (bo_lt2 hS hk) (by omega)
    unfold dPr pg
    rw [h0 _ _ (by omega) hk, i9]
  have hw : ∀ k, k < m → S.testBit k = false → (pg V (m - (d + 1)) k (pA V m d (S ||| 2 ^ k))).1 < 8000 := by
    intro k hk q
    have ba := b_add S (by omega) k (by omega) q
    have i9 := (pA_le hV hm d (S ||| 2 ^ k) (bo_lt2 hS hk) (by omega)).1
    have b := dP_in hV (i := m - (d + 1)) (k := k) (by omega)
    unfold pg
    dsimp only
    omega
  have a := pAo_is (V := V) (i := m - (d + 1)) (S := S) (f := fun k => pA V m d (S ||| 2 ^ k)) m hw
  obtain ⟨k1, k2, k3⟩ := b_ex m (by omega) S hS (by omega)
  rcases a with ⟨a1, a2⟩ | ⟨k0, a1, a2, a3, a4, a5⟩
  · have := a1 k1 k2; rw [k3] at this; cases this
  · have t1 := pA_tab (show m ≤ 7 by omega) hT h0 (d + 1) S hS hb
    have e1 : T 1 S = (pg V (m - (d + 1)) k0 (pA V m d (S ||| 2 ^ k0))).1 := by
      rw [t1]
      simp only [pA]
      rw [a3]
    have lk := dLow_is (T := T) (i := m - (d + 1)) a2 (by rw [ti k0 a1 a2, e1]) m 0 (by omega) (by omega) fun k _ hk q => by
      rw [ti k (by omega) q, e1]
      have := a4 k hk q
      omega
    rw [lk]
    refine ⟨a1, a2, ?_⟩
    simp only [pA]
    rw [a3]
    rfl
