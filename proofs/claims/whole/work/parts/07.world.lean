
/-! The world of the abstract machine: where its objects lie, what they hold. -/
abbrev nl_G : Type := va_G × (Nat → Nat → Nat) × (Nat → Nat → Nat → Nat) × (Nat → ClassId) × (Nat → Nat) × (Nat → Prop) × Int
abbrev gD (G : nl_G) : va_G := G.1
abbrev gO (G : nl_G) : Nat → Nat → Nat := G.2.1
abbrev gA (G : nl_G) : Nat → Nat → Nat → Nat := G.2.2.1
abbrev gY (G : nl_G) : Nat → ClassId := G.2.2.2.1
abbrev gN (G : nl_G) : Nat → Nat := G.2.2.2.2.1
abbrev gF (G : nl_G) : Nat → Prop := G.2.2.2.2.2.1
abbrev gL (G : nl_G) : Int := G.2.2.2.2.2.2
def nl_cv (G : nl_G) : nl_V → Value
  | .inl i => .int (Int32.ofInt i)
  | .inr (.inl i) => .long (Int64.ofInt i)
  | .inr (.inr (c, o, none)) => .ref (gO G c o)
  | .inr (.inr (c, o, some k)) => .ref (gA G c o k)
def nl_okv (G : nl_G) : nl_V → Prop
  | .inl _ => True
  | .inr (.inl _) => True
  | .inr (.inr (c, o, none)) => c < 7 ∧ o < gN G c
  | .inr (.inr (c, o, some k)) => (c < 7 ∧ o < gN G c ∧ k < nl_N c ∧ nl_fk c k = 1) ∨ (c = 9 ∧ o = 0 ∧ k = 0 ∧ gN G 9 = 1)
def nl_cs : List vw_C := [(RX0, TX0, 6), (RX1, TX1, 8), (RX2, TX2, 2), (RX3, TX3, 4), (RX4, TX4, 11), (RX5, TX5, 9), (RX6, TX6, 30)]
theorem nl_cs_at {c : Nat} (hc : c < 7) : nl_cs[c]? = some (nl_R c, nl_T c, nl_N c) := by
  match c, hc with
  | 0, _ => rfl
  | 1, _ => rfl
  | 2, _ => rfl
  | 3, _ => rfl
  | 4, _ => rfl
  | 5, _ => rfl
  | 6, _ => rfl
  | n + 7, h => exact absurd h (by omega)
def nl_aln (c o k : Nat) : Nat := (nl_al 0 c o k).toNat
theorem nl_al_in {c : Nat} (hc : c < 7) (LS : Int) (o k : Nat) : nl_al LS c o k = nl_al 0 c o k ∧ 0 ≤ nl_al 0 c o k ∧ nl_al 0 c o k < 1000 := by
  match c, hc with
  | 0, _ => refine ⟨rfl, ?_⟩; simp only [nl_al]; split <;> decide
  | 1, _ => refine ⟨rfl, ?_⟩; simp only [nl_al]; split <;> decide
  | 2, _ => refine ⟨rfl, ?_⟩; simp only [nl_al]; split <;> decide
  | 3, _ => refine ⟨rfl, ?_⟩; simp only [nl_al]; decide
  | 4, _ => refine ⟨rfl, ?_⟩; simp only [nl_al]; split <;> decide
  | 5, _ => refine ⟨rfl, ?_⟩; simp only [nl_al]; decide
  | 6, _ => refine ⟨rfl, ?_⟩; simp only [nl_al]; split <;> decide
  | n + 7, h => exact absurd h (by omega)
theorem nl_aln_eq {c : Nat} (hc : c < 7) (LS : Int) (o k : Nat) : nl_al LS c o k = (nl_aln c o k : Int) ∧ nl_aln c o k < 1000 := by
  have h := nl_al_in hc LS o k
  unfold nl_aln
  omega
def nl_arr (G : nl_G) (h : nl_H) (c o k : Nat) : vp_A := if nl_at c k = 2 then (nl_aln c o k, .inr (.inr (.inr (.inr fun i => some (gO G 4 (h c o k i).toNat))))) else (nl_aln c o k, .inl fun i => Int32.ofInt (h c o k i))
def nl_fv (G : nl_G) (h : nl_H) (c o k : Nat) : Value := match nl_fk c k with
  | 0 => .int (Int32.ofInt (h c o k 0))
  | 1 => .ref (gA G c o k)
  | n + 2 => .ref (gO G (n / 32) (n % 32))
def nl_Wd (G : nl_G) (h : nl_H) (s : State) (H : Heap) : Prop :=
  (∀ c o : Nat, c < 7 → o < gN G c → t_OB (gO G c o) ((gD G).1 c) (nl_N c) ((gD G).2 c) H (nl_fv G h c o)) ∧
  (∀ c o k : Nat, c < 7 → o < gN G c → k < nl_N c → nl_fk c k = 1 → H[gA G c o k]? = some (vp_cell (gY G (nl_at c k)) (nl_arr G h c o k))) ∧
  (gN G 9 = 1 → va_X (gA G 9 0 0) (gL G).toNat (fun i => Int32.ofInt (h 9 0 0 i)) s H)
def nl_ty (G : nl_G) : List (ClassId × FieldType) := [(gY G 0, .int), (gY G 1, .boolean), (gY G 2, .object RX4)]
def nl_K (G : nl_G) (s : State) : Prop := va_K (gD G) nl_cs (nl_ty G) s ∧ va_Nw (.methodLinkNest RX1 52 yX5_isWithin RX5) s
/-- the addresses are apart, the numbers of objects as they are -/
def nl_Ap (G : nl_G) : Prop :=
  (∀ c o c' o' : Nat, c < 7 → o < gN G c → c' < 7 → o' < gN G c' → gO G c o = gO G c' o' → c = c' ∧ o = o') ∧
  (∀ c o k c' o' k' : Nat, c < 7 → o < gN G c → k < nl_N c → nl_fk c k = 1 → c' < 7 → o' < gN G c' → k' < nl_N c' → nl_fk c' k' = 1 → gA G c o k = gA G c' o' k' → c = c' ∧ o = o' ∧ k = k') ∧
  (∀ c o c' o' k' : Nat, c < 7 → o < gN G c → c' < 7 → o' < gN G c' → k' < nl_N c' → nl_fk c' k' = 1 → gO G c o ≠ gA G c' o' k') ∧
  (∀ c o : Nat, c < 7 → o < gN G c → gF G (gO G c o)) ∧
  (∀ c o k : Nat, c < 7 → o < gN G c → k < nl_N c → nl_fk c k = 1 → gF G (gA G c o k)) ∧
  (gN G 9 = 1 → ¬ gF G (gA G 9 0 0) ∧ 0 ≤ gL G ∧ gL G ≤ 2048) ∧
  gN G 0 = 1 ∧ gN G 1 = 1 ∧ gN G 2 = 2 ∧ gN G 3 = 1 ∧ gN G 4 = 12 ∧ gN G 5 = 1 ∧ gN G 6 ≤ 1
/-! locals -/
def nl_tl (G : nl_G) : Nat → nl_Ls → List (Nat × Value)
  | _, [] => []
  | i, none :: r => nl_tl G (i + 1) r
  | i, some v :: r => (i, nl_cv G v) :: nl_tl G (i + 1) r
def nl_lh (G : nl_G) (ls : Array Slot) (nL : Nat) (L : nl_Ls) : Prop := lv_has ls nL (nl_tl G 0 L) ∧ ∀ v, some v ∈ L → nl_okv G v
theorem nl_lv_mono {ls : Array Slot} {nL : Nat} {l l' : List (Nat × Value)} (h : lv_has ls nL l) (k : ∀ q ∈ l', q ∈ l) : lv_has ls nL l' := ⟨h.1, h.2.1, fun q hq => h.2.2 q (k q hq)⟩
theorem nl_ld_mem {v : nl_V} : ∀ (L : nl_Ls) (i : Nat), nl_ld L i = some v → some v ∈ L
  | [], _, h => by simp [nl_ld] at h
  | w :: r, 0, h => by
    simp only [nl_ld] at h
    subst h
    exact List.mem_cons_self
  | w :: r, i + 1, h => List.mem_cons_of_mem _ (nl_ld_mem r i (by simpa only [nl_ld] using h))
theorem nl_tl_mem {G : nl_G} {v : nl_V} : ∀ (L : nl_Ls) (i j : Nat), nl_ld L i = some v → (j + i, nl_cv G v) ∈ nl_tl G j L
  | [], _, _, h => by simp [nl_ld] at h
  | w :: r, 0, j, h => by
    simp only [nl_ld] at h
    subst h
    exact List.mem_cons_self
  | w :: r, i + 1, j, h => by
    have h1 := nl_tl_mem (G := G) r i (j + 1) (by simpa only [nl_ld] using h)
    have e : j + (i + 1) = j + 1 + i := by omega
    rw [e]
    cases w with
    | none => exact h1
    | some w => exact List.mem_cons_of_mem _ h1
theorem nl_lh.at {G : nl_G} {ls : Array Slot} {nL : Nat} {L : nl_Ls} (h : nl_lh G ls nL L) {i : Nat} {v : nl_V} (e : nl_ld L i = some v) : ls[i]? = some (.val (nl_cv G v)) := by
  have h1 := nl_tl_mem (G := G) L i 0 e
  rw [Nat.zero_add] at h1
  exact h.1.2.2 _ h1
theorem nl_cat (G : nl_G) (v : nl_V) : (nl_cv G v).category = bif nl_isL v then 2 else 1 := by
  match v with
  | .inl _ => rfl
  | .inr (.inl _) => rfl
  | .inr (.inr (_, _, none)) => rfl
  | .inr (.inr (_, _, some _)) => rfl
theorem nl_cats_eq (G : nl_G) : ∀ S : List nl_V, ((S.map (nl_cv G)).map fun v => v.category).sum = nl_cats S
  | [] => rfl
  | v :: r => by
    simp only [List.map_cons, List.sum_cons, nl_cats, nl_cat]
    rw [nl_cats_eq G r]
theorem nl_tl_ge {G : nl_G} : ∀ (L : nl_Ls) (j : Nat) (q : Nat × Value), q ∈ nl_tl G j L → j ≤ q.1
  | [], _, _, h => by simp [nl_tl] at h
  | none :: r, j, q, h => by
    have := nl_tl_ge r (j + 1) q h
    omega
  | some v :: r, j, q, h => by
    rcases List.mem_cons.mp h with h | h
    · subst h; exact Nat.le_refl _
    · have := nl_tl_ge r (j + 1) q h
      omega
theorem nl_s1_tl {G : nl_G} {v : nl_V} : ∀ (L : nl_Ls) (i j : Nat) (q : Nat × Value), q ∈ nl_tl G j (nl_s1 L i v) → q = (j + i, nl_cv G v) ∨ (q ∈ nl_tl G j L ∧ q.1 ≠ j + i ∧ ¬ (q.1 + 1 = j + i ∧ q.2.category = 2))
  | [], i, j, q, h => by simp [nl_s1, nl_tl] at h
  | w :: r, 0, j, q, h => by
    simp only [nl_s1, nl_tl, List.mem_cons] at h
    rcases h with h | h
    · exact Or.inl h
    · have := nl_tl_ge _ _ _ h
      refine Or.inr ⟨?_, by omega, by omega⟩
      cases w with
      | none => exact h
      | some w => exact List.mem_cons_of_mem _ h
  | [w], i + 1, j, q, h => by simp [nl_s1, nl_tl] at h
  | w :: u :: r, 1, j, q, h => by
    have k1 : ∀ q, q ∈ nl_tl G (j + 1) (some v :: r) → q = (j + 1, nl_cv G v) ∨ (q ∈ nl_tl G j (w :: u :: r) ∧ q.1 ≠ j + 1 ∧ ¬ (q.1 + 1 = j + 1 ∧ q.2.category = 2)) := by
      intro q hq
      rcases List.mem_cons.mp hq with hq | hq
      · exact Or.inl hq
      · have := nl_tl_ge _ _ _ hq
        refine Or.inr ⟨?_, by omega, by omega⟩
        have h2 : q ∈ nl_tl G (j + 1) (u :: r) := by
          cases u with
          | none => exact hq
          | some u => exact List.mem_cons_of_mem _ hq
        cases w with
        | none => exact h2
        | some w => exact List.mem_cons_of_mem _ h2
    simp only [nl_s1, nl_cw] at h
    cases w with
    | none => exact k1 q h
    | some w =>
      by_cases hw : nl_isL w = true
      · simp only [hw, cond_true] at h
        exact k1 q h
      · have hw : nl_isL w = false := by simpa using hw
        simp only [hw, cond_false] at h
        rcases List.mem_cons.mp h with h | h
        · subst h
          refine Or.inr ⟨List.mem_cons_self, by simp, ?_⟩
          intro z
          have z2 := z.2
          simp only [nl_cat, hw, cond_false] at z2
          omega
        · exact k1 q h
  | w :: u :: r, i + 2, j, q, h => by
    simp only [nl_s1] at h
    have k1 : q ∈ nl_tl G (j + 1) (nl_s1 (u :: r) (i + 1) v) → q = (j + (i + 2), nl_cv G v) ∨ (q ∈ nl_tl G j (w :: u :: r) ∧ q.1 ≠ j + (i + 2) ∧ ¬ (q.1 + 1 = j + (i + 2) ∧ q.2.category = 2)) := by
      intro hq
      have e : j + 1 + (i + 1) = j + (i + 2) := by omega
      have h1 := nl_s1_tl (u :: r) (i + 1) (j + 1) q hq
      rw [e] at h1
      rcases h1 with h1 | ⟨h1, h2, h3⟩
      · exact Or.inl h1
      · refine Or.inr ⟨?_, h2, h3⟩
        cases w with
        | none => exact h1
        | some w => exact List.mem_cons_of_mem _ h1
    cases w with
    | none => exact k1 h
    | some w =>
      rcases List.mem_cons.mp h with h | h
      · subst h
        exact Or.inr ⟨List.mem_cons_self, by simp, by simp⟩
      · exact k1 h
theorem nl_s1_in {v x : nl_V} : ∀ (L : nl_Ls) (i : Nat), some x ∈ nl_s1 L i v → x = v ∨ some x ∈ L
  | [], i, h => by simp [nl_s1] at h
  | w :: r, 0, h => by
    simp only [nl_s1, List.mem_cons] at h
    rcases h with h | h
    · exact Or.inl (Option.some.inj h)
    · exact Or.inr (List.mem_cons_of_mem _ h)
  | [w], i + 1, h => by simp [nl_s1] at h
  | w :: u :: r, 1, h => by
    simp only [nl_s1, nl_cw, List.mem_cons] at h
    rcases h with h | h | h
    · right
      cases w with
      | none => cases h
      | some w =>
        by_cases hw : nl_isL w = true
        · simp only [hw, cond_true] at h
          cases h
        · have hw : nl_isL w = false := by simpa using hw
          simp only [hw, cond_false] at h
          rw [h]; exact List.mem_cons_self
    · exact Or.inl (Option.some.inj h)
    · exact Or.inr (List.mem_cons_of_mem _ (List.mem_cons_of_mem _ h))
  | w :: u :: r, i + 2, h => by
    simp only [nl_s1, List.mem_cons] at h
    rcases h with h | h
    · exact Or.inr (by rw [h]; exact List.mem_cons_self)
    · rcases nl_s1_in (u :: r) (i + 1) h with h | h
      · exact Or.inl h
      · exact Or.inr (List.mem_cons_of_mem _ h)
theorem nl_set_tl {G : nl_G} : ∀ (L : nl_Ls) (i j : Nat) (q : Nat × Value), q ∈ nl_tl G j (L.set i none) → q ∈ nl_tl G j L ∧ q.1 ≠ j + i
  | [], _, _, _, h => by simp [nl_tl] at h
  | w :: r, 0, j, q, h => by
    simp only [List.set_cons_zero, nl_tl] at h
    have := nl_tl_ge _ _ _ h
    refine ⟨?_, by omega⟩
    cases w with
    | none => exact h
    | some w => exact List.mem_cons_of_mem _ h
  | w :: r, i + 1, j, q, h => by
    have e : j + 1 + i = j + (i + 1) := by omega
    cases w with
    | none =>
      have := nl_set_tl r i (j + 1) q h
      rw [e] at this
      exact this
    | some w =>
      rcases List.mem_cons.mp h with h | h
      · subst h
        exact ⟨List.mem_cons_self, by simp⟩
      · have := nl_set_tl r i (j + 1) q h
        rw [e] at this
        exact ⟨List.mem_cons_of_mem _ this.1, this.2⟩
theorem nl_lh_s1 {G : nl_G} {ls ls' : Array Slot} {nL i : Nat} {L : nl_Ls} (v : nl_V) (hL : nl_lh G ls nL L) (hs : lv_has ls' nL ((i, nl_cv G v) :: (nl_tl G 0 L).filter (fun q => !(q.1 == i) && !(q.1 + 1 == i && q.2.category == 2)))) (hv : nl_okv G v) : nl_lh G ls' nL (nl_s1 L i v) := by
  refine ⟨nl_lv_mono hs fun q hq => ?_, fun x hx => ?_⟩
  · rcases nl_s1_tl L i 0 q hq with h | ⟨h, h2, h3⟩
    · rw [Nat.zero_add] at h
      rw [h]; exact List.mem_cons_self
    · rw [Nat.zero_add] at h2 h3
      refine List.mem_cons_of_mem _ (List.mem_filter.mpr ⟨h, ?_⟩)
      simp only [Bool.and_eq_true, Bool.not_eq_true', beq_eq_false_iff_ne, ne_eq, Bool.and_eq_false_iff]
      exact ⟨h2, Decidable.not_and_iff_or_not.mp h3⟩
  · rcases nl_s1_in L i hx with h | h
    · rw [h]; exact hv
    · exact hL.2 x h
theorem nl_lh_s2 {G : nl_G} {ls ls' : Array Slot} {nL i : Nat} {L : nl_Ls} (v : nl_V) (hL : nl_lh G ls nL L) (hs : lv_has ls' nL ((i, nl_cv G v) :: (nl_tl G 0 L).filter (fun q => !(q.1 == i) && (!(q.1 == i + 1) && !(q.1 + 1 == i && q.2.category == 2))))) (hv : nl_okv G v) : nl_lh G ls' nL (nl_s2 L i v) := by
  refine ⟨nl_lv_mono hs fun q hq => ?_, fun x hx => ?_⟩
  · obtain ⟨hq, hn⟩ := nl_set_tl _ _ _ q hq
    rw [Nat.zero_add] at hn
    rcases nl_s1_tl L i 0 q hq with h | ⟨h, h2, h3⟩
    · rw [Nat.zero_add] at h
      rw [h]; exact List.mem_cons_self
    · rw [Nat.zero_add] at h2 h3
      refine List.mem_cons_of_mem _ (List.mem_filter.mpr ⟨h, ?_⟩)
      simp only [Bool.and_eq_true, Bool.not_eq_true', beq_eq_false_iff_ne, ne_eq, Bool.and_eq_false_iff]
      exact ⟨h2, hn, Decidable.not_and_iff_or_not.mp h3⟩
  · have hx : some x ∈ nl_s1 L i v := by
      rcases List.mem_or_eq_of_mem_set hx with h | h
      · exact h
      · cases h
    rcases nl_s1_in L i hx with h | h
    · rw [h]; exact hv
    · exact hL.2 x h
