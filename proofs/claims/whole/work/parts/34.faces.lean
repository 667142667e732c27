/-! What is called from without: the reads. -/
theorem sp_canBeLaid {LS : Int} {n : Nat} (hn : 1 ≤ n) {h : nl_H} (h5 : 0 ≤ h 1 0 5 0 ∧ h 1 0 5 0 ≤ 7) (h6 : 0 ≤ h 1 0 6 0 ∧ h 1 0 6 0 ≤ 7) (h7 : -1 ≤ h 1 0 7 0 ∧ h 1 0 7 0 ≤ 300) : nl_c LS n m_X1_canBeLaid [vO 1 0] h = some (if h 1 0 7 0 = -1 ∧ 2 ≤ h 1 0 5 0 ∧ h 1 0 5 0 = h 1 0 6 0 then 1 else 0, h) := by
  obtain ⟨n, rfl, hn1⟩ := nl_suc hn
  refine cl_X1_canBeLaid (.ret ?_)
  rw [sg_X1_canBeLaid_0]
  by_cases q1 : h 1 0 7 0 = -1 <;> by_cases q2 : h 1 0 5 0 < 2 <;> by_cases q3 : h 1 0 5 0 = h 1 0 6 0 <;> first | (exfalso; omega) | simp (disch := omega) only [nx_of, if_pos, if_neg, if_true, if_false, true_or, or_true, Int.toNat_natCast, Option.bind_some]
def rHouse (V : nl_O) (x y : Int) : Int :=
  if 0 ≤ x ∧ x < V 0 0 then (if y = 0 then V 4 x.toNat else if y = 1 then V 5 x.toNat else if y = 2 then V 6 x.toNat else if y = 3 then V 7 x.toNat else if y = 4 then V 8 x.toNat else if y = 5 then V 9 x.toNat else -1) else -1
theorem pu_house {LS : Int} {n : Nat} (hn : 2 ≤ n) {h : nl_H} {x y N : Int} (hx : nl_inR x) (hy : nl_inR y) (hV : vok N (h 4 0)) : nl_c LS n m_X5_house [vO 5 0, vI x, vI y] h = some (rHouse (h 4 0) x y, h) := by
  obtain ⟨n, rfl, hn1⟩ := nl_suc hn
  have hn9 := hV.1
  have c1 := sp_isHouse (LS := LS) hn1 (h := h) (o := 0) hx (by omega)
  obtain ⟨hx1, hx2⟩ := hx
  obtain ⟨hy1, hy2⟩ := hy
  refine cl_X5_house (.ret ?_)
  rw [sg_X5_house_0]
  unfold rHouse
  by_cases q : 0 ≤ x ∧ x < h 4 0 0 0
  · rw [if_pos q] at c1 ⊢
    by_cases y0 : y = 0
    · simp (disch := omega) only [nx_of, if_pos, if_neg, if_true, if_false, true_or, or_true, Int.toNat_natCast, Option.bind_some, c1]
    by_cases y1 : y = 1
    · simp (disch := omega) only [nx_of, if_pos, if_neg, if_true, if_false, true_or, or_true, Int.toNat_natCast, Option.bind_some, c1]
    by_cases y2 : y = 2
    · simp (disch := omega) only [nx_of, if_pos, if_neg, if_true, if_false, true_or, or_true, Int.toNat_natCast, Option.bind_some, c1]
    by_cases y3 : y = 3
    · simp (disch := omega) only [nx_of, if_pos, if_neg, if_true, if_false, true_or, or_true, Int.toNat_natCast, Option.bind_some, c1]
    by_cases y4 : y = 4
    · simp (disch := omega) only [nx_of, if_pos, if_neg, if_true, if_false, true_or, or_true, Int.toNat_natCast, Option.bind_some, c1]
    by_cases y5 : y = 5
    · simp (disch := omega) only [nx_of, if_pos, if_neg, if_true, if_false, true_or, or_true, Int.toNat_natCast, Option.bind_some, c1]
    simp (disch := omega) only [nx_of, if_pos, if_neg, if_true, if_false, true_or, or_true, Int.toNat_natCast, Option.bind_some, c1]
  · rw [if_neg q] at c1 ⊢
    simp (disch := omega) only [nx_of, if_pos, if_neg, if_true, if_false, true_or, or_true, Int.toNat_natCast, Option.bind_some, c1]
def rHour (V : nl_O) (x y : Int) : Int :=
  if 0 ≤ x ∧ x < V 0 0 ∧ 0 ≤ y ∧ y ≤ 1 then (if y = 0 then V 3 x.toNat else vWho V x (vN V) 0) else -1
theorem pu_hour {LS : Int} {n : Nat} (hn : 2 ≤ n) {h : nl_H} {x y N : Int} (hx : nl_inR x) (hy : nl_inR y) (hV : vok N (h 4 0)) : nl_c LS n m_X5_hour [vO 5 0, vI x, vI y] h = some (rHour (h 4 0) x y, h) := by
  obtain ⟨n, rfl, hn1⟩ := nl_suc hn
  have hn9 := hV.1
  have c1 := sp_isHour (LS := LS) hn1 (h := h) (o := 0) hx (by omega)
  have c2 := sp_isWithin (LS := LS) hn1 (h := h) (a := 0) (b := 1) hy ⟨by omega, by omega⟩ ⟨by omega, by omega⟩
  have c3 := sp_houseWith (LS := LS) hn1 (h := h) (o := 0) hx hV
  obtain ⟨hx1, hx2⟩ := hx
  obtain ⟨hy1, hy2⟩ := hy
  refine cl_X5_hour (.ret ?_)
  rw [sg_X5_hour_0]
  unfold rHour
  by_cases q : 0 ≤ x ∧ x < h 4 0 0 0
  · rw [if_pos q] at c1
    by_cases q2 : 0 ≤ y ∧ y ≤ 1
    · rw [if_pos q2] at c2
      rw [if_pos ⟨q.1, q.2, q2.1, q2.2⟩]
      by_cases y0 : y = 0
      · simp (disch := omega) only [nx_of, if_pos, if_neg, if_true, if_false, true_or, or_true, Int.toNat_natCast, Option.bind_some, c1, c2]
      · simp (disch := omega) only [nx_of, if_pos, if_neg, if_true, if_false, true_or, or_true, Int.toNat_natCast, Option.bind_some, c1, c2, c3]
    · rw [if_neg q2] at c2
      rw [if_neg (fun z => q2 ⟨z.2.2.1, z.2.2.2⟩)]
      simp (disch := omega) only [nx_of, if_pos, if_neg, if_true, if_false, true_or, or_true, Int.toNat_natCast, Option.bind_some, c1, c2]
  · rw [if_neg q] at c1
    rw [if_neg (fun z => q ⟨z.1, z.2.1⟩)]
    simp (disch := omega) only [nx_of, if_pos, if_neg, if_true, if_false, true_or, or_true, Int.toNat_natCast, Option.bind_some, c1]
def rHeavy (V : nl_O) (x y : Int) : Int :=
  if (0 ≤ x ∧ x < V 0 0) ∧ 0 ≤ y ∧ y < V 0 0 then vHv V x.toNat y.toNat else -1
theorem pu_heavy {LS : Int} {n : Nat} (hn : 3 ≤ n) {h : nl_H} {x y N : Int} (hx : nl_inR x) (hy : nl_inR y) (hN : N ≤ 100000) (hV : vok N (h 4 0)) : nl_c LS n m_X5_heavy [vO 5 0, vI x, vI y] h = some (rHeavy (h 4 0) x y, h) := by
  obtain ⟨n, rfl, hn1⟩ := nl_suc hn
  have hn9 := hV.1
  have c1 := sp_isHouse (LS := LS) (n := n) (by omega) (h := h) (o := 0) hx (by omega)
  have c2 := sp_isHour (LS := LS) (n := n) (by omega) (h := h) (o := 0) hy (by omega)
  refine cl_X5_heavy (.ret ?_)
  rw [sg_X5_heavy_0]
  unfold rHeavy
  by_cases q : 0 ≤ x ∧ x < h 4 0 0 0
  · rw [if_pos q] at c1
    by_cases q2 : 0 ≤ y ∧ y < h 4 0 0 0
    · rw [if_pos q2] at c2
      rw [if_pos ⟨q, q2⟩]
      obtain ⟨i, rfl⟩ : ∃ i : Nat, x = i := ⟨x.toNat, by omega⟩
      obtain ⟨k, rfl⟩ : ∃ k : Nat, y = k := ⟨y.toNat, by omega⟩
      have c3 := sp_heaviness (LS := LS) hn1 (h := h) (o := 0) (i := i) (k := k) hN hV q.2 q2.2
      simp (disch := omega) only [nx_of, if_pos, if_neg, if_true, if_false, true_or, or_true, Int.toNat_natCast, Option.bind_some, c1, c2, c3]
    · rw [if_neg q2] at c2
      rw [if_neg (fun z => q2 z.2)]
      simp (disch := omega) only [nx_of, if_pos, if_neg, if_true, if_false, true_or, or_true, Int.toNat_natCast, Option.bind_some, c1, c2]
  · rw [if_neg q] at c1
    rw [if_neg (fun z => q z.1)]
    simp (disch := omega) only [nx_of, if_pos, if_neg, if_true, if_false, true_or, or_true, Int.toNat_natCast, Option.bind_some, c1]
def rHad (V : nl_O) (x y : Int) : Int :=
  if (0 ≤ x ∧ x < V 0 0) ∧ 0 ≤ y ∧ y < V 0 0 then V 10 (x.toNat * 7 + y.toNat) else -1
theorem pu_had {LS : Int} {n : Nat} (hn : 3 ≤ n) {h : nl_H} {x y N : Int} (hx : nl_inR x) (hy : nl_inR y) (hV : vok N (h 4 0)) : nl_c LS n m_X5_had [vO 5 0, vI x, vI y] h = some (rHad (h 4 0) x y, h) := by
  obtain ⟨n, rfl, hn1⟩ := nl_suc hn
  have hn9 := hV.1
  have c1 := sp_isHouse (LS := LS) (n := n) (by omega) (h := h) (o := 0) hx (by omega)
  have c2 := sp_isHour (LS := LS) (n := n) (by omega) (h := h) (o := 0) hy (by omega)
  refine cl_X5_had (.ret ?_)
  rw [sg_X5_had_0]
  unfold rHad
  by_cases q : 0 ≤ x ∧ x < h 4 0 0 0
  · rw [if_pos q] at c1
    by_cases q2 : 0 ≤ y ∧ y < h 4 0 0 0
    · rw [if_pos q2] at c2
      rw [if_pos ⟨q, q2⟩]
      obtain ⟨i, rfl⟩ : ∃ i : Nat, x = i := ⟨x.toNat, by omega⟩
      obtain ⟨k, rfl⟩ : ∃ k : Nat, y = k := ⟨y.toNat, by omega⟩
      have c3 := sp_timesHad (LS := LS) (n := n) (by omega) (h := h) (o := 0) (i := i) (k := k) (by omega) (by omega)
      simp (disch := omega) only [nx_of, if_pos, if_neg, if_true, if_false, true_or, or_true, Int.toNat_natCast, Option.bind_some, c1, c2, c3]
    · rw [if_neg q2] at c2
      rw [if_neg (fun z => q2 z.2)]
      simp (disch := omega) only [nx_of, if_pos, if_neg, if_true, if_false, true_or, or_true, Int.toNat_natCast, Option.bind_some, c1, c2]
  · rw [if_neg q] at c1
    rw [if_neg (fun z => q z.1)]
    simp (disch := omega) only [nx_of, if_pos, if_neg, if_true, if_false, true_or, or_true, Int.toNat_natCast, Option.bind_some, c1]
def rFar (V : nl_O) (x : Int) : Int :=
  if 0 ≤ x ∧ x ≤ 1 then (if x = 0 then vWay V (vN V - 1) 1 else if vHi V (vN V) - vLo V (vN V) < 0 then 0 else vHi V (vN V) - vLo V (vN V)) else -1
theorem pu_far {LS : Int} {n : Nat} (hn : 3 ≤ n) {h : nl_H} {x N : Int} (hx : nl_inR x) (hV : vok N (h 4 0)) : nl_c LS n m_X5_far [vO 5 0, vI x] h = some (rFar (h 4 0) x, h) := by
  obtain ⟨n, rfl, hn1⟩ := nl_suc hn
  have hn9 := hV.1
  have c2 := sp_isWithin (LS := LS) (n := n) (by omega) (h := h) (a := 0) (b := 1) hx ⟨by omega, by omega⟩ ⟨by omega, by omega⟩
  have c3 := sp_handingOver (LS := LS) hn1 (h := h) (o := 0) hV
  have c4 := sp_lengthOfRoad (LS := LS) (n := n) (by omega) (h := h) (o := 0) hV
  obtain ⟨hx1, hx2⟩ := hx
  refine cl_X5_far (.ret ?_)
  rw [sg_X5_far_0]
  unfold rFar
  by_cases q : 0 ≤ x ∧ x ≤ 1
  · rw [if_pos q] at c2 ⊢
    by_cases x0 : x = 0
    · rw [if_pos x0]; simp (disch := omega) only [nx_of, if_pos, if_neg, if_true, if_false, true_or, or_true, Int.toNat_natCast, Option.bind_some, c2, c3]
    · rw [if_neg x0]; simp (disch := omega) only [nx_of, if_pos, if_neg, if_true, if_false, true_or, or_true, Int.toNat_natCast, Option.bind_some, c2, c4]
  · rw [if_neg q] at c2 ⊢
    simp (disch := omega) only [nx_of, if_pos, if_neg, if_true, if_false, true_or, or_true, Int.toNat_natCast, Option.bind_some, c2]
theorem pu_wipe {LS : Int} {n : Nat} (hn : 1 ≤ n) {h : nl_H} : nl_c LS n m_X5_wipe [vO 5 0] h = some (h 5 0 1 0, so h 5 0 (vu (h 5 0) 1 0 0)) := by
  obtain ⟨n, rfl, hn1⟩ := nl_suc hn
  refine cl_X5_wipe (.ret ?_)
  rw [sg_X5_wipe_0]
  simp (disch := omega) only [nx_of, if_pos, if_neg, if_true, if_false, true_or, or_true, Int.toNat_natCast, Option.bind_some, up_so]
theorem pu_forget {LS : Int} {n : Nat} (hn : 2 ≤ n) {h : nl_H} : nl_c LS n m_X5_forget [vO 5 0] h = some (h 3 0 3 0, so h 3 0 (vu (h 3 0) 3 0 0)) := by
  obtain ⟨n, rfl, hn1⟩ := nl_suc hn
  have c1 := sp_seClear (LS := LS) hn1 (h := h)
  refine cl_X5_forget (.ret ?_)
  rw [sg_X5_forget_0]
  simp (disch := omega) only [nx_of, if_pos, if_neg, if_true, if_false, true_or, or_true, Int.toNat_natCast, Option.bind_some, c1]
theorem pu_write {LS : Int} {n : Nat} (hn : 2 ≤ n) {h : nl_H} {x : Int} {L : Nat} (hx : nl_inR x) (hL : h 5 0 1 0 = (L : Int)) (hL2 : L ≤ 200) : nl_c LS n m_X5_write [vO 5 0, vI x] h = some (if 32 ≤ x ∧ x ≤ 126 then (if L < 200 then ((L : Int) + 1, so h 5 0 (vu (vu (h 5 0) 0 L x) 1 0 ((L : Int) + 1))) else (-3, h)) else (-1, h)) := by
  obtain ⟨n, rfl, hn1⟩ := nl_suc hn
  have c2 := sp_isWithin (LS := LS) hn1 (h := h) (a := 32) (b := 126) hx ⟨by omega, by omega⟩ ⟨by omega, by omega⟩
  refine cl_X5_write (.ret ?_)
  rw [sg_X5_write_0]
  by_cases q : 32 ≤ x ∧ x ≤ 126
  · rw [if_pos q] at c2 ⊢
    by_cases q2 : L < 200
    · rw [if_pos q2]
      simp (disch := omega) only [nx_of, if_pos, if_neg, if_true, if_false, true_or, or_true, Int.toNat_natCast, Option.bind_some, c2, hL, up_so, so_at, so_so, vu_k, vu_at]
    · rw [if_neg q2]
      simp (disch := omega) only [nx_of, if_pos, if_neg, if_true, if_false, true_or, or_true, Int.toNat_natCast, Option.bind_some, c2, hL]
  · rw [if_neg q] at c2 ⊢
    simp (disch := omega) only [nx_of, if_pos, if_neg, if_true, if_false, true_or, or_true, Int.toNat_natCast, Option.bind_some, c2]
