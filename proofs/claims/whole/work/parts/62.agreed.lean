/-! What is gone through and put back: behind, winter. -/
/-- W is V started, whatever went by since -/
def mk (W V : nl_O) : Prop := mfx W V ∧ (∀ j, W 25 j = mLy V 25 0 25 j) ∧ ∀ k i : Nat, (11 ≤ k ∧ k ≤ 16) ∨ k = 23 ∨ k = 24 ∨ k = 28 ∨ k = 29 → W k i = V k i
theorem mk_0 (V : nl_O) : mk (mLy V 25 0) V := ⟨mfx_of fun k i hk => mLy_o (by omega), fun _ => rfl, fun k i hk => mLy_o (by omega)⟩
theorem mk_o {U W V : nl_O} (h : mk W V) (e : ∀ k i : Nat, k = 0 ∨ (4 ≤ k ∧ k ≤ 6) ∨ 10 < k → U k i = W k i) : mk U V :=
  ⟨mfx_trans (mfx_of fun k i hk => e k i (by omega)) h.1, fun j => by rw [e 25 j (by omega)]; exact h.2.1 j, fun k i hk => by rw [e k i (by omega)]; exact h.2.2 k i hk⟩
theorem mk_pass {W V : nl_O} (h : mk W V) (d : Nat) : mk (vPass d W) V := mk_o h fun k i hk => by
  by_cases q : 10 < k
  · exact vPass_hi q _ _
  · exact vPass_lo (by omega) (by omega) (by omega)
theorem mk_rest {W V : nl_O} (h : mk W V) (i : Nat) : mk (vRest W i) V := mk_o h fun k j hk => by unfold vRest; rw [vu_k (by omega)]
theorem mk_stir {W V : nl_O} (h : mk W V) (x : Nat) : mk (vStir W x) V := mk_o h fun k j hk => by
  unfold vStir
  split
  · unfold vTrade; rw [vu_k (by omega), vu_k (by omega)]
  · split
    · unfold vRest; rw [vu_k (by omega)]
    · split
      · rw [vu_k (by omega)]
      · rfl
theorem mk_back {W V : nl_O} (h7 : V 0 0 ≤ 7) (h : mk W V) : ms (mTk W 25 0) V := ms_back h7 h.1 h.2.1 h.2.2
theorem mLy_veq {V : nl_O} {k a : Nat} (hk : 10 < k) : veq (mLy V k a) V := ⟨⟨mLy_o (by omega), mLy_o (by omega), mLy_o (by omega)⟩, fun _ _ _ _ _ => mLy_o (by omega), fun _ _ _ _ => mLy_o (by omega)⟩
theorem sq_behind {LS : Int} {n : Nat} (hn : 7 ≤ n) {h : nl_H} {V : nl_O} {x y z N : Int} (hx : nl_inR x) (hy : nl_inR y) (hz : nl_inR z) (hN : N ≤ 80000) (hV : vok N V) : ∃ W, nl_c LS n m_X6_behind [vO 6 0, vI x, vI y, vI z] (sm h V) = some (rBehind V x y z, sm h W) ∧ ms W V := by
  obtain ⟨n, rfl, hn1⟩ := nl_suc hn
  have h0 := hV.1
  have c1 := sq_in (LS := LS) (n := n) (by omega) (h := sm h V) (x := x) (a := 0) (b := 40) hx (by omega) (by omega)
  have c2 := sq_isOne (LS := LS) (n := n) (by omega) (h := h) (V := V) hy (by omega)
  have c3 := sq_in (LS := LS) (n := n) (by omega) (h := sm h V) (x := z) (a := 0) (b := 1) hz (by omega) (by omega)
  have c4 := sq_start (LS := LS) (n := n) (by omega) (h := h) (V := V)
  obtain ⟨hx1, hx2⟩ := hx
  obtain ⟨hy1, hy2⟩ := hy
  obtain ⟨hz1, hz2⟩ := hz
  unfold rBehind
  by_cases q1 : 0 ≤ x ∧ x ≤ 40
  · rw [if_pos q1] at c1
    by_cases q2 : 0 ≤ y ∧ y < V 0 0
    · rw [if_pos q2] at c2
      by_cases q3 : 0 ≤ z ∧ z ≤ 1
      · rw [if_pos q3] at c3
        rw [if_pos ⟨q1, q2, q3⟩]
        obtain ⟨d, rfl⟩ : ∃ d : Nat, x = d := ⟨x.toNat, by omega⟩
        obtain ⟨i, rfl⟩ : ∃ i : Nat, y = i := ⟨y.toNat, by omega⟩
        have e0 := mLy_veq (V := V) (k := 25) (a := 0) (by omega)
        have hL := vok_veq hV e0
        have c5 := sq_goesOn (LS := LS) (n := n) hn1 (h := h) (V := mLy V 25 0) (d := d) (by omega) hN hL
        have c6 := sq_putBack (LS := LS) (n := n) (by omega) (h := h) (V := vPass d (mLy V 25 0))
        have ev := vPass_veq (d := d) hL e0
        have z0 : vPass d (mLy V 25 0) 0 0 = V 0 0 := by rw [(vPass_ok hL).2]; exact e0.1.1
        have e7 : vPass d (mLy V 25 0) 7 i = vPass d V 7 i := ev.2.1 7 i (by omega) (by omega) (by omega)
        have e8 : vPass d (mLy V 25 0) 8 i = vPass d V 8 i := ev.2.1 8 i (by omega) (by omega) (by omega)
        refine ⟨mTk (vPass d (mLy V 25 0)) 25 0, ?_, mk_back (by omega) (mk_pass (mk_0 V) d)⟩
        refine cl_X6_behind (.ret ?_)
        rw [sg_X6_behind_0]
        by_cases q4 : z = 0
        · rw [if_pos q4]
          simp (disch := omega) only [↓reduceIte, i_le, i_nle, i_lt, i_nlt, i_eq, i_ne, and_self, and_true, true_and, and_false, false_and, or_true, true_or, or_false, false_or, nx_of, Int.toNat_natCast, Option.bind_some, rm_0, rm_1, rm_2, rm_3, rm_4, rm_5, rm_6, rm_7, rm_8, rm_9, rm_10, rm_11, rm_12, rm_13, rm_14, rm_15, rm_16, rm_17, rm_18, rm_19, rm_20, rm_21, rm_22, rm_23, rm_24, rm_25, rm_26, rm_27, rm_28, rm_29, um_0, um_1, um_2, um_3, um_4, um_5, um_6, um_7, um_8, um_9, um_10, um_11, um_12, um_13, um_14, um_15, um_16, um_17, um_18, um_19, um_20, um_21, um_22, um_23, um_24, um_25, um_26, um_27, um_28, um_29, rm_k, um_k, vu_at, vu_ne, ↓bd c1, ↓bd c2, ↓bd c3, ↓bd c4, ↓bd c5, ↓bd c6, c1, c2, c3, c4, c5, c6, e7]
        · rw [if_neg q4]
          simp (disch := omega) only [↓reduceIte, i_le, i_nle, i_lt, i_nlt, i_eq, i_ne, and_self, and_true, true_and, and_false, false_and, or_true, true_or, or_false, false_or, nx_of, Int.toNat_natCast, Option.bind_some, rm_0, rm_1, rm_2, rm_3, rm_4, rm_5, rm_6, rm_7, rm_8, rm_9, rm_10, rm_11, rm_12, rm_13, rm_14, rm_15, rm_16, rm_17, rm_18, rm_19, rm_20, rm_21, rm_22, rm_23, rm_24, rm_25, rm_26, rm_27, rm_28, rm_29, um_0, um_1, um_2, um_3, um_4, um_5, um_6, um_7, um_8, um_9, um_10, um_11, um_12, um_13, um_14, um_15, um_16, um_17, um_18, um_19, um_20, um_21, um_22, um_23, um_24, um_25, um_26, um_27, um_28, um_29, rm_k, um_k, vu_at, vu_ne, ↓bd c1, ↓bd c2, ↓bd c3, ↓bd c4, ↓bd c5, ↓bd c6, c1, c2, c3, c4, c5, c6, e8]
      · rw [if_neg q3] at c3
        rw [if_neg (by omega)]
        refine ⟨V, cl_X6_behind (.ret ?_), ms_refl V⟩
        rw [sg_X6_behind_0]
        simp (disch := omega) only [↓reduceIte, i_le, i_nle, i_lt, i_nlt, i_eq, i_ne, and_self, and_true, true_and, and_false, false_and, or_true, true_or, or_false, false_or, nx_of, Int.toNat_natCast, Option.bind_some, rm_0, rm_1, rm_2, rm_3, rm_4, rm_5, rm_6, rm_7, rm_8, rm_9, rm_10, rm_11, rm_12, rm_13, rm_14, rm_15, rm_16, rm_17, rm_18, rm_19, rm_20, rm_21, rm_22, rm_23, rm_24, rm_25, rm_26, rm_27, rm_28, rm_29, um_0, um_1, um_2, um_3, um_4, um_5, um_6, um_7, um_8, um_9, um_10, um_11, um_12, um_13, um_14, um_15, um_16, um_17, um_18, um_19, um_20, um_21, um_22, um_23, um_24, um_25, um_26, um_27, um_28, um_29, rm_k, um_k, vu_at, vu_ne, ↓bd c1, ↓bd c2, ↓bd c3, c1, c2, c3]
    · rw [if_neg q2] at c2
      rw [if_neg (by omega)]
      refine ⟨V, cl_X6_behind (.ret ?_), ms_refl V⟩
      rw [sg_X6_behind_0]
      simp (disch := omega) only [↓reduceIte, i_le, i_nle, i_lt, i_nlt, i_eq, i_ne, and_self, and_true, true_and, and_false, false_and, or_true, true_or, or_false, false_or, nx_of, Int.toNat_natCast, Option.bind_some, rm_0, rm_1, rm_2, rm_3, rm_4, rm_5, rm_6, rm_7, rm_8, rm_9, rm_10, rm_11, rm_12, rm_13, rm_14, rm_15, rm_16, rm_17, rm_18, rm_19, rm_20, rm_21, rm_22, rm_23, rm_24, rm_25, rm_26, rm_27, rm_28, rm_29, um_0, um_1, um_2, um_3, um_4, um_5, um_6, um_7, um_8, um_9, um_10, um_11, um_12, um_13, um_14, um_15, um_16, um_17, um_18, um_19, um_20, um_21, um_22, um_23, um_24, um_25, um_26, um_27, um_28, um_29, rm_k, um_k, vu_at, vu_ne, ↓bd c1, ↓bd c2, c1, c2]
  · rw [if_neg q1] at c1
    rw [if_neg (by omega)]
    refine ⟨V, cl_X6_behind (.ret ?_), ms_refl V⟩
    rw [sg_X6_behind_0]
    simp (disch := omega) only [↓reduceIte, i_le, i_nle, i_lt, i_nlt, i_eq, i_ne, and_self, and_true, true_and, and_false, false_and, or_true, true_or, or_false, false_or, nx_of, Int.toNat_natCast, Option.bind_some, rm_0, rm_1, rm_2, rm_3, rm_4, rm_5, rm_6, rm_7, rm_8, rm_9, rm_10, rm_11, rm_12, rm_13, rm_14, rm_15, rm_16, rm_17, rm_18, rm_19, rm_20, rm_21, rm_22, rm_23, rm_24, rm_25, rm_26, rm_27, rm_28, rm_29, um_0, um_1, um_2, um_3, um_4, um_5, um_6, um_7, um_8, um_9, um_10, um_11, um_12, um_13, um_14, um_15, um_16, um_17, um_18, um_19, um_20, um_21, um_22, um_23, um_24, um_25, um_26, um_27, um_28, um_29, rm_k, um_k, vu_at, vu_ne, ↓bd c1, c1]
theorem rBehind_veq {N : Int} {V W : nl_O} (hV : vok N V) (h : veq V W) (x y z : Int) : rBehind V x y z = rBehind W x y z := by
  have e := h.1.1
  have ev := vPass_veq (d := x.toNat) hV h
  have z0 : vPass x.toNat V 0 0 = V 0 0 := (vPass_ok hV).2
  unfold rBehind
  by_cases q : (0 ≤ x ∧ x ≤ 40) ∧ (0 ≤ y ∧ y < V 0 0) ∧ 0 ≤ z ∧ z ≤ 1
  · have q' : (0 ≤ x ∧ x ≤ 40) ∧ (0 ≤ y ∧ y < W 0 0) ∧ 0 ≤ z ∧ z ≤ 1 := by omega
    rw [if_pos q, if_pos q', ev.2.1 7 _ (by omega) (by omega) (by omega), ev.2.1 8 _ (by omega) (by omega) (by omega)]
  · rw [if_neg q, if_neg (by omega)]
theorem ag_behind {LS : Int} {n : Nat} (hn : 20 ≤ n) {g : nl_H} (r : rg g) {x y z : Int} (hx : nl_inR x) (hy : nl_inR y) (hz : nl_inR z) : ag LS n m_X5_behind m_X6_behind [vI x, vI y, vI z] g := by
  have hV := vgd_N r.1
  obtain ⟨W, c⟩ := pu_behind (LS := LS) (n := n) (by omega) (h := g) hx hy hz (by omega) (vok_veq hV r.2.1)
  obtain ⟨U, m, s⟩ := sq_behind (LS := LS) (n := n) (by omega) (h := so g 4 1 W) hx hy hz (by omega) hV
  exact ag_of rfl c (so_ne (by omega)) m (rBehind_veq hV (veq_symm r.2.1) x y z) (rl_ms (rl_so r (by omega)) s)
theorem vTr_self {V : nl_O} {a : Nat} : vTrade V a a = V := by unfold vTrade; rw [vu_self, vu_self]
theorem mk_wi (z : Nat) : ∀ (e t : Nat) {W V : nl_O}, mk W V → mk (vWi z e t W).1 V := by
  intro e
  induction e with
  | zero => intro t W V h; exact h
  | succ e ih => intro t W V h; exact ih (t + 1) (mk_pass (mk_stir h _) 1)
theorem hDr {z t : Nat} (hz : z ≤ 9999) (ht : t ≤ 60) : (nl_nl ((nl_nl ((((7919 * (nl_nz (z : Int))) + (6151 * (nl_nz (t : Int)))) + 1) * (((7919 * (nl_nz (z : Int))) + (6151 * (nl_nz (t : Int)))) + 1))).tmod (nl_nl 65521))).tdiv (nl_nl 2) = ((dr z t : Nat) : Int) := by
  have z1 : nl_nz (z : Int) = z := nz_nat (by omega)
  have z2 : nl_nz (t : Int) = t := nz_nat (by omega)
  rw [z1, z2]
  have e1 : (7919 * (z : Int) + 6151 * (t : Int)) + 1 = ((7919 * z + 6151 * t + 1 : Nat) : Int) := by omega
  rw [e1]
  unfold dr
  generalize hX : 7919 * z + 6151 * t + 1 = X
  have hX2 : X ≤ 80000000 := by omega
  have hm := Nat.mul_le_mul hX2 hX2
  have e2 : (X : Int) * (X : Int) = ((X * X : Nat) : Int) := by rw [Int.natCast_mul]
  rw [e2]
  generalize X * X = Y at hm ⊢
  have l1 : nl_nl (Y : Int) = Y := nx_ofL (by omega) (by omega)
  have l2 : nl_nl 65521 = ((65521 : Nat) : Int) := nx_ofL (by omega) (by omega)
  have l3 : nl_nl 2 = ((2 : Nat) : Int) := nx_ofL (by omega) (by omega)
  have hmod : Y % 65521 < 65521 := Nat.mod_lt _ (by omega)
  have l4 : nl_nl ((Y % 65521 : Nat) : Int) = ((Y % 65521 : Nat) : Int) := nx_ofL (by omega) (by omega)
  rw [l1, l2, l3, nx_tm, l4, nx_td]
theorem st_winter6 {LS : Int} {n : Nat} (hn : 5 ≤ n) {h : nl_H} {z t m : Nat} {y g N : Int} {V : nl_O} (w6 w8 w9 w10 w11 : Option nl_V) (hz : z ≤ 9999) (ht : t < m) (hm : m ≤ 60) (hg : 0 ≤ g ∧ g ≤ 7 * t) (hN : N ≤ 80000) (hV : vok N V) : nl_ex LS cd_X6_winter (nl_c LS n) ct_X6_winter 1 400 42 [some (vO 6 0), some (vI (z : Int)), some (vI (m : Int)), some (vI y), some (vI g), some (vI (t : Int)), w6, none, w8, w9, w10, w11] [] (sm h V) = some (.inl (42, [some (vO 6 0), some (vI (z : Int)), some (vI (m : Int)), some (vI y), some (vI (g + (vNights 1 (vStir V (dr z t))).2)), some (vI ((t : Int) + 1)), some (vL (7919 * (z : Int) + 6151 * (t : Int) + 1)), none, some (vI ((dr z t : Nat) : Int)), some (vI ((dr z t % vN V : Nat) : Int)), some (vI ((dr z t / 8 % vN V : Nat) : Int)), some (vI ((dr z t / 64 % 4 : Nat) : Int))], sm h (vPass 1 (vStir V (dr z t))))) := by
  have h0 := hV.1
  have hvn := vN_eq hV
  have hD := hDr hz (show t ≤ 60 by omega)
  have hx : dr z t < 100000 := by unfold dr; omega
  generalize dr z t = x at hD hx ⊢
  have ha : x % vN V < vN V := Nat.mod_lt _ (by omega)
  have hb : x / 8 % vN V < vN V := Nat.mod_lt _ (by omega)
  have b1 := hV.2.2.2.1 (x % vN V) (by omega)
  have e1 : ((x : Int).tmod (V 0 0)) = ((x % vN V : Nat) : Int) := by rw [← hvn]; exact nx_tm _ _
  have e2 : ((x : Int).tdiv 8) = ((x / 8 : Nat) : Int) := nx_td x 8
  have e3 : (((x / 8 : Nat) : Int).tmod (V 0 0)) = ((x / 8 % vN V : Nat) : Int) := by rw [← hvn]; exact nx_tm _ _
  have e4 : ((x : Int).tdiv 64) = ((x / 64 : Nat) : Int) := nx_td x 64
  have e5 : (((x / 64 : Nat) : Int).tmod 4) = ((x / 64 % 4 : Nat) : Int) := nx_tm (x / 64) 4
  have e6 : ((x : Int).tdiv 256) = ((x / 256 : Nat) : Int) := nx_td x 256
  have e7 : (((x / 256 : Nat) : Int).tmod 21) = ((x / 256 % 21 : Nat) : Int) := nx_tm (x / 256) 21
  have l2 : nl_nl 65521 = 65521 := nx_ofL (by omega) (by omega)
  have l3 : nl_nl 2 = 2 := nx_ofL (by omega) (by omega)
  obtain ⟨k, hk⟩ : ∃ k : Nat, V 8 (x % vN V) = k := ⟨(V 8 (x % vN V)).toNat, by omega⟩
  have c1 := sq_trades (LS := LS) (n := n) (by omega) (h := h) (V := V) (a := x % vN V) (b := x / 8 % vN V) (by omega) (by omega)
  have c2 := sq_rests (LS := LS) (n := n) (by omega) (h := h) (V := V) (i := x % vN V) (by omega) b1.2.2.2.2.1
  have hS := vStir_ok hV x
  have c4 := sq_passes (LS := LS) (n := n) hn (h := h) (V := vStir V x) (N := N) (by omega) hS.1
  unfold vStir at c4 ⊢
  have h4 : x / 64 % 4 = 0 ∨ x / 64 % 4 = 1 ∨ x / 64 % 4 = 2 ∨ x / 64 % 4 = 3 := by omega
  generalize hq : x / 64 % 4 = q at h4 e5 c4 ⊢
  rcases h4 with rfl | rfl | rfl | rfl
  · rw [if_pos rfl] at c4 ⊢
    by_cases p : x % vN V = x / 8 % vN V
    · rw [← p, vTr_self] at c4 ⊢
      rw [sg_X6_winter_42]
      simp only [hD]
      simp (disch := omega) only [↓reduceIte, i_le, i_nle, i_lt, i_nlt, i_eq, i_ne, and_self, and_true, true_and, and_false, false_and, or_true, true_or, or_false, false_or, nx_of, Int.toNat_natCast, Option.bind_some, rm_0, rm_1, rm_2, rm_3, rm_4, rm_5, rm_6, rm_7, rm_8, rm_9, rm_10, rm_11, rm_12, rm_13, rm_14, rm_15, rm_16, rm_17, rm_18, rm_19, rm_20, rm_21, rm_22, rm_23, rm_24, rm_25, rm_26, rm_27, rm_28, rm_29, um_0, um_1, um_2, um_3, um_4, um_5, um_6, um_7, um_8, um_9, um_10, um_11, um_12, um_13, um_14, um_15, um_16, um_17, um_18, um_19, um_20, um_21, um_22, um_23, um_24, um_25, um_26, um_27, um_28, um_29, rm_k, um_k, vu_at, vu_ne, ↓bd c1, ↓bd c2, ↓bd c4, c1, c2, c4, e1, e2, e3, e4, e5, e6, e7, l2, l3, hk]
      rw [← p]
    · rw [sg_X6_winter_42]
      simp only [hD]
      simp (disch := omega) only [↓reduceIte, i_le, i_nle, i_lt, i_nlt, i_eq, i_ne, and_self, and_true, true_and, and_false, false_and, or_true, true_or, or_false, false_or, nx_of, Int.toNat_natCast, Option.bind_some, rm_0, rm_1, rm_2, rm_3, rm_4, rm_5, rm_6, rm_7, rm_8, rm_9, rm_10, rm_11, rm_12, rm_13, rm_14, rm_15, rm_16, rm_17, rm_18, rm_19, rm_20, rm_21, rm_22, rm_23, rm_24, rm_25, rm_26, rm_27, rm_28, rm_29, um_0, um_1, um_2, um_3, um_4, um_5, um_6, um_7, um_8, um_9, um_10, um_11, um_12, um_13, um_14, um_15, um_16, um_17, um_18, um_19, um_20, um_21, um_22, um_23, um_24, um_25, um_26, um_27, um_28, um_29, rm_k, um_k, vu_at, vu_ne, ↓bd c1, ↓bd c2, ↓bd c4, c1, c2, c4, e1, e2, e3, e4, e5, e6, e7, l2, l3, hk]
  · rw [if_neg (by omega), if_pos rfl] at c4 ⊢
    rw [sg_X6_winter_42]
    simp only [hD]
    simp (disch := omega) only [↓reduceIte, i_le, i_nle, i_lt, i_nlt, i_eq, i_ne, and_self, and_true, true_and, and_false, false_and, or_true, true_or, or_false, false_or, nx_of, Int.toNat_natCast, Option.bind_some, rm_0, rm_1, rm_2, rm_3, rm_4, rm_5, rm_6, rm_7, rm_8, rm_9, rm_10, rm_11, rm_12, rm_13, rm_14, rm_15, rm_16, rm_17, rm_18, rm_19, rm_20, rm_21, rm_22, rm_23, rm_24, rm_25, rm_26, rm_27, rm_28, rm_29, um_0, um_1, um_2, um_3, um_4, um_5, um_6, um_7, um_8, um_9, um_10, um_11, um_12, um_13, um_14, um_15, um_16, um_17, um_18, um_19, um_20, um_21, um_22, um_23, um_24, um_25, um_26, um_27, um_28, um_29, rm_k, um_k, vu_at, vu_ne, ↓bd c1, ↓bd c2, ↓bd c4, c1, c2, c4, e1, e2, e3, e4, e5, e6, e7, l2, l3, hk]
  · rw [if_neg (by omega), if_neg (by omega), if_pos rfl, hk, Int.toNat_natCast] at c4 ⊢
    rw [sg_X6_winter_42]
    simp only [hD]
    simp (disch := omega) only [↓reduceIte, i_le, i_nle, i_lt, i_nlt, i_eq, i_ne, and_self, and_true, true_and, and_false, false_and, or_true, true_or, or_false, false_or, nx_of, Int.toNat_natCast, Option.bind_some, rm_0, rm_1, rm_2, rm_3, rm_4, rm_5, rm_6, rm_7, rm_8, rm_9, rm_10, rm_11, rm_12, rm_13, rm_14, rm_15, rm_16, rm_17, rm_18, rm_19, rm_20, rm_21, rm_22, rm_23, rm_24, rm_25, rm_26, rm_27, rm_28, rm_29, um_0, um_1, um_2, um_3, um_4, um_5, um_6, um_7, um_8, um_9, um_10, um_11, um_12, um_13, um_14, um_15, um_16, um_17, um_18, um_19, um_20, um_21, um_22, um_23, um_24, um_25, um_26, um_27, um_28, um_29, rm_k, um_k, vu_at, vu_ne, ↓bd c1, ↓bd c2, ↓bd c4, c1, c2, c4, e1, e2, e3, e4, e5, e6, e7, l2, l3, hk]
  · rw [if_neg (by omega), if_neg (by omega), if_neg (by omega)] at c4 ⊢
    rw [sg_X6_winter_42]
    simp only [hD]
    simp (disch := omega) only [↓reduceIte, i_le, i_nle, i_lt, i_nlt, i_eq, i_ne, and_self, and_true, true_and, and_false, false_and, or_true, true_or, or_false, false_or, nx_of, Int.toNat_natCast, Option.bind_some, rm_0, rm_1, rm_2, rm_3, rm_4, rm_5, rm_6, rm_7, rm_8, rm_9, rm_10, rm_11, rm_12, rm_13, rm_14, rm_15, rm_16, rm_17, rm_18, rm_19, rm_20, rm_21, rm_22, rm_23, rm_24, rm_25, rm_26, rm_27, rm_28, rm_29, um_0, um_1, um_2, um_3, um_4, um_5, um_6, um_7, um_8, um_9, um_10, um_11, um_12, um_13, um_14, um_15, um_16, um_17, um_18, um_19, um_20, um_21, um_22, um_23, um_24, um_25, um_26, um_27, um_28, um_29, rm_k, um_k, vu_at, vu_ne, ↓bd c1, ↓bd c2, ↓bd c4, c1, c2, c4, e1, e2, e3, e4, e5, e6, e7, l2, l3, hk]
theorem lp_winter6 {LS : Int} {n : Nat} (hn : 5 ≤ n) {h : nl_H} {z m : Nat} {y : Int} (hz : z ≤ 9999) (hm : m ≤ 60) (hy : y = 0 ∨ y = 1 ∨ y = 2) : ∀ (e t : Nat) {N g : Int} {V : nl_O} (w6 w8 w9 w10 w11 : Option nl_V), t + e = m → N + 7 * e ≤ 80000 → vok N V → 0 ≤ g → g ≤ 7 * t → nl_Rn LS cd_X6_winter (nl_c LS n) ct_X6_winter 1 42 [some (vO 6 0), some (vI (z : Int)), some (vI (m : Int)), some (vI y), some (vI g), some (vI (t : Int)), w6, none, w8, w9, w10, w11] (sm h V) (if y = 0 then g + (vWi z e t V).2 else if y = 1 then vSum (vWi z e t V).1 7 (vN (vWi z e t V).1) 0 else (vWi z e t V).1 8 0, sm h (mTk (vWi z e t V).1 25 0)) := by
  intro e
  induction e with
  | zero =>
    intro t N g V w6 w8 w9 w10 w11 ht hN hV hg1 hg2
    have c1 := sq_putBack (LS := LS) (n := n) (by omega) (h := h) (V := V)
    have c2 := sq_tiredAll (LS := LS) (n := n) (by omega) (h := h) hV
    refine .ret ?_
    rw [sg_X6_winter_42]
    simp only [vWi]
    rw [show g + 0 = g by omega]
    rcases hy with rfl | rfl | rfl
    · simp (disch := omega) only [↓reduceIte, i_le, i_nle, i_lt, i_nlt, i_eq, i_ne, and_self, and_true, true_and, and_false, false_and, or_true, true_or, or_false, false_or, nx_of, Int.toNat_natCast, Option.bind_some, rm_0, rm_1, rm_2, rm_3, rm_4, rm_5, rm_6, rm_7, rm_8, rm_9, rm_10, rm_11, rm_12, rm_13, rm_14, rm_15, rm_16, rm_17, rm_18, rm_19, rm_20, rm_21, rm_22, rm_23, rm_24, rm_25, rm_26, rm_27, rm_28, rm_29, um_0, um_1, um_2, um_3, um_4, um_5, um_6, um_7, um_8, um_9, um_10, um_11, um_12, um_13, um_14, um_15, um_16, um_17, um_18, um_19, um_20, um_21, um_22, um_23, um_24, um_25, um_26, um_27, um_28, um_29, rm_k, um_k, vu_at, vu_ne, ↓bd c1, ↓bd c2, c1, c2]
    · simp (disch := omega) only [↓reduceIte, i_le, i_nle, i_lt, i_nlt, i_eq, i_ne, and_self, and_true, true_and, and_false, false_and, or_true, true_or, or_false, false_or, nx_of, Int.toNat_natCast, Option.bind_some, rm_0, rm_1, rm_2, rm_3, rm_4, rm_5, rm_6, rm_7, rm_8, rm_9, rm_10, rm_11, rm_12, rm_13, rm_14, rm_15, rm_16, rm_17, rm_18, rm_19, rm_20, rm_21, rm_22, rm_23, rm_24, rm_25, rm_26, rm_27, rm_28, rm_29, um_0, um_1, um_2, um_3, um_4, um_5, um_6, um_7, um_8, um_9, um_10, um_11, um_12, um_13, um_14, um_15, um_16, um_17, um_18, um_19, um_20, um_21, um_22, um_23, um_24, um_25, um_26, um_27, um_28, um_29, rm_k, um_k, vu_at, vu_ne, ↓bd c1, ↓bd c2, c1, c2]
    · simp (disch := omega) only [↓reduceIte, i_le, i_nle, i_lt, i_nlt, i_eq, i_ne, and_self, and_true, true_and, and_false, false_and, or_true, true_or, or_false, false_or, nx_of, Int.toNat_natCast, Option.bind_some, rm_0, rm_1, rm_2, rm_3, rm_4, rm_5, rm_6, rm_7, rm_8, rm_9, rm_10, rm_11, rm_12, rm_13, rm_14, rm_15, rm_16, rm_17, rm_18, rm_19, rm_20, rm_21, rm_22, rm_23, rm_24, rm_25, rm_26, rm_27, rm_28, rm_29, um_0, um_1, um_2, um_3, um_4, um_5, um_6, um_7, um_8, um_9, um_10, um_11, um_12, um_13, um_14, um_15, um_16, um_17, um_18, um_19, um_20, um_21, um_22, um_23, um_24, um_25, um_26, um_27, um_28, um_29, rm_k, um_k, vu_at, vu_ne, ↓bd c1, ↓bd c2, c1, c2]
      rfl
  | succ e ih =>
    intro t N g V w6 w8 w9 w10 w11 ht hN hV hg1 hg2
    have hS := vStir_ok hV (dr z t)
    have b := vNights_ok 1 hS.1
    have b2 := vPass_ok (d := 1) hS.1
    have k9 := ih (t + 1) (N := N + 7) (g := g + (vNights 1 (vStir V (dr z t))).2) (V := vPass 1 (vStir V (dr z t))) (some (vL (7919 * (z : Int) + 6151 * (t : Int) + 1))) (some (vI ((dr z t : Nat) : Int))) (some (vI ((dr z t % vN V : Nat) : Int))) (some (vI ((dr z t / 8 % vN V : Nat) : Int))) (some (vI ((dr z t / 64 % 4 : Nat) : Int))) (by omega) (by omega) (vok_up b2.1 (by omega)) (by omega) (by omega)
    have e1 : g + (vNights 1 (vStir V (dr z t))).2 + (vWi z e (t + 1) (vPass 1 (vStir V (dr z t)))).2 = g + (vWi z (e + 1) t V).2 := by simp only [vWi]; omega
    rw [e1] at k9
    exact .go (st_winter6 hn w6 w8 w9 w10 w11 hz (by omega) hm ⟨hg1, hg2⟩ (by omega) hV) k9
theorem sq_winter {LS : Int} {n : Nat} (hn : 6 ≤ n) {h : nl_H} {V : nl_O} {x y z N : Int} (hx : nl_inR x) (hy : nl_inR y) (hz : nl_inR z) (hN : N ≤ 70000) (hV : vok N V) : ∃ W, nl_c LS n m_X6_winter [vO 6 0, vI x, vI y, vI z] (sm h V) = some (rWinter V x y z, sm h W) ∧ ms W V := by
  obtain ⟨n, rfl, hn1⟩ := nl_suc hn
  have h0 := hV.1
  have c1 := sq_in (LS := LS) (n := n) (by omega) (h := sm h V) (x := x) (a := 0) (b := 9999) hx (by omega) (by omega)
  have c2 := sq_in (LS := LS) (n := n) (by omega) (h := sm h V) (x := y) (a := 1) (b := 60) hy (by omega) (by omega)
  have c3 := sq_in (LS := LS) (n := n) (by omega) (h := sm h V) (x := z) (a := 0) (b := 2) hz (by omega) (by omega)
  have c4 := sq_start (LS := LS) (n := n) (by omega) (h := h) (V := V)
  obtain ⟨hx1, hx2⟩ := hx
  obtain ⟨hy1, hy2⟩ := hy
  obtain ⟨hz1, hz2⟩ := hz
  by_cases q1 : 0 ≤ x ∧ x ≤ 9999
  · rw [if_pos q1] at c1
    by_cases q2 : 1 ≤ y ∧ y ≤ 60
    · rw [if_pos q2] at c2
      by_cases q3 : 0 ≤ z ∧ z ≤ 2
      · rw [if_pos q3] at c3
        obtain ⟨a, rfl⟩ : ∃ a : Nat, x = a := ⟨x.toNat, by omega⟩
        obtain ⟨d, rfl⟩ : ∃ d : Nat, y = d := ⟨y.toNat, by omega⟩
        have e0 := mLy_veq (V := V) (k := 25) (a := 0) (by omega)
        have hL := vok_veq hV e0
        have k9 := lp_winter6 (LS := LS) (n := n) hn1 (h := h) (z := a) (m := d) (y := z) (by omega) (by omega) (by omega) d 0 (g := 0) (V := mLy V 25 0) none none none none none (by omega) (by omega) hL (by omega) (by omega)
        have er : (if z = 0 then 0 + (vWi a d 0 (mLy V 25 0)).2 else if z = 1 then vSum (vWi a d 0 (mLy V 25 0)).1 7 (vN (vWi a d 0 (mLy V 25 0)).1) 0 else (vWi a d 0 (mLy V 25 0)).1 8 0) = rWinter V a d z := by
          rw [← rWinter_veq hL e0]
          unfold rWinter
          rw [if_pos (c := (0 ≤ (a : Int) ∧ (a : Int) ≤ 9999) ∧ (1 ≤ (d : Int) ∧ (d : Int) ≤ 60) ∧ 0 ≤ z ∧ z ≤ 2) ⟨q1, q2, q3⟩, Int.toNat_natCast, Int.toNat_natCast, Int.zero_add]
        rw [er] at k9
        refine ⟨mTk (vWi a d 0 (mLy V 25 0)).1 25 0, cl_X6_winter (.go ?_ k9), mk_back (by omega) (mk_wi a d 0 (mk_0 V))⟩
        rw [sg_X6_winter_0]
        simp (disch := omega) only [↓reduceIte, i_le, i_nle, i_lt, i_nlt, i_eq, i_ne, and_self, and_true, true_and, and_false, false_and, or_true, true_or, or_false, false_or, nx_of, Int.toNat_natCast, Option.bind_some, rm_0, rm_1, rm_2, rm_3, rm_4, rm_5, rm_6, rm_7, rm_8, rm_9, rm_10, rm_11, rm_12, rm_13, rm_14, rm_15, rm_16, rm_17, rm_18, rm_19, rm_20, rm_21, rm_22, rm_23, rm_24, rm_25, rm_26, rm_27, rm_28, rm_29, um_0, um_1, um_2, um_3, um_4, um_5, um_6, um_7, um_8, um_9, um_10, um_11, um_12, um_13, um_14, um_15, um_16, um_17, um_18, um_19, um_20, um_21, um_22, um_23, um_24, um_25, um_26, um_27, um_28, um_29, rm_k, um_k, vu_at, vu_ne, ↓bd c1, ↓bd c2, ↓bd c3, ↓bd c4, c1, c2, c3, c4]
        rfl
      · rw [if_neg q3] at c3
        unfold rWinter
        rw [if_neg (by omega)]
        refine ⟨V, cl_X6_winter (.ret ?_), ms_refl V⟩
        rw [sg_X6_winter_0]
        simp (disch := omega) only [↓reduceIte, i_le, i_nle, i_lt, i_nlt, i_eq, i_ne, and_self, and_true, true_and, and_false, false_and, or_true, true_or, or_false, false_or, nx_of, Int.toNat_natCast, Option.bind_some, rm_0, rm_1, rm_2, rm_3, rm_4, rm_5, rm_6, rm_7, rm_8, rm_9, rm_10, rm_11, rm_12, rm_13, rm_14, rm_15, rm_16, rm_17, rm_18, rm_19, rm_20, rm_21, rm_22, rm_23, rm_24, rm_25, rm_26, rm_27, rm_28, rm_29, um_0, um_1, um_2, um_3, um_4, um_5, um_6, um_7, um_8, um_9, um_10, um_11, um_12, um_13, um_14, um_15, um_16, um_17, um_18, um_19, um_20, um_21, um_22, um_23, um_24, um_25, um_26, um_27, um_28, um_29, rm_k, um_k, vu_at, vu_ne, ↓bd c1, ↓bd c2, ↓bd c3, c1, c2, c3]
    · rw [if_neg q2] at c2
      unfold rWinter
      rw [if_neg (by omega)]
      refine ⟨V, cl_X6_winter (.ret ?_), ms_refl V⟩
      rw [sg_X6_winter_0]
      simp (disch := omega) only [↓reduceIte, i_le, i_nle, i_lt, i_nlt, i_eq, i_ne, and_self, and_true, true_and, and_false, false_and, or_true, true_or, or_false, false_or, nx_of, Int.toNat_natCast, Option.bind_some, rm_0, rm_1, rm_2, rm_3, rm_4, rm_5, rm_6, rm_7, rm_8, rm_9, rm_10, rm_11, rm_12, rm_13, rm_14, rm_15, rm_16, rm_17, rm_18, rm_19, rm_20, rm_21, rm_22, rm_23, rm_24, rm_25, rm_26, rm_27, rm_28, rm_29, um_0, um_1, um_2, um_3, um_4, um_5, um_6, um_7, um_8, um_9, um_10, um_11, um_12, um_13, um_14, um_15, um_16, um_17, um_18, um_19, um_20, um_21, um_22, um_23, um_24, um_25, um_26, um_27, um_28, um_29, rm_k, um_k, vu_at, vu_ne, ↓bd c1, ↓bd c2, c1, c2]
  · rw [if_neg q1] at c1
    unfold rWinter
    rw [if_neg (by omega)]
    refine ⟨V, cl_X6_winter (.ret ?_), ms_refl V⟩
    rw [sg_X6_winter_0]
    simp (disch := omega) only [↓reduceIte, i_le, i_nle, i_lt, i_nlt, i_eq, i_ne, and_self, and_true, true_and, and_false, false_and, or_true, true_or, or_false, false_or, nx_of, Int.toNat_natCast, Option.bind_some, rm_0, rm_1, rm_2, rm_3, rm_4, rm_5, rm_6, rm_7, rm_8, rm_9, rm_10, rm_11, rm_12, rm_13, rm_14, rm_15, rm_16, rm_17, rm_18, rm_19, rm_20, rm_21, rm_22, rm_23, rm_24, rm_25, rm_26, rm_27, rm_28, rm_29, um_0, um_1, um_2, um_3, um_4, um_5, um_6, um_7, um_8, um_9, um_10, um_11, um_12, um_13, um_14, um_15, um_16, um_17, um_18, um_19, um_20, um_21, um_22, um_23, um_24, um_25, um_26, um_27, um_28, um_29, rm_k, um_k, vu_at, vu_ne, ↓bd c1, c1]
theorem ag_winter {LS : Int} {n : Nat} (hn : 20 ≤ n) {g : nl_H} (r : rg g) {x y z : Int} (hx : nl_inR x) (hy : nl_inR y) (hz : nl_inR z) : ag LS n m_X5_winter m_X6_winter [vI x, vI y, vI z] g := by
  have hV := vgd_N r.1
  obtain ⟨W, c⟩ := pu_winter (LS := LS) (n := n) (by omega) (h := g) hx hy hz (by omega) (vok_veq hV r.2.1)
  obtain ⟨U, m, s⟩ := sq_winter (LS := LS) (n := n) (by omega) (h := so g 4 1 W) hx hy hz (by omega) hV
  exact ag_of rfl c (so_ne (by omega)) m (rWinter_veq hV (veq_symm r.2.1) x y z) (rl_ms (rl_so r (by omega)) s)
