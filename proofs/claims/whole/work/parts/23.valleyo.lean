/-! The valley's other methods. -/
theorem sp_timesHad {LS : Int} {n : Nat} (hn : 1 ≤ n) {h : nl_H} {o i k : Nat} (hi : i < 7) (hk : k < 7) : nl_c LS n m_X4_timesHad [vO 4 o, vI (i : Int), vI (k : Int)] h = some (h 4 o 10 (i * 7 + k), h) := by
  obtain ⟨n, rfl, hn1⟩ := nl_suc hn
  have e : ((i : Int) * 7 + (k : Int)).toNat = i * 7 + k := by omega
  refine cl_X4_timesHad (.ret ?_)
  rw [sg_X4_timesHad_0]
  simp (disch := omega) only [nx_of, if_pos, if_neg, if_true, if_false, true_or, or_true, Int.toNat_natCast, Option.bind_some, e]
def vTrade (V : nl_O) (a b : Nat) : nl_O := vu (vu V 8 a (V 8 b)) 8 b (V 8 a)
theorem sp_trade {LS : Int} {n : Nat} (hn : 1 ≤ n) {h : nl_H} {o a b : Nat} (ha : a < 7) (hb : b < 7) : nl_c LS n m_X4_trade [vO 4 o, vI (a : Int), vI (b : Int)] h = some (0, so h 4 o (vTrade (h 4 o) a b)) := by
  obtain ⟨n, rfl, hn1⟩ := nl_suc hn
  refine cl_X4_trade (.ret ?_)
  rw [sg_X4_trade_0]
  simp (disch := omega) only [nx_of, if_pos, if_neg, if_true, if_false, true_or, or_true, Int.toNat_natCast, Option.bind_some, up_so, so_at, so_so, vTrade]
def vRest (V : nl_O) (i : Nat) : nl_O := vu V 7 i (if V 7 i - 5 < 0 then 0 else V 7 i - 5)
theorem sp_giveRest {LS : Int} {n : Nat} (hn : 1 ≤ n) {h : nl_H} {o i : Nat} (hi : i < 7) (ht : 0 ≤ h 4 o 7 i ∧ h 4 o 7 i ≤ 40) : nl_c LS n m_X4_giveRest [vO 4 o, vI (i : Int)] h = some (0, so h 4 o (vRest (h 4 o) i)) := by
  obtain ⟨n, rfl, hn1⟩ := nl_suc hn
  refine cl_X4_giveRest (.ret ?_)
  rw [sg_X4_giveRest_0]
  simp (disch := omega) only [nx_of, if_pos, if_neg, if_true, if_false, true_or, or_true, Int.toNat_natCast, Option.bind_some, up_so, so_at, so_so, vRest]
theorem sp_setBurden {LS : Int} {n : Nat} (hn : 2 ≤ n) {h : nl_H} {o k : Nat} {x : Int} (hk : (k : Int) < h 4 o 0 0) (hh : 0 ≤ h 4 o 0 0 ∧ h 4 o 0 0 ≤ 7) : nl_c LS n m_X4_setBurden [vO 4 o, vI (k : Int), vI x] h = some (0, so h 4 o (vu (h 4 o) 3 k x)) := by
  obtain ⟨n, rfl, hn1⟩ := nl_suc hn
  have hc := sp_isHour (LS := LS) (n := n) (by omega) (h := h) (o := o) (x := (k : Int)) ⟨by omega, by omega⟩ hh
  refine cl_X4_setBurden (.ret ?_)
  rw [sg_X4_setBurden_0]
  simp (disch := omega) only [nx_of, if_pos, if_neg, if_true, if_false, true_or, or_true, Int.toNat_natCast, Option.bind_some, hc, up_so, so_at, so_so]
/-- the sum of a row's first d entries, from i on -/
def vSum (V : nl_O) (k : Nat) : Nat → Nat → Int
  | 0, _ => 0
  | d + 1, i => V k i + vSum V k d (i + 1)
theorem lp_tired {LS : Int} {den : nl_D} {h : nl_H} {o : Nat} {N : Int} (hV : vok N (h 4 o)) : ∀ (d i : Nat) {g : Int}, (i : Int) + d = h 4 o 0 0 → 0 ≤ g → g + 40 * d ≤ 1000 →
    nl_Rn LS cd_X4_tiredTogether den ct_X4_tiredTogether 1 4 [some (vO 4 o), some (vI g), some (vI (i : Int))] h (g + vSum (h 4 o) 7 d i, h) := by
  have hn9 := hV.1
  intro d
  induction d with
  | zero =>
    intro i g hi h1 h2
    refine .ret ?_
    rw [sg_X4_tiredTogether_4]
    simp only [vSum]
    simp (disch := omega) only [nx_of, if_pos, if_neg, if_true, if_false, true_or, or_true, Int.toNat_natCast, Option.bind_some]
    rw [show g + 0 = g by omega]
  | succ d ih =>
    intro i g hi h1 h2
    have b := (hV.2.2.2.1 i (by omega)).2.2.2.2.1
    have k9 := ih (i + 1) (g := g + h 4 o 7 i) (by omega) (by omega) (by omega)
    rw [show g + h 4 o 7 i + vSum (h 4 o) 7 d (i + 1) = g + vSum (h 4 o) 7 (d + 1) i by simp only [vSum]; omega] at k9
    refine .go ?_ k9
    rw [sg_X4_tiredTogether_4]
    simp (disch := omega) only [nx_of, if_pos, if_neg, if_true, if_false, true_or, or_true, Int.toNat_natCast, Option.bind_some]
    rfl
theorem sp_tiredTogether {LS : Int} {n : Nat} (hn : 1 ≤ n) {h : nl_H} {o : Nat} {N : Int} (hV : vok N (h 4 o)) : nl_c LS n m_X4_tiredTogether [vO 4 o] h = some (vSum (h 4 o) 7 (vN (h 4 o)) 0, h) := by
  obtain ⟨n, rfl, hn1⟩ := nl_suc hn
  have h0 := hV.1
  have h2 := vN_eq hV
  have k9 := lp_tired (LS := LS) (den := nl_c LS n) hV (vN (h 4 o)) 0 (g := 0) (by omega) (by omega) (by omega)
  rw [show 0 + vSum (h 4 o) 7 (vN (h 4 o)) 0 = vSum (h 4 o) 7 (vN (h 4 o)) 0 by omega] at k9
  refine cl_X4_tiredTogether (.go ?_ k9)
  rw [sg_X4_tiredTogether_0]
  rfl
/-- the way from the house of hour k - 1 to that of hour k -/
def vWy (V : nl_O) (k : Nat) : Int := if vWho V ((k : Int) - 1) (vN V) 0 = -1 ∨ vWho V k (vN V) 0 = -1 then 0 else
      (if 0 ≤ V 6 (vWho V k (vN V) 0).toNat - V 6 (vWho V ((k : Int) - 1) (vN V) 0).toNat then V 6 (vWho V k (vN V) 0).toNat - V 6 (vWho V ((k : Int) - 1) (vN V) 0).toNat else -(V 6 (vWho V k (vN V) 0).toNat - V 6 (vWho V ((k : Int) - 1) (vN V) 0).toNat))
def vWay (V : nl_O) : Nat → Nat → Int
  | 0, _ => 0
  | d + 1, k => vWy V k + vWay V d (k + 1)
theorem lp_way {LS : Int} {n : Nat} (hn : 1 ≤ n) {h : nl_H} {o : Nat} {N : Int} (hV : vok N (h 4 o)) : ∀ (d k : Nat) {g : Int} (w1 w2 : Option nl_V), (k : Int) + d = h 4 o 0 0 → 1 ≤ k → 0 ≤ g → g + 99 * d ≤ 1000 →
    nl_Rn LS cd_X4_handingOver (nl_c LS n) ct_X4_handingOver 1 4 [some (vO 4 o), some (vI g), some (vI (k : Int)), w1, w2] h (g + vWay (h 4 o) d k, h) := by
  have hn9 := hV.1
  have h2 := vN_eq hV
  intro d
  induction d with
  | zero =>
    intro k g w1 w2 hk hk1 h1 h2
    refine .ret ?_
    rw [sg_X4_handingOver_4]
    simp only [vWay]
    simp (disch := omega) only [nx_of, if_pos, if_neg, if_true, if_false, true_or, or_true, Int.toNat_natCast, Option.bind_some]
    rw [show g + 0 = g by omega]
  | succ d ih =>
    intro k g w1 w2 hk hk1 h1 h2
    have hc1 := sp_houseWith (LS := LS) hn (x := (k : Int) - 1) ⟨by omega, by omega⟩ hV
    have hc2 := sp_houseWith (LS := LS) hn (x := (k : Int)) ⟨by omega, by omega⟩ hV
    have a1 := (vWho_in (V := h 4 o) (k := (k : Int) - 1) (vN (h 4 o)) 0).1
    have a2 := (vWho_in (V := h 4 o) (k := (k : Int)) (vN (h 4 o)) 0).1
    have k9 := fun g' w1' w2' => ih (k + 1) (g := g') w1' w2' (by omega) (by omega)
    have e : g + vWay (h 4 o) (d + 1) k = g + vWy (h 4 o) k + vWay (h 4 o) d (k + 1) := by simp only [vWay]; omega
    rw [e]
    have ew : vWy (h 4 o) k = vWy (h 4 o) k := rfl
    conv at ew => rhs; unfold vWy
    generalize vWho (h 4 o) ((k : Int) - 1) (vN (h 4 o)) 0 = u at hc1 a1 ew
    generalize vWho (h 4 o) (k : Int) (vN (h 4 o)) 0 = v at hc2 a2 ew
    by_cases hu : u = -1
    · rw [if_pos (Or.inl hu)] at ew
      rw [ew, show g + 0 = g by omega]
      refine .go ?_ (k9 g (some (vI u)) (some (vI v)) (by omega) (by omega))
      rw [sg_X4_handingOver_4]
      simp (disch := omega) only [nx_of, if_pos, if_neg, if_true, if_false, true_or, or_true, Int.toNat_natCast, Option.bind_some, hc1, hc2]
      rfl
    · by_cases hv : v = -1
      · rw [if_pos (Or.inr hv)] at ew
        rw [ew, show g + 0 = g by omega]
        refine .go ?_ (k9 g (some (vI u)) (some (vI v)) (by omega) (by omega))
        rw [sg_X4_handingOver_4]
        simp (disch := omega) only [nx_of, if_pos, if_neg, if_true, if_false, true_or, or_true, Int.toNat_natCast, Option.bind_some, hc1, hc2]
        rfl
      · obtain ⟨i, rfl⟩ : ∃ i : Nat, u = i := ⟨u.toNat, by omega⟩
        obtain ⟨j, rfl⟩ : ∃ j : Nat, v = j := ⟨v.toNat, by omega⟩
        have b1 := (hV.2.2.2.1 i (by omega)).2.2.2.1
        have b2 := (hV.2.2.2.1 j (by omega)).2.2.2.1
        rw [if_neg (by omega)] at ew
        simp only [Int.toNat_natCast] at ew
        by_cases hs : 0 ≤ h 4 o 6 j - h 4 o 6 i
        · rw [if_pos hs] at ew
          rw [ew]
          refine .go ?_ (k9 _ (some (vI (i : Int))) (some (vI (j : Int))) (by omega) (by omega))
          rw [sg_X4_handingOver_4]
          simp (disch := omega) only [nx_of, if_pos, if_neg, if_true, if_false, true_or, or_true, Int.toNat_natCast, Option.bind_some, hc1, hc2]
          rfl
        · rw [if_neg hs] at ew
          rw [ew]
          refine .go ?_ (k9 _ (some (vI (i : Int))) (some (vI (j : Int))) (by omega) (by omega))
          rw [sg_X4_handingOver_4]
          simp (disch := omega) only [nx_of, if_pos, if_neg, if_true, if_false, true_or, or_true, Int.toNat_natCast, Option.bind_some, hc1, hc2]
          rfl
theorem sp_handingOver {LS : Int} {n : Nat} (hn : 2 ≤ n) {h : nl_H} {o : Nat} {N : Int} (hV : vok N (h 4 o)) : nl_c LS n m_X4_handingOver [vO 4 o] h = some (vWay (h 4 o) (vN (h 4 o) - 1) 1, h) := by
  obtain ⟨n, rfl, hn1⟩ := nl_suc hn
  have h0 := hV.1
  have h2 := vN_eq hV
  have k9 := lp_way (LS := LS) hn1 hV (vN (h 4 o) - 1) 1 (g := 0) none none (by omega) (by omega) (by omega) (by omega)
  rw [show 0 + vWay (h 4 o) (vN (h 4 o) - 1) 1 = vWay (h 4 o) (vN (h 4 o) - 1) 1 by omega] at k9
  refine cl_X4_handingOver (.go ?_ k9)
  rw [sg_X4_handingOver_0]
  rfl

/-- the least and the greatest place of the first houses -/
def vLo (V : nl_O) : Nat → Int
  | 0 => 99
  | i + 1 => if V 6 i < vLo V i then V 6 i else vLo V i
def vHi (V : nl_O) : Nat → Int
  | 0 => 0
  | i + 1 => if vHi V i < V 6 i then V 6 i else vHi V i
theorem vLo_in {N : Int} {V : nl_O} (hV : vok N V) : ∀ i : Nat, (i : Int) ≤ V 0 0 → (0 ≤ vLo V i ∧ vLo V i ≤ 99) ∧ 0 ≤ vHi V i ∧ vHi V i ≤ 99 := by
  intro i
  induction i with
  | zero => intro _; simp only [vLo, vHi]; omega
  | succ i ih =>
    intro hi
    have h1 := ih (by omega)
    have h2 := (hV.2.2.2.1 i (by omega)).2.2.2.1
    simp only [vLo, vHi]
    constructor <;> split <;> omega
theorem lp_road {LS : Int} {den : nl_D} {h : nl_H} {o : Nat} {N : Int} (hV : vok N (h 4 o)) : ∀ (d i : Nat), (i : Int) + d = h 4 o 0 0 →
    nl_Rn LS cd_X4_lengthOfRoad den ct_X4_lengthOfRoad 1 7 [some (vO 4 o), some (vI (vLo (h 4 o) i)), some (vI (vHi (h 4 o) i)), some (vI (i : Int))] h (if vHi (h 4 o) (i + d) - vLo (h 4 o) (i + d) < 0 then 0 else vHi (h 4 o) (i + d) - vLo (h 4 o) (i + d), h) := by
  have hn9 := hV.1
  intro d
  induction d with
  | zero =>
    intro i hi
    have h1 := vLo_in hV i (by omega)
    refine .ret ?_
    rw [sg_X4_lengthOfRoad_7]
    simp (disch := omega) only [nx_of, if_pos, if_neg, if_true, if_false, true_or, or_true, Int.toNat_natCast, Option.bind_some, Nat.add_zero]
  | succ d ih =>
    intro i hi
    have h1 := vLo_in hV i (by omega)
    have h2 := (hV.2.2.2.1 i (by omega)).2.2.2.1
    have k9 := ih (i + 1) (by omega)
    rw [show i + 1 + d = i + (d + 1) by omega] at k9
    refine .go ?_ k9
    rw [sg_X4_lengthOfRoad_7]
    simp only [vLo, vHi]
    simp (disch := omega) only [nx_of, if_pos, if_neg, if_true, if_false, true_or, or_true, Int.toNat_natCast, Option.bind_some]
    rfl
theorem sp_lengthOfRoad {LS : Int} {n : Nat} (hn : 1 ≤ n) {h : nl_H} {o : Nat} {N : Int} (hV : vok N (h 4 o)) : nl_c LS n m_X4_lengthOfRoad [vO 4 o] h = some (if vHi (h 4 o) (vN (h 4 o)) - vLo (h 4 o) (vN (h 4 o)) < 0 then 0 else vHi (h 4 o) (vN (h 4 o)) - vLo (h 4 o) (vN (h 4 o)), h) := by
  obtain ⟨n, rfl, hn1⟩ := nl_suc hn
  have h0 := hV.1
  have h2 := vN_eq hV
  have k9 := lp_road (LS := LS) (den := nl_c LS n) hV (vN (h 4 o)) 0 (by omega)
  rw [Nat.zero_add] at k9
  refine cl_X4_lengthOfRoad (.go ?_ k9)
  rw [sg_X4_lengthOfRoad_0]
  rfl
/-- what a winter's draw does ahead of a night -/
def vStir (V : nl_O) (x : Nat) : nl_O :=
  if x / 64 % 4 = 0 then vTrade V (x % vN V) (x / 8 % vN V)
  else if x / 64 % 4 = 1 then vRest V (x % vN V)
  else if x / 64 % 4 = 2 then vu V 3 (V 8 (x % vN V)).toNat ((x / 256 % 21 : Nat) : Int)
  else V
theorem nx_tm (a b : Nat) : ((a : Int).tmod (b : Int)) = ((a % b : Nat) : Int) := by
  rw [Int.tmod_eq_emod_of_nonneg (by omega)]
  rfl
theorem nx_td (a b : Nat) : ((a : Int).tdiv (b : Int)) = ((a / b : Nat) : Int) := by
  rw [Int.tdiv_eq_ediv_of_nonneg (by omega)]
  rfl
theorem sp_stir {LS : Int} {n : Nat} (hn : 3 ≤ n) {h : nl_H} {o x : Nat} {N : Int} (hV : vok N (h 4 o)) (hx : x < 100000) : nl_c LS n m_X4_stir [vO 4 o, vI (x : Int)] h = some (0, so h 4 o (vStir (h 4 o) x)) := by
  obtain ⟨n, rfl, hn1⟩ := nl_suc hn
  have hn9 := hV.1
  have hvn := vN_eq hV
  have ha : x % vN (h 4 o) < vN (h 4 o) := Nat.mod_lt _ (by omega)
  have hb : x / 8 % vN (h 4 o) < vN (h 4 o) := Nat.mod_lt _ (by omega)
  have b1 := hV.2.2.2.1 (x % vN (h 4 o)) (by omega)
  have e1 : ((x : Int).tmod (h 4 o 0 0)) = ((x % vN (h 4 o) : Nat) : Int) := by rw [← hvn]; exact nx_tm _ _
  have e2 : ((x : Int).tdiv 8) = ((x / 8 : Nat) : Int) := nx_td x 8
  have e3 : (((x / 8 : Nat) : Int).tmod (h 4 o 0 0)) = ((x / 8 % vN (h 4 o) : Nat) : Int) := by rw [← hvn]; exact nx_tm _ _
  have e4 : ((x : Int).tdiv 64) = ((x / 64 : Nat) : Int) := nx_td x 64
  have e5 : (((x / 64 : Nat) : Int).tmod 4) = ((x / 64 % 4 : Nat) : Int) := nx_tm (x / 64) 4
  have e6 : ((x : Int).tdiv 256) = ((x / 256 : Nat) : Int) := nx_td x 256
  have e7 : (((x / 256 : Nat) : Int).tmod 21) = ((x / 256 % 21 : Nat) : Int) := nx_tm (x / 256) 21
  have hc1 := sp_trade (LS := LS) (n := n) (by omega) (h := h) (o := o) (a := x % vN (h 4 o)) (b := x / 8 % vN (h 4 o)) (by omega) (by omega)
  have hc2 := sp_giveRest (LS := LS) (n := n) (by omega) (h := h) (o := o) (i := x % vN (h 4 o)) (by omega) b1.2.2.2.2.1
  obtain ⟨k, hk⟩ : ∃ k : Nat, h 4 o 8 (x % vN (h 4 o)) = k := ⟨(h 4 o 8 (x % vN (h 4 o))).toNat, by omega⟩
  have hc3 := sp_setBurden (LS := LS) (n := n) (by omega) (h := h) (o := o) (k := k) (x := ((x / 256 % 21 : Nat) : Int)) (by omega) (by omega)
  refine cl_X4_stir (.go (pc' := 30) (L' := [some (vO 4 o), some (vI (x : Int)), some (vI ((x % vN (h 4 o) : Nat) : Int)), some (vI ((x / 8 % vN (h 4 o) : Nat) : Int))]) (h' := h) ?_ (.ret ?_))
  · rw [sg_X4_stir_0]
    simp (disch := omega) only [nx_of, if_pos, if_neg, if_true, if_false, true_or, or_true, Int.toNat_natCast, Option.bind_some, e1, e2, e3]
  · rw [sg_X4_stir_30]
    unfold vStir
    have h4 : x / 64 % 4 = 0 ∨ x / 64 % 4 = 1 ∨ x / 64 % 4 = 2 ∨ x / 64 % 4 = 3 := by omega
    generalize hq : x / 64 % 4 = q at h4 e5
    rcases h4 with rfl | rfl | rfl | rfl <;>
      simp (disch := omega) only [nx_of, if_pos, if_neg, if_true, if_false, true_or, or_true, Int.toNat_natCast, Option.bind_some, e4, e5, e6, e7, hc1, hc2, hc3, hk, so_self]
