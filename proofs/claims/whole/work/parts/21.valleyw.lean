/-! The valley's methods: writes. -/
/-- one house's night -/
def vSee (V : nl_O) (i : Nat) : nl_O :=
  vu (vu (if vHv V i (V 8 i).toNat ≤ V 5 i - V 7 i then vu V 7 i (if 40 < V 7 i + 2 then 40 else V 7 i + 2) else vu (vu V 7 i (if V 7 i - 3 < 0 then 0 else V 7 i - 3)) 9 i (V 9 i + 1)) 10 (i * 7 + (V 8 i).toNat) (V 10 (i * 7 + (V 8 i).toNat) + 1)) 8 i (if V 8 i + 1 < V 0 0 then V 8 i + 1 else 0)
def vKeeps (V : nl_O) (i : Nat) : Int := if vHv V i (V 8 i).toNat ≤ V 5 i - V 7 i then 1 else 0
theorem sp_seeThrough {LS : Int} {n : Nat} (hn : 4 ≤ n) {h : nl_H} {o i : Nat} {N : Int} (hN : N ≤ 100000) (hV : vok N (h 4 o)) (hi : (i : Int) < h 4 o 0 0) : nl_c LS n m_X4_seeThrough [vO 4 o, vI (i : Int)] h = some (vKeeps (h 4 o) i, so h 4 o (vSee (h 4 o) i)) := by
  obtain ⟨n, rfl, hn1⟩ := nl_suc hn
  have hn9 := hV.1
  have b1 := hV.2.2.2.1 i hi
  obtain ⟨k, hk⟩ : ∃ k : Nat, h 4 o 8 i = k := ⟨(h 4 o 8 i).toNat, by omega⟩
  have hk1 : (k : Int) < h 4 o 0 0 := by omega
  have b2 := hV.2.2.2.2 i k hi hk1
  have hc1 := sp_isHour (LS := LS) (n := n) (by omega) (h := h) (o := o) (x := (k : Int)) ⟨by omega, by omega⟩ (by omega)
  have hc2 := sp_wouldKeep (LS := LS) hn1 hN hV hi hk1 (t := h 4 o 7 i) (by omega)
  have e : ((i : Int) * 7 + (k : Int)).toNat = i * 7 + k := by omega
  refine cl_X4_seeThrough (.ret ?_)
  rw [sg_X4_seeThrough_0]
  unfold vKeeps vSee
  by_cases k9 : vHv (h 4 o) i k ≤ h 4 o 5 i - h 4 o 7 i <;> by_cases k8 : (k : Int) + 1 < h 4 o 0 0 <;>
    simp (disch := omega) only [nx_of, if_pos, if_neg, if_true, if_false, true_or, or_true, Int.toNat_natCast, Option.bind_some, hk, hc1, hc2, up_so, so_at, so_so, e, vu_at, vu_ne]

