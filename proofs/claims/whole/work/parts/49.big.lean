/-! The model as a big valley: its heap, reads and writes. -/
/-- a heap whose model is the big valley V -/
def sm (h : nl_H) (V : nl_O) : nl_H := so h 6 0 (mw V)
theorem sm_self (h : nl_H) : sm h (mv (h 6 0)) = h := by
  unfold sm; rw [mw_mv, so_self]
theorem mv_sm {h : nl_H} {V : nl_O} : mv (sm h V 6 0) = V := by
  unfold sm; rw [so_at, mv_mw]
theorem sm_o {h : nl_H} {V : nl_O} {c o : Nat} (n : ¬ (c = 6 ∧ o = 0)) : sm h V c o = h c o := so_ne n
theorem rm_k {h : nl_H} {V : nl_O} {k i : Nat} (hk : 10 < k) : sm h V 6 0 k i = V k i := by
  unfold sm
  rw [so_at]
  show V (mT k) i = V k i
  simp (disch := omega) only [mT, if_neg]
theorem um {h : nl_H} {V : nl_O} {j i : Nat} {x : Int} : nl_up (sm h V) 6 0 j i x = sm h (vu V (mT j) i x) := by
  rw [up_so]
  unfold sm
  rw [so_so, so_at]
  refine congrArg _ ?_
  funext k i'
  show (if k = j ∧ i' = i then x else V (mT k) i') = (if mT k = mT j ∧ i' = i then x else V (mT k) i')
  by_cases q : k = j
  · subst q
    simp only [true_and]
  · have q2 : mT k ≠ mT j := fun z => q (by rw [← mRT k, z, mRT])
    rw [if_neg (fun z => q z.1), if_neg (fun z => q2 z.1)]
theorem um_k {h : nl_H} {V : nl_O} {k i : Nat} {x : Int} (hk : 10 < k) : nl_up (sm h V) 6 0 k i x = sm h (vu V k i x) := by
  rw [um]
  simp (disch := omega) only [mT, if_neg]
theorem rm_0 {h : nl_H} {V : nl_O} {i : Nat} : sm h V 6 0 0 i = V 0 i := by unfold sm; rw [so_at]; rfl
theorem um_0 {h : nl_H} {V : nl_O} {i : Nat} {x : Int} : nl_up (sm h V) 6 0 0 i x = sm h (vu V 0 i x) := um (j := 0)
theorem rm_1 {h : nl_H} {V : nl_O} {i : Nat} : sm h V 6 0 1 i = V 4 i := by unfold sm; rw [so_at]; rfl
theorem um_1 {h : nl_H} {V : nl_O} {i : Nat} {x : Int} : nl_up (sm h V) 6 0 1 i x = sm h (vu V 4 i x) := um (j := 1)
theorem rm_2 {h : nl_H} {V : nl_O} {i : Nat} : sm h V 6 0 2 i = V 5 i := by unfold sm; rw [so_at]; rfl
theorem um_2 {h : nl_H} {V : nl_O} {i : Nat} {x : Int} : nl_up (sm h V) 6 0 2 i x = sm h (vu V 5 i x) := um (j := 2)
theorem rm_3 {h : nl_H} {V : nl_O} {i : Nat} : sm h V 6 0 3 i = V 6 i := by unfold sm; rw [so_at]; rfl
theorem um_3 {h : nl_H} {V : nl_O} {i : Nat} {x : Int} : nl_up (sm h V) 6 0 3 i x = sm h (vu V 6 i x) := um (j := 3)
theorem rm_4 {h : nl_H} {V : nl_O} {i : Nat} : sm h V 6 0 4 i = V 1 i := by unfold sm; rw [so_at]; rfl
theorem um_4 {h : nl_H} {V : nl_O} {i : Nat} {x : Int} : nl_up (sm h V) 6 0 4 i x = sm h (vu V 1 i x) := um (j := 4)
theorem rm_5 {h : nl_H} {V : nl_O} {i : Nat} : sm h V 6 0 5 i = V 2 i := by unfold sm; rw [so_at]; rfl
theorem um_5 {h : nl_H} {V : nl_O} {i : Nat} {x : Int} : nl_up (sm h V) 6 0 5 i x = sm h (vu V 2 i x) := um (j := 5)
theorem rm_6 {h : nl_H} {V : nl_O} {i : Nat} : sm h V 6 0 6 i = V 8 i := by unfold sm; rw [so_at]; rfl
theorem um_6 {h : nl_H} {V : nl_O} {i : Nat} {x : Int} : nl_up (sm h V) 6 0 6 i x = sm h (vu V 8 i x) := um (j := 6)
theorem rm_7 {h : nl_H} {V : nl_O} {i : Nat} : sm h V 6 0 7 i = V 7 i := by unfold sm; rw [so_at]; rfl
theorem um_7 {h : nl_H} {V : nl_O} {i : Nat} {x : Int} : nl_up (sm h V) 6 0 7 i x = sm h (vu V 7 i x) := um (j := 7)
theorem rm_8 {h : nl_H} {V : nl_O} {i : Nat} : sm h V 6 0 8 i = V 9 i := by unfold sm; rw [so_at]; rfl
theorem um_8 {h : nl_H} {V : nl_O} {i : Nat} {x : Int} : nl_up (sm h V) 6 0 8 i x = sm h (vu V 9 i x) := um (j := 8)
theorem rm_9 {h : nl_H} {V : nl_O} {i : Nat} : sm h V 6 0 9 i = V 10 i := by unfold sm; rw [so_at]; rfl
theorem um_9 {h : nl_H} {V : nl_O} {i : Nat} {x : Int} : nl_up (sm h V) 6 0 9 i x = sm h (vu V 10 i x) := um (j := 9)
theorem rm_10 {h : nl_H} {V : nl_O} {i : Nat} : sm h V 6 0 10 i = V 3 i := by unfold sm; rw [so_at]; rfl
theorem um_10 {h : nl_H} {V : nl_O} {i : Nat} {x : Int} : nl_up (sm h V) 6 0 10 i x = sm h (vu V 3 i x) := um (j := 10)
theorem rm_11 {h : nl_H} {V : nl_O} {i : Nat} : sm h V 6 0 11 i = V 11 i := by unfold sm; rw [so_at]; rfl
theorem um_11 {h : nl_H} {V : nl_O} {i : Nat} {x : Int} : nl_up (sm h V) 6 0 11 i x = sm h (vu V 11 i x) := um (j := 11)
theorem rm_12 {h : nl_H} {V : nl_O} {i : Nat} : sm h V 6 0 12 i = V 12 i := by unfold sm; rw [so_at]; rfl
theorem um_12 {h : nl_H} {V : nl_O} {i : Nat} {x : Int} : nl_up (sm h V) 6 0 12 i x = sm h (vu V 12 i x) := um (j := 12)
theorem rm_13 {h : nl_H} {V : nl_O} {i : Nat} : sm h V 6 0 13 i = V 13 i := by unfold sm; rw [so_at]; rfl
theorem um_13 {h : nl_H} {V : nl_O} {i : Nat} {x : Int} : nl_up (sm h V) 6 0 13 i x = sm h (vu V 13 i x) := um (j := 13)
theorem rm_14 {h : nl_H} {V : nl_O} {i : Nat} : sm h V 6 0 14 i = V 14 i := by unfold sm; rw [so_at]; rfl
theorem um_14 {h : nl_H} {V : nl_O} {i : Nat} {x : Int} : nl_up (sm h V) 6 0 14 i x = sm h (vu V 14 i x) := um (j := 14)
theorem rm_15 {h : nl_H} {V : nl_O} {i : Nat} : sm h V 6 0 15 i = V 15 i := by unfold sm; rw [so_at]; rfl
theorem um_15 {h : nl_H} {V : nl_O} {i : Nat} {x : Int} : nl_up (sm h V) 6 0 15 i x = sm h (vu V 15 i x) := um (j := 15)
theorem rm_16 {h : nl_H} {V : nl_O} {i : Nat} : sm h V 6 0 16 i = V 16 i := by unfold sm; rw [so_at]; rfl
theorem um_16 {h : nl_H} {V : nl_O} {i : Nat} {x : Int} : nl_up (sm h V) 6 0 16 i x = sm h (vu V 16 i x) := um (j := 16)
theorem rm_17 {h : nl_H} {V : nl_O} {i : Nat} : sm h V 6 0 17 i = V 17 i := by unfold sm; rw [so_at]; rfl
theorem um_17 {h : nl_H} {V : nl_O} {i : Nat} {x : Int} : nl_up (sm h V) 6 0 17 i x = sm h (vu V 17 i x) := um (j := 17)
theorem rm_18 {h : nl_H} {V : nl_O} {i : Nat} : sm h V 6 0 18 i = V 18 i := by unfold sm; rw [so_at]; rfl
theorem um_18 {h : nl_H} {V : nl_O} {i : Nat} {x : Int} : nl_up (sm h V) 6 0 18 i x = sm h (vu V 18 i x) := um (j := 18)
theorem rm_19 {h : nl_H} {V : nl_O} {i : Nat} : sm h V 6 0 19 i = V 19 i := by unfold sm; rw [so_at]; rfl
theorem um_19 {h : nl_H} {V : nl_O} {i : Nat} {x : Int} : nl_up (sm h V) 6 0 19 i x = sm h (vu V 19 i x) := um (j := 19)
theorem rm_20 {h : nl_H} {V : nl_O} {i : Nat} : sm h V 6 0 20 i = V 20 i := by unfold sm; rw [so_at]; rfl
theorem um_20 {h : nl_H} {V : nl_O} {i : Nat} {x : Int} : nl_up (sm h V) 6 0 20 i x = sm h (vu V 20 i x) := um (j := 20)
theorem rm_21 {h : nl_H} {V : nl_O} {i : Nat} : sm h V 6 0 21 i = V 21 i := by unfold sm; rw [so_at]; rfl
theorem um_21 {h : nl_H} {V : nl_O} {i : Nat} {x : Int} : nl_up (sm h V) 6 0 21 i x = sm h (vu V 21 i x) := um (j := 21)
theorem rm_22 {h : nl_H} {V : nl_O} {i : Nat} : sm h V 6 0 22 i = V 22 i := by unfold sm; rw [so_at]; rfl
theorem um_22 {h : nl_H} {V : nl_O} {i : Nat} {x : Int} : nl_up (sm h V) 6 0 22 i x = sm h (vu V 22 i x) := um (j := 22)
theorem rm_23 {h : nl_H} {V : nl_O} {i : Nat} : sm h V 6 0 23 i = V 23 i := by unfold sm; rw [so_at]; rfl
theorem um_23 {h : nl_H} {V : nl_O} {i : Nat} {x : Int} : nl_up (sm h V) 6 0 23 i x = sm h (vu V 23 i x) := um (j := 23)
theorem rm_24 {h : nl_H} {V : nl_O} {i : Nat} : sm h V 6 0 24 i = V 24 i := by unfold sm; rw [so_at]; rfl
theorem um_24 {h : nl_H} {V : nl_O} {i : Nat} {x : Int} : nl_up (sm h V) 6 0 24 i x = sm h (vu V 24 i x) := um (j := 24)
theorem rm_25 {h : nl_H} {V : nl_O} {i : Nat} : sm h V 6 0 25 i = V 25 i := by unfold sm; rw [so_at]; rfl
theorem um_25 {h : nl_H} {V : nl_O} {i : Nat} {x : Int} : nl_up (sm h V) 6 0 25 i x = sm h (vu V 25 i x) := um (j := 25)
theorem rm_26 {h : nl_H} {V : nl_O} {i : Nat} : sm h V 6 0 26 i = V 26 i := by unfold sm; rw [so_at]; rfl
theorem um_26 {h : nl_H} {V : nl_O} {i : Nat} {x : Int} : nl_up (sm h V) 6 0 26 i x = sm h (vu V 26 i x) := um (j := 26)
theorem rm_27 {h : nl_H} {V : nl_O} {i : Nat} : sm h V 6 0 27 i = V 27 i := by unfold sm; rw [so_at]; rfl
theorem um_27 {h : nl_H} {V : nl_O} {i : Nat} {x : Int} : nl_up (sm h V) 6 0 27 i x = sm h (vu V 27 i x) := um (j := 27)
theorem rm_28 {h : nl_H} {V : nl_O} {i : Nat} : sm h V 6 0 28 i = V 28 i := by unfold sm; rw [so_at]; rfl
theorem um_28 {h : nl_H} {V : nl_O} {i : Nat} {x : Int} : nl_up (sm h V) 6 0 28 i x = sm h (vu V 28 i x) := um (j := 28)
theorem rm_29 {h : nl_H} {V : nl_O} {i : Nat} : sm h V 6 0 29 i = V 29 i := by unfold sm; rw [so_at]; rfl
theorem um_29 {h : nl_H} {V : nl_O} {i : Nat} {x : Int} : nl_up (sm h V) 6 0 29 i x = sm h (vu V 29 i x) := um (j := 29)
/-- the corollaries of the reads, over big valleys -/
theorem sq_mostOften {LS : Int} {n : Nat} (hn : 2 ≤ n) {h : nl_H} {V : nl_O} {i : Nat} {N : Int} (hN : N ≤ 100000) (hV : vok N V) (hi : (i : Int) < V 0 0) : nl_c LS n m_X6_mostOften [vO 6 0, vI (i : Int)] (sm h V) = some ((mMst V i (vN V)).2, sm h V) := by
  have k9 := sp_mostOften (LS := LS) hn (h := sm h V) (i := i) hN (by rw [mv_sm]; exact hV) (by rw [rm_0]; exact hi)
  rw [mv_sm] at k9
  exact k9
theorem sq_weight {LS : Int} {n : Nat} (hn : 3 ≤ n) {h : nl_H} {V : nl_O} {i k : Nat} {N : Int} (hN : N ≤ 100000) (hV : vok N V) (hi : (i : Int) < V 0 0) (hk : (k : Int) < V 0 0) : nl_c LS n m_X6_weight [vO 6 0, vI (i : Int), vI (k : Int)] (sm h V) = some (vHv V i k, sm h V) := by
  have k9 := sp_weight (LS := LS) hn (h := sm h V) (i := i) (k := k) hN (by rw [mv_sm]; exact hV) (by rw [rm_0]; exact hi) (by rw [rm_0]; exact hk)
  rw [mv_sm] at k9
  exact k9
theorem sq_keeps {LS : Int} {n : Nat} (hn : 4 ≤ n) {h : nl_H} {V : nl_O} {i k : Nat} {N : Int} (hN : N ≤ 100000) (hV : vok N V) (hi : (i : Int) < V 0 0) (hk : (k : Int) < V 0 0) : nl_c LS n m_X6_keeps [vO 6 0, vI (i : Int), vI (k : Int)] (sm h V) = some (if vHv V i k ≤ V 5 i - V 7 i then 1 else 0, sm h V) := by
  have k9 := sp_keeps (LS := LS) hn (h := sm h V) (i := i) (k := k) hN (by rw [mv_sm]; exact hV) (by rw [rm_0]; exact hi) (by rw [rm_0]; exact hk)
  rw [mv_sm, rm_2, rm_7] at k9
  exact k9
theorem sq_gapSet {LS : Int} {n : Nat} (hn : 5 ≤ n) {h : nl_H} {V : nl_O} {N : Int} (hN : N ≤ 100000) (hV : vok N V) : nl_c LS n m_X6_gapSet [vO 6 0] (sm h V) = some (((mGs V (vN V) 0 0 : Nat) : Int), sm h V) := by
  obtain ⟨n, rfl, hn1⟩ := nl_suc hn
  have e := vN_eq hV
  have k9 := lp_gapSet (LS := LS) hn1 (h := sm h V) hN (by rw [mv_sm]; exact hV) (vN V) 0 0 (by rw [rm_0]; omega) (by omega)
  rw [mv_sm] at k9
  refine cl_X6_gapSet (.go ?_ k9)
  rw [sg_X6_gapSet_0]
  rfl
theorem sq_isOne {LS : Int} {n : Nat} (hn : 2 ≤ n) {h : nl_H} {V : nl_O} {x : Int} (hx : nl_inR x) (h0 : 0 ≤ V 0 0 ∧ V 0 0 ≤ 7) : nl_c LS n m_X6_isOne [vO 6 0, vI x] (sm h V) = some (if 0 ≤ x ∧ x < V 0 0 then 1 else 0, sm h V) := by
  obtain ⟨n, rfl, hn1⟩ := nl_suc hn
  have c1 := sp_in (LS := LS) hn1 (h := sm h V) (x := x) (a := 0) (b := V 0 0 - 1) hx ⟨by omega, by omega⟩ ⟨by omega, by omega⟩
  refine cl_X6_isOne (.ret ?_)
  rw [sg_X6_isOne_0]
  by_cases q : 0 ≤ x ∧ x < V 0 0
  · rw [if_pos q]
    rw [if_pos (by omega)] at c1
    simp (disch := omega) only [nx_of, if_pos, if_neg, if_true, if_false, true_or, or_true, Int.toNat_natCast, Option.bind_some, rm_0, rm_1, rm_2, rm_3, rm_4, rm_5, rm_6, rm_7, rm_8, rm_9, rm_10, rm_11, rm_12, rm_13, rm_14, rm_15, rm_16, rm_17, rm_18, rm_19, rm_20, rm_21, rm_22, rm_23, rm_24, rm_25, rm_26, rm_27, rm_28, rm_29, um_0, um_1, um_2, um_3, um_4, um_5, um_6, um_7, um_8, um_9, um_10, um_11, um_12, um_13, um_14, um_15, um_16, um_17, um_18, um_19, um_20, um_21, um_22, um_23, um_24, um_25, um_26, um_27, um_28, um_29, rm_k, um_k, vu_at, vu_ne, c1]
  · rw [if_neg q]
    rw [if_neg (by omega)] at c1
    simp (disch := omega) only [nx_of, if_pos, if_neg, if_true, if_false, true_or, or_true, Int.toNat_natCast, Option.bind_some, rm_0, rm_1, rm_2, rm_3, rm_4, rm_5, rm_6, rm_7, rm_8, rm_9, rm_10, rm_11, rm_12, rm_13, rm_14, rm_15, rm_16, rm_17, rm_18, rm_19, rm_20, rm_21, rm_22, rm_23, rm_24, rm_25, rm_26, rm_27, rm_28, rm_29, um_0, um_1, um_2, um_3, um_4, um_5, um_6, um_7, um_8, um_9, um_10, um_11, um_12, um_13, um_14, um_15, um_16, um_17, um_18, um_19, um_20, um_21, um_22, um_23, um_24, um_25, um_26, um_27, um_28, um_29, rm_k, um_k, vu_at, vu_ne, c1]
