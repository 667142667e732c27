/-! Shelves, sightings. -/
/-- a shelf that stands: of c places, its valleys from lo on below hi, each once -/
def shok (c lo hi : Int) (S : nl_O) : Prop := (0 ≤ S 1 0 ∧ S 1 0 ≤ c) ∧ (∀ i : Nat, (i : Int) < c → lo ≤ S 0 i ∧ S 0 i < hi) ∧ (∀ i j : Nat, (i : Int) < c → (j : Int) < c → S 0 i = S 0 j → i = j)
theorem sp_shClear {LS : Int} {n : Nat} (hn : 1 ≤ n) {h : nl_H} {o : Nat} : nl_c LS n m_X2_clear [vO 2 o] h = some (0, so h 2 o (vu (h 2 o) 1 0 0)) := by
  obtain ⟨n, rfl, hn1⟩ := nl_suc hn
  refine cl_X2_clear (.ret ?_)
  rw [sg_X2_clear_0, up_so]
/-- the rows one place down, up to j -/
def vRot (S : nl_O) (j : Nat) : nl_O := fun k i => if k = 0 ∧ i + 1 < j then S 0 (i + 1) else S k i
theorem vRot_s {S : nl_O} {j : Nat} : vu (vRot S (j + 1)) 0 j (S 0 (j + 1)) = vRot S (j + 1 + 1) := by
  funext k i
  unfold vu vRot
  by_cases hk : k = 0 ∧ i = j
  · obtain ⟨rfl, rfl⟩ := hk
    simp
  · rw [if_neg hk]
    by_cases hz : k = 0 ∧ i + 1 < j + 1
    · rw [if_pos hz, if_pos (by omega)]
    · rw [if_neg hz, if_neg (by omega)]
theorem vRot_1 {S : nl_O} : vRot S 1 = S := by
  funext k i
  unfold vRot
  rw [if_neg (by omega)]
def vDrop (S : nl_O) (c : Nat) : nl_O := vu (vu (vRot S c) 0 (c - 1) (S 0 0)) 1 0 ((c : Int) - 1)
theorem lp_drop {LS : Int} {den : nl_D} {h : nl_H} {o c q : Nat} (hc : nl_al LS 2 o 0 = (c : Int)) (hc2 : 2 ≤ c ∧ c ≤ 8) {lo hi : Int} {S : nl_O} (hS : shok c lo hi S) (hlo : 0 ≤ lo) (hhi : hi ≤ 12) (hq : (q : Int) = S 0 0) : ∀ (d j : Nat), j + 1 + d = c →
    nl_Rn LS cd_X2_dropOldest den ct_X2_dropOldest 0 9 [some (vO 2 o), some (vO 4 q), some (vI ((j + 1 : Nat) : Int))] (so h 2 o (vRot S (j + 1))) (0, so h 2 o (vDrop S c)) := by
  intro d
  induction d with
  | zero =>
    intro j hj
    obtain rfl : c = j + 1 := by omega
    refine .ret ?_
    rw [sg_X2_dropOldest_9, hc]
    have e : ((((j + 1 : Nat) : Int) - 1)).toNat = j + 1 - 1 := by omega
    simp (disch := omega) only [nx_of, if_pos, if_neg, if_true, if_false, true_or, or_true, Int.toNat_natCast, Option.bind_some, up_so, so_at, so_so, e, hq]
    rfl
  | succ d ih =>
    intro j hj
    have b1 := hS.2.1 (j + 1) (by omega)
    have k9 := ih (j + 1) (by omega)
    rw [← vRot_s] at k9
    refine .go ?_ k9
    rw [sg_X2_dropOldest_9, hc]
    have e1 : vRot S (j + 1) 0 (j + 1) = S 0 (j + 1) := by unfold vRot; rw [if_neg (by omega)]
    have e2 : ((((j + 1 : Nat) : Int) - 1)).toNat = j := by omega
    have e3 : ((S 0 (j + 1)).toNat : Int) = S 0 (j + 1) := by omega
    simp (disch := omega) only [nx_of, if_pos, if_neg, if_true, if_false, true_or, or_true, Int.toNat_natCast, Option.bind_some, up_so, so_at, so_so, e1, e2, e3]
    rfl
theorem sp_dropOldest {LS : Int} {n : Nat} (hn : 1 ≤ n) {h : nl_H} {o c : Nat} (hc : nl_al LS 2 o 0 = (c : Int)) (hc2 : 2 ≤ c ∧ c ≤ 8) {lo hi : Int} (hS : shok c lo hi (h 2 o)) (hlo : 0 ≤ lo) (hhi : hi ≤ 12) : nl_c LS n m_X2_dropOldest [vO 2 o] h = some (0, so h 2 o (vDrop (h 2 o) c)) := by
  obtain ⟨n, rfl, hn1⟩ := nl_suc hn
  have b1 := hS.2.1 0 (by omega)
  have k9 := lp_drop (LS := LS) (den := nl_c LS n) (h := h) (q := (h 2 o 0 0).toNat) hc hc2 hS hlo hhi (by omega) (c - 1) 0 (by omega)
  rw [vRot_1, so_self] at k9
  refine cl_X2_dropOldest (.go ?_ k9)
  rw [sg_X2_dropOldest_0, hc]
  have e0 : nl_nz 0 = 0 := nx_of (by omega) (by omega)
  rw [e0]
  rw [if_pos ⟨by omega, by simp only [Int.toNat_zero]; omega⟩]
  rfl
theorem shok_drop {c : Nat} (hc2 : 2 ≤ c ∧ c ≤ 8) {lo hi : Int} {S : nl_O} (hS : shok c lo hi S) : shok c lo hi (vDrop S c) := by
  have key : ∀ i : Nat, (i : Int) < c → vDrop S c 0 i = S 0 (if i + 1 < c then i + 1 else 0) := by
    intro i hi
    unfold vDrop
    rw [vu_k (by omega)]
    by_cases hz : i = c - 1
    · subst hz
      rw [vu_at, if_neg (by omega)]
    · rw [vu_ne (fun z => hz z.2), if_pos (by omega)]
      unfold vRot
      rw [if_pos (by omega)]
  obtain ⟨h1, h2, h3⟩ := hS
  refine ⟨?_, fun i hi => ?_, fun i j hi hj e => ?_⟩
  · unfold vDrop
    rw [vu_at]
    omega
  · rw [key i hi]
    exact h2 _ (by split <;> omega)
  · rw [key i hi, key j hj] at e
    have := h3 _ _ (by split <;> omega) (by split <;> omega) e
    split at this <;> split at this <;> omega
/-- putting a valley by, the oldest out if the shelf is full -/
def shPre (c : Nat) (S : nl_O) : nl_O := if S 1 0 < c then S else vDrop S c
theorem sp_put {LS : Int} {n : Nat} (hn : 2 ≤ n) {h : nl_H} {o c v : Nat} (hc : nl_al LS 2 o 0 = (c : Int)) (hc2 : 2 ≤ c ∧ c ≤ 8) {lo hi : Int} (hS : shok c lo hi (h 2 o)) (hlo : 0 ≤ lo) (hhi : hi ≤ 12) (hv : (v : Int) < lo) :
    nl_c LS n m_X2_put [vO 2 o, vO 4 v] h = some (0, so (so h 4 (shPre c (h 2 o) 0 (shPre c (h 2 o) 1 0).toNat).toNat (vCopy (h 4 (shPre c (h 2 o) 0 (shPre c (h 2 o) 1 0).toNat).toNat) (h 4 v))) 2 o (vu (shPre c (h 2 o)) 1 0 (shPre c (h 2 o) 1 0 + 1))) := by
  obtain ⟨n, rfl, hn1⟩ := nl_suc hn
  refine cl_X2_put (.ret ?_)
  rw [sg_X2_put_0, hc]
  have h1 := hS.1
  unfold shPre
  by_cases hf : h 2 o 1 0 < c
  · obtain ⟨f, hf2⟩ : ∃ f : Nat, h 2 o 1 0 = f := ⟨(h 2 o 1 0).toNat, by omega⟩
    have b1 := hS.2.1 f (by omega)
    have hcp := sp_copyFrom (LS := LS) hn1 (h := h) (o := (h 2 o 0 f).toNat) (v := v) (by omega)
    rw [if_pos hf]
    simp (disch := omega) only [nx_of, if_pos, if_neg, if_true, if_false, true_or, or_true, Int.toNat_natCast, Option.bind_some, hf2, hcp, up_so, so_ne]
  · have hd := sp_dropOldest (LS := LS) hn1 hc hc2 hS hlo hhi
    have hS2 := shok_drop hc2 hS
    have hf1 : vDrop (h 2 o) c 1 0 = (c : Int) - 1 := by unfold vDrop; rw [vu_at]
    have e : ((c : Int) - 1).toNat = c - 1 := by omega
    have b1 := hS2.2.1 (c - 1) (by omega)
    have hcp := sp_copyFrom (LS := LS) hn1 (h := so h 2 o (vDrop (h 2 o) c)) (o := (vDrop (h 2 o) c 0 (c - 1)).toNat) (v := v) (by omega)
    rw [so_ne (by omega), so_ne (by omega)] at hcp
    rw [if_neg hf]
    simp (disch := omega) only [nx_of, if_pos, if_neg, if_true, if_false, true_or, or_true, Int.toNat_natCast, Option.bind_some, hd, so_at, hf1, e, hcp, up_so, so_ne]
    congr 3
    funext c' o'
    unfold so
    by_cases z : c' = 2 ∧ o' = o
    · rw [if_pos z, if_pos z]
    · rw [if_neg z, if_neg z, if_neg z]
theorem sp_take {LS : Int} {n : Nat} (hn : 2 ≤ n) {h : nl_H} {o c v : Nat} (hc : nl_al LS 2 o 0 = (c : Int)) (hc2 : 2 ≤ c ∧ c ≤ 8) {lo hi : Int} (hS : shok c lo hi (h 2 o)) (hlo : 0 ≤ lo) (hhi : hi ≤ 12) (hv : (v : Int) < lo) :
    nl_c LS n m_X2_takeInto [vO 2 o, vO 4 v] h = some (if h 2 o 1 0 < 1 then (0, h) else (1, so (so h 2 o (vu (h 2 o) 1 0 (h 2 o 1 0 - 1))) 4 v (vCopy (h 4 v) (h 4 (h 2 o 0 (h 2 o 1 0 - 1).toNat).toNat)))) := by
  obtain ⟨n, rfl, hn1⟩ := nl_suc hn
  refine cl_X2_takeInto (.ret ?_)
  rw [sg_X2_takeInto_0, hc]
  have h1 := hS.1
  by_cases hf : h 2 o 1 0 < 1
  · simp (disch := omega) only [nx_of, if_pos, if_neg, if_true, if_false, true_or, or_true, Int.toNat_natCast, Option.bind_some]
  · obtain ⟨f, hf2⟩ : ∃ f : Nat, h 2 o 1 0 = f + 1 := ⟨(h 2 o 1 0 - 1).toNat, by omega⟩
    have b1 := hS.2.1 f (by omega)
    have e : (f : Int) + 1 - 1 = f := by omega
    have hcp := sp_copyFrom (LS := LS) hn1 (h := so h 2 o (vu (h 2 o) 1 0 f)) (o := v) (v := (h 2 o 0 f).toNat) (by omega)
    rw [so_ne (by omega), so_ne (by omega)] at hcp
    simp (disch := omega) only [nx_of, if_pos, if_neg, if_true, if_false, true_or, or_true, Int.toNat_natCast, Option.bind_some, hf2, e, up_so, so_at, vu_at, vu_k, hcp]
