/-! Valleys that are the same where it counts. -/
def veq (V W : nl_O) : Prop :=
  (V 0 0 = W 0 0 ∧ V 1 0 = W 1 0 ∧ V 2 0 = W 2 0) ∧
  (∀ k i : Nat, 3 ≤ k → k ≤ 9 → (i : Int) < V 0 0 → V k i = W k i) ∧
  (∀ i k : Nat, (i : Int) < V 0 0 → (k : Int) < V 0 0 → V 10 (i * 7 + k) = W 10 (i * 7 + k))
theorem veq_refl (V : nl_O) : veq V V := ⟨⟨rfl, rfl, rfl⟩, fun _ _ _ _ _ => rfl, fun _ _ _ _ => rfl⟩
theorem veq_symm {V W : nl_O} (h : veq V W) : veq W V :=
  ⟨⟨h.1.1.symm, h.1.2.1.symm, h.1.2.2.symm⟩, fun k i a b c => (h.2.1 k i a b (by rw [h.1.1]; exact c)).symm, fun i k a b => (h.2.2 i k (by rw [h.1.1]; exact a) (by rw [h.1.1]; exact b)).symm⟩
theorem veq_trans {V W X : nl_O} (h : veq V W) (g : veq W X) : veq V X :=
  ⟨⟨h.1.1.trans g.1.1, h.1.2.1.trans g.1.2.1, h.1.2.2.trans g.1.2.2⟩, fun k i a b c => (h.2.1 k i a b c).trans (g.2.1 k i a b (by rw [← h.1.1]; exact c)), fun i k a b => (h.2.2 i k a b).trans (g.2.2 i k (by rw [← h.1.1]; exact a) (by rw [← h.1.1]; exact b))⟩
theorem veq_copy {A B : nl_O} (hB : B 0 0 ≤ 7) : veq (vCopy A B) B := by
  have h0 : vCopy A B 0 0 = B 0 0 := by unfold vCopy vC2 vC1; rw [if_neg (by omega), if_pos (by omega)]
  refine ⟨⟨h0, ?_, ?_⟩, fun k i a b c => ?_, fun i k a b => ?_⟩
  · unfold vCopy vC2 vC1; rw [if_neg (by omega), if_pos (by omega)]
  · unfold vCopy vC2 vC1; rw [if_neg (by omega), if_pos (by omega)]
  · rw [h0] at c
    unfold vCopy vC2 vC1; rw [if_neg (by omega), if_pos (by omega)]
  · rw [h0] at a b
    unfold vCopy vC2; rw [if_pos (by omega)]
theorem vok_veq {N : Int} {V W : nl_O} (hW : vok N W) (h : veq V W) : vok N V := by
  obtain ⟨w1, w2, w3, w4, w5⟩ := hW
  have e0 := h.1.1
  refine ⟨by rw [e0]; exact w1, by rw [h.1.2.1]; exact w2, by rw [h.1.2.2]; exact w3, fun i hi => ?_, fun i k hi hk => ?_⟩
  · have := w4 i (by omega)
    rw [h.2.1 3 i (by omega) (by omega) hi, h.2.1 4 i (by omega) (by omega) hi, h.2.1 5 i (by omega) (by omega) hi, h.2.1 6 i (by omega) (by omega) hi, h.2.1 7 i (by omega) (by omega) hi, h.2.1 8 i (by omega) (by omega) hi, h.2.1 9 i (by omega) (by omega) hi, e0]
    exact this
  · rw [h.2.2 i k hi hk]
    exact w5 i k (by omega) (by omega)
theorem vinj_veq {V W : nl_O} (hW : vinj W) (h : veq V W) : vinj V := by
  intro i j hi hj e
  rw [h.2.1 8 i (by omega) (by omega) hi, h.2.1 8 j (by omega) (by omega) hj] at e
  have e0 := h.1.1
  exact hW i j (by omega) (by omega) e
theorem vN_veq {V W : nl_O} (h : veq V W) : vN V = vN W := by unfold vN; rw [h.1.1]
theorem vWho_veq {V W : nl_O} (h : veq V W) (x : Int) : ∀ (d i : Nat), (i : Int) + d ≤ V 0 0 → vWho V x d i = vWho W x d i := by
  intro d
  induction d with
  | zero => intro i _; rfl
  | succ d ih =>
    intro i hi
    simp only [vWho]
    rw [h.2.1 8 i (by omega) (by omega) (by omega), ih (i + 1) (by omega)]
theorem vWho_vq {N : Int} {V W : nl_O} (hV : vok N V) (h : veq V W) (x : Int) : vWho V x (vN V) 0 = vWho W x (vN W) 0 := by
  rw [← vN_veq h]
  have := vN_eq hV
  exact vWho_veq h x _ _ (by omega)
theorem vMst_veq {V W : nl_O} (h : veq V W) {i : Nat} (hi : (i : Int) < V 0 0) : ∀ k : Nat, (k : Int) ≤ V 0 0 → vMst V i k = vMst W i k := by
  intro k
  induction k with
  | zero => intro _; rfl
  | succ k ih =>
    intro hk
    simp only [vMst]
    rw [ih (by omega), h.2.2 i k hi (by omega)]
theorem vHv_veq {N : Int} {V W : nl_O} (hV : vok N V) (h : veq V W) {i k : Nat} (hi : (i : Int) < V 0 0) (hk : (k : Int) < V 0 0) : vHv V i k = vHv W i k := by
  have := vN_eq hV
  unfold vHv
  rw [h.2.1 4 i (by omega) (by omega) hi, h.2.1 3 k (by omega) (by omega) hk, h.1.1, ← vN_veq h, vMst_veq h hi _ (by omega)]
theorem vKeeps_veq {N : Int} {V W : nl_O} (hV : vok N V) (h : veq V W) {i : Nat} (hi : (i : Int) < V 0 0) : vKeeps V i = vKeeps W i := by
  have b := (hV.2.2.2.1 i hi).2.2.2.2.2.1
  unfold vKeeps
  rw [vHv_veq hV h hi (by omega), h.2.1 5 i (by omega) (by omega) hi, h.2.1 7 i (by omega) (by omega) hi, h.2.1 8 i (by omega) (by omega) hi]
theorem vGap_veq {N : Int} {V W : nl_O} (hV : vok N V) (h : veq V W) {k : Nat} (hk : (k : Int) < V 0 0) : vGap V k = vGap W k := by
  have e := vN_eq hV
  have e1 := vWho_vq hV h (k : Int)
  unfold vGap
  rw [← e1]
  by_cases q : vWho V k (vN V) 0 = -1
  · rw [if_pos q, if_pos q]
  · have b := (vWho_in (V := V) (k := k) (vN V) 0).1
    have hi : ((vWho V k (vN V) 0).toNat : Int) < V 0 0 := by omega
    rw [if_neg q, if_neg q, vHv_veq hV h hi hk, h.2.1 5 _ (by omega) (by omega) hi, h.2.1 7 _ (by omega) (by omega) hi]
theorem vSee_veq {N : Int} {V W : nl_O} (hV : vok N V) (h : veq V W) {i : Nat} (hi : (i : Int) < V 0 0) : veq (vSee V i) (vSee W i) := by
  have b := (hV.2.2.2.1 i hi).2.2.2.2.2.1
  have e8 := h.2.1 8 i (by omega) (by omega) hi
  have e7 := h.2.1 7 i (by omega) (by omega) hi
  have e5 := h.2.1 5 i (by omega) (by omega) hi
  have e9 := h.2.1 9 i (by omega) (by omega) hi
  have eh := vHv_veq hV h hi (k := (V 8 i).toNat) (by omega)
  have z0 : vSee V i 0 0 = V 0 0 := see_lo (by omega)
  refine ⟨⟨?_, ?_, ?_⟩, fun k j a c d => ?_, fun a k c d => ?_⟩
  · rw [see_lo (by omega), see_lo (by omega)]; exact h.1.1
  · rw [see_lo (by omega), see_lo (by omega)]; exact h.1.2.1
  · rw [see_lo (by omega), see_lo (by omega)]; exact h.1.2.2
  · rw [z0] at d
    have ej := h.2.1 k j a c d
    by_cases k7 : k < 7
    · rw [see_lo k7, see_lo k7]; exact ej
    rcases (show k = 7 ∨ k = 8 ∨ k = 9 by omega) with rfl | rfl | rfl
    · rw [see_7, see_7, eh, e8, e7, e5, ej]
    · rw [see_8, see_8, e8, ej, h.1.1]
    · rw [see_9, see_9, eh, e8, e7, e5, e9, ej]
  · rw [z0] at c d
    rw [see_10, see_10, e8, h.2.2 a k c d]
theorem vRow_veq {N : Int} : ∀ (d i : Nat) {V W : nl_O}, vok N V → veq V W → (i : Int) + d ≤ V 0 0 → veq (vRow d i V).1 (vRow d i W).1 ∧ (vRow d i V).2 = (vRow d i W).2 := by
  intro d
  induction d generalizing N with
  | zero => intro i V W hV h _; exact ⟨h, rfl⟩
  | succ d ih =>
    intro i V W hV h hi
    have z0 : vSee V i 0 0 = V 0 0 := see_lo (by omega)
    have k9 := ih (N := N + 1) (i + 1) (vok_see hV (i := i) (by omega)) (vSee_veq hV h (by omega)) (by rw [z0]; omega)
    simp only [vRow]
    rw [k9.2, vKeeps_veq hV h (i := i) (by omega)]
    exact ⟨k9.1, rfl⟩
theorem veq_u {V W : nl_O} (h : veq V W) {k : Nat} (hk : k = 1 ∨ k = 2) {x y : Int} (hx : x = y) : veq (vu V k 0 x) (vu W k 0 y) := by
  subst hx
  have z0 : vu V k 0 x 0 0 = V 0 0 := vu_k (by omega)
  refine ⟨⟨?_, ?_, ?_⟩, fun j i a b c => ?_, fun i j a b => ?_⟩
  · rw [z0, vu_k (by omega)]; exact h.1.1
  · rcases hk with rfl | rfl
    · rw [vu_at, vu_at]
    · rw [vu_k (by omega), vu_k (by omega)]; exact h.1.2.1
  · rcases hk with rfl | rfl
    · rw [vu_k (by omega), vu_k (by omega)]; exact h.1.2.2
    · rw [vu_at, vu_at]
  · rw [z0] at c
    rw [vu_k (by omega), vu_k (by omega)]; exact h.2.1 j i a b c
  · rw [z0] at a b
    rw [vu_k (by omega), vu_k (by omega)]; exact h.2.2 i j a b
theorem vNight_veq {N : Int} {V W : nl_O} (hV : vok N V) (h : veq V W) : veq (vNight V).1 (vNight W).1 ∧ (vNight V).2 = (vNight W).2 := by
  have e := vN_eq hV
  have k9 := vRow_veq (vN V) 0 hV h (by omega)
  unfold vNight
  rw [← vN_veq h]
  exact ⟨veq_u k9.1 (.inl rfl) (by rw [k9.1.1.2.1]), k9.2⟩
theorem vNights_s (m : Nat) (V : nl_O) : vNights (m + 1) V = ((vNights m (vNight V).1).1, (vNight V).2 + (vNights m (vNight V).1).2) := rfl
theorem vNights_veq : ∀ (m : Nat) {N : Int} {V W : nl_O}, vok N V → veq V W → veq (vNights m V).1 (vNights m W).1 ∧ (vNights m V).2 = (vNights m W).2 := by
  intro m
  induction m with
  | zero => intro N V W _ h; exact ⟨h, rfl⟩
  | succ m ih =>
    intro N V W hV h
    have a := vNight_veq hV h
    have k9 := ih (vNight_ok hV).1 a.1
    rw [vNights_s, vNights_s]
    exact ⟨k9.1, by rw [a.2, k9.2]⟩
theorem vPass_veq {d : Nat} {N : Int} {V W : nl_O} (hV : vok N V) (h : veq V W) : veq (vPass d V) (vPass d W) := by
  have a := vNights_veq d hV h
  unfold vPass
  exact veq_u a.1 (.inr rfl) (by rw [a.1.1.2.2, a.2])
theorem vMiss_veq : ∀ (m t : Nat) {N : Int} {V W : nl_O} {i : Nat}, vok N V → veq V W → (i : Int) < V 0 0 → vMiss m t V i = vMiss m t W i := by
  intro m
  induction m with
  | zero => intro t N V W i _ _ _; rfl
  | succ m ih =>
    intro t N V W i hV h hi
    have z0 : vSee V i 0 0 = V 0 0 := see_lo (by omega)
    simp only [vMiss]
    rw [vKeeps_veq hV h hi, ih (t + 1) (vok_see hV hi) (vSee_veq hV h hi) (by rw [z0]; exact hi)]
theorem vSum_veq {V W : nl_O} (h : veq V W) {k : Nat} (hk : 3 ≤ k ∧ k ≤ 9) : ∀ (d i : Nat), (i : Int) + d ≤ V 0 0 → vSum V k d i = vSum W k d i := by
  intro d
  induction d with
  | zero => intro i _; rfl
  | succ d ih =>
    intro i hi
    simp only [vSum]
    rw [h.2.1 k i hk.1 hk.2 (by omega), ih (i + 1) (by omega)]
theorem vWy_veq {N : Int} {V W : nl_O} (hV : vok N V) (h : veq V W) (k : Nat) : vWy V k = vWy W k := by
  have e := vN_eq hV
  have e1 := vWho_vq hV h ((k : Int) - 1)
  have e2 := vWho_vq hV h (k : Int)
  unfold vWy
  rw [← e1, ← e2]
  by_cases q : vWho V ((k : Int) - 1) (vN V) 0 = -1 ∨ vWho V k (vN V) 0 = -1
  · rw [if_pos q, if_pos q]
  · have b1 := (vWho_in (V := V) (k := (k : Int) - 1) (vN V) 0).1
    have b2 := (vWho_in (V := V) (k := (k : Int)) (vN V) 0).1
    rw [if_neg q, if_neg q, h.2.1 6 (vWho V k (vN V) 0).toNat (by omega) (by omega) (by omega), h.2.1 6 (vWho V ((k : Int) - 1) (vN V) 0).toNat (by omega) (by omega) (by omega)]
theorem vWay_veq {N : Int} {V W : nl_O} (hV : vok N V) (h : veq V W) : ∀ (d k : Nat), vWay V d k = vWay W d k := by
  intro d
  induction d with
  | zero => intro k; rfl
  | succ d ih => intro k; simp only [vWay]; rw [vWy_veq hV h, ih]
theorem vLo_veq {V W : nl_O} (h : veq V W) : ∀ i : Nat, (i : Int) ≤ V 0 0 → vLo V i = vLo W i ∧ vHi V i = vHi W i := by
  intro i
  induction i with
  | zero => intro _; exact ⟨rfl, rfl⟩
  | succ i ih =>
    intro hi
    have k9 := ih (by omega)
    simp only [vLo, vHi]
    rw [h.2.1 6 i (by omega) (by omega) (by omega), k9.1, k9.2]
    exact ⟨rfl, rfl⟩
theorem veq_v {V W : nl_O} (h : veq V W) {k i : Nat} (hk : 3 ≤ k ∧ k ≤ 9) {x y : Int} (hx : x = y) : veq (vu V k i x) (vu W k i y) := by
  subst hx
  have z0 : vu V k i x 0 0 = V 0 0 := vu_k (by omega)
  refine ⟨⟨?_, ?_, ?_⟩, fun j a b c d => ?_, fun a j b c => ?_⟩
  · rw [z0, vu_k (by omega)]; exact h.1.1
  · rw [vu_k (by omega), vu_k (by omega)]; exact h.1.2.1
  · rw [vu_k (by omega), vu_k (by omega)]; exact h.1.2.2
  · rw [z0] at d
    by_cases q : j = k ∧ a = i
    · obtain ⟨rfl, rfl⟩ := q
      rw [vu_at, vu_at]
    · rw [vu_ne q, vu_ne q]; exact h.2.1 j a b c d
  · rw [z0] at b c
    rw [vu_k (by omega), vu_k (by omega)]; exact h.2.2 a j b c
theorem vTrade_veq {V W : nl_O} (h : veq V W) {a b : Nat} (ha : (a : Int) < V 0 0) (hb : (b : Int) < V 0 0) : veq (vTrade V a b) (vTrade W a b) := by
  unfold vTrade
  exact veq_v (veq_v h ⟨by omega, by omega⟩ (h.2.1 8 b (by omega) (by omega) hb)) ⟨by omega, by omega⟩ (h.2.1 8 a (by omega) (by omega) ha)
theorem vRest_veq {V W : nl_O} (h : veq V W) {i : Nat} (hi : (i : Int) < V 0 0) : veq (vRest V i) (vRest W i) := by
  unfold vRest
  exact veq_v h ⟨by omega, by omega⟩ (by rw [h.2.1 7 i (by omega) (by omega) hi])
theorem vStir_veq {N : Int} {V W : nl_O} (hV : vok N V) (h : veq V W) (x : Nat) : veq (vStir V x) (vStir W x) := by
  have e := vN_eq hV
  have e2 := hV.1
  have m1 : x % vN V < vN V := Nat.mod_lt _ (by omega)
  have m2 : x / 8 % vN V < vN V := Nat.mod_lt _ (by omega)
  unfold vStir
  rw [← vN_veq h]
  repeat' split
  · exact vTrade_veq h (by omega) (by omega)
  · exact vRest_veq h (by omega)
  · rw [h.2.1 8 (x % vN V) (by omega) (by omega) (by omega)]
    exact veq_v h ⟨by omega, by omega⟩ rfl
  · exact h
theorem vFit_veq {N : Int} {S V W : nl_O} (hV : vok N V) (h : veq V W) (hS : sok (V 0 0) S) (x : Int) : ∀ (d i : Nat), (i : Int) + d ≤ S 3 0 → vFit S V x d i = vFit S W x d i := by
  intro d
  induction d with
  | zero => intro i _; rfl
  | succ d ih =>
    intro i hi
    have b := (hS.2 i (by omega)).2.1
    simp only [vFit]
    rw [vGap_veq hV h (k := (S 1 i).toNat) (by omega), ih (i + 1) (by omega)]
theorem rHouse_veq {V W : nl_O} (h : veq V W) (x y : Int) : rHouse V x y = rHouse W x y := by
  unfold rHouse
  rw [h.1.1]
  by_cases q : 0 ≤ x ∧ x < W 0 0
  · have q2 : (x.toNat : Int) < V 0 0 := by have := h.1.1; omega
    rw [if_pos q, if_pos q, h.2.1 4 _ (by omega) (by omega) q2, h.2.1 5 _ (by omega) (by omega) q2, h.2.1 6 _ (by omega) (by omega) q2, h.2.1 7 _ (by omega) (by omega) q2, h.2.1 8 _ (by omega) (by omega) q2, h.2.1 9 _ (by omega) (by omega) q2]
  · rw [if_neg q, if_neg q]
theorem rHour_veq {N : Int} {V W : nl_O} (hV : vok N V) (h : veq V W) (x y : Int) : rHour V x y = rHour W x y := by
  unfold rHour
  rw [vWho_vq hV h, h.1.1]
  by_cases q : 0 ≤ x ∧ x < W 0 0 ∧ 0 ≤ y ∧ y ≤ 1
  · have q2 : (x.toNat : Int) < V 0 0 := by have := h.1.1; omega
    rw [if_pos q, if_pos q, h.2.1 3 _ (by omega) (by omega) q2]
  · rw [if_neg q, if_neg q]
theorem rHeavy_veq {N : Int} {V W : nl_O} (hV : vok N V) (h : veq V W) (x y : Int) : rHeavy V x y = rHeavy W x y := by
  unfold rHeavy
  have e := h.1.1
  by_cases q : (0 ≤ x ∧ x < V 0 0) ∧ 0 ≤ y ∧ y < V 0 0
  · rw [if_pos q, if_pos (by omega), vHv_veq hV h (by omega) (by omega)]
  · rw [if_neg q, if_neg (by omega)]
theorem rHad_veq {V W : nl_O} (h : veq V W) (x y : Int) : rHad V x y = rHad W x y := by
  unfold rHad
  have e := h.1.1
  by_cases q : (0 ≤ x ∧ x < V 0 0) ∧ 0 ≤ y ∧ y < V 0 0
  · rw [if_pos q, if_pos (by omega), h.2.2 _ _ (by omega) (by omega)]
  · rw [if_neg q, if_neg (by omega)]
theorem rFar_veq {N : Int} {V W : nl_O} (hV : vok N V) (h : veq V W) (x : Int) : rFar V x = rFar W x := by
  have e := vN_eq hV
  have k9 := vLo_veq h (vN V) (by omega)
  unfold rFar
  rw [vWay_veq hV h, k9.1, k9.2, vN_veq h]
