/-! The relation between the class's heap and the model's big valley. -/
def vgd (V : nl_O) : Prop := vok (7 * V 1 0) V ∧ vinj V ∧ V 1 0 ≤ 999
theorem vgd_N {V : nl_O} (h : vgd V) : vok 6993 V := vok_up h.1 (by have := h.2.2; omega)
theorem vgd_veq {V W : nl_O} (h : vgd W) (e : veq V W) : vgd V := by
  have e1 := e.1.2.1
  refine ⟨by rw [e1]; exact vok_veq h.1 e, vinj_veq h.2.1 e, by rw [e1]; exact h.2.2⟩
/-- a shelf (its object S, its valleys in h) and the model's notes -/
def rsh (h : nl_H) (c lo hi : Int) (S V : nl_O) (k q : Nat) : Prop :=
  shok c lo hi S ∧ V q 0 = S 1 0 ∧ ∀ j : Nat, (j : Int) < S 1 0 → vgd (mTk V k (79 * j)) ∧ veq (h 4 (S 0 j).toNat) (mTk V k (79 * j))
def rse (S V : nl_O) : Prop := sok (V 0 0) S ∧ V 11 0 = S 3 0 ∧ ∀ i : Nat, (i : Int) < S 3 0 → V 12 i = S 0 i ∧ V 13 i = S 1 i ∧ V 14 i = S 2 i
def rtx (T V : nl_O) : Prop := ∃ L : Nat, T 1 0 = L ∧ V 16 0 = L ∧ tok (T 0) L ∧ ∀ i, i < L → V 15 i = T 0 i
def rl (h : nl_H) (V : nl_O) : Prop := vgd V ∧ veq (h 4 0) V ∧ rsh h 8 2 10 (h 2 0) V 23 24 ∧ rsh h 2 10 12 (h 2 1) V 28 29 ∧ rse (h 3 0) V ∧ rtx (h 5 0) V
/-- the relation of a heap that holds both -/
def rg (h : nl_H) : Prop := rl h (mv (h 6 0))
theorem rsh_h {h g : nl_H} {c lo hi : Int} {S V : nl_O} {k q : Nat} (r : rsh h c lo hi S V k q) (hc2 : 2 ≤ c) (hlo : 0 ≤ lo) (e : ∀ r : Nat, lo ≤ r → (r : Int) < hi → g 4 r = h 4 r) : rsh g c lo hi S V k q := by
  refine ⟨r.1, r.2.1, fun j hj => ?_⟩
  have b := r.1.2.1 j (by have := r.1.1; omega)
  rw [e (S 0 j).toNat (by omega) (by omega)]
  exact r.2.2 j hj
theorem rl_h {h g : nl_H} {V : nl_O} (r : rl h V) (e0 : g 4 0 = h 4 0) (e : ∀ r : Nat, 2 ≤ r → r < 12 → g 4 r = h 4 r) (e2 : g 2 0 = h 2 0) (e21 : g 2 1 = h 2 1) (e3 : g 3 0 = h 3 0) (e5 : g 5 0 = h 5 0) : rl g V := by
  obtain ⟨a1, a2, a3, a4, a5, a6⟩ := r
  refine ⟨a1, by rw [e0]; exact a2, ?_, ?_, by rw [e3]; exact a5, by rw [e5]; exact a6⟩
  · rw [e2]; exact rsh_h a3 (by omega) (by omega) fun r h1 h2 => e r (by omega) (by omega)
  · rw [e21]; exact rsh_h a4 (by omega) (by omega) fun r h1 h2 => e r (by omega) (by omega)
theorem rl_so {h : nl_H} {V : nl_O} (r : rl h V) {c o : Nat} {W : nl_O} (q : c = 0 ∨ c = 1 ∨ (c = 4 ∧ o = 1) ∨ c = 6) : rl (so h c o W) V :=
  rl_h r (so_ne (by omega)) (fun _ _ _ => so_ne (by omega)) (so_ne (by omega)) (so_ne (by omega)) (so_ne (by omega)) (so_ne (by omega))
theorem rg_sm {h : nl_H} {V : nl_O} (r : rl h V) : rg (sm h V) := by
  unfold rg
  rw [mv_sm]
  exact rl_so r (by omega)
/-- both calls answer alike, and the relation holds behind them -/
def ag (LS : Int) (n y5 y6 : Nat) (as : List nl_V) (g : nl_H) : Prop := ∃ a g' g'', nl_c LS n y5 (vO 5 0 :: as) g = some (a, g') ∧ nl_c LS n y6 (vO 6 0 :: as) g' = some (a, g'') ∧ rg g''
theorem ag_of {LS : Int} {n y5 y6 : Nat} {as : List nl_V} {g g1 : nl_H} {V W : nl_O} {a b : Int} (hV : mv (g 6 0) = V) (h1 : nl_c LS n y5 (vO 5 0 :: as) g = some (a, g1)) (h6 : g1 6 0 = g 6 0) (h2 : nl_c LS n y6 (vO 6 0 :: as) (sm g1 V) = some (b, sm g1 W)) (hab : b = a) (hr : rl g1 W) : ag LS n y5 y6 as g := by
  subst hV hab
  rw [← h6, sm_self] at h2
  exact ⟨b, g1, sm g1 W, h1, h2, rg_sm hr⟩
