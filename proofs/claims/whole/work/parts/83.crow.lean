/-! Constructors: rows over one new object and its arrays, at addresses that are known. -/
def nk_ar (G : nl_G) (ar : List (Nat × Nat)) (sz : Nat) (H : Heap) : Prop := ∀ (j : Nat) (q : Nat × Nat), ar[j]? = some q → H[sz + j]? = some (arrV (gY G q.1) q.2 (fun _ => .int 0))
def nk_A (a sz : Nat) : Nat → Prop := fun q => q = a ∨ sz ≤ q
def nk_J (G : nl_G) (c a sz : Nat) (ar : List (Nat × Nat)) (V : Nat → Value) (H0 H : Heap) (locs : List Loc) : Prop :=
  H.size = sz + ar.length ∧ t_OB a ((gD G).1 c) (nl_N c) ((gD G).2 c) H V ∧ nk_ar G ar sz H ∧ va_S (nk_A a sz) H0 H locs ∧ a < sz ∧ H0.size = sz
def nk_Cx (p : Program) (s : State) (m : MethodId) (args : Array Value) (c : Code) (cc : ByteArray) (nL ci : Nat) (G : nl_G) : Prop :=
  p.tables.exec = Jvm.exec ∧ c.code = cc ∧ c.maxLocals = nL ∧ s.vm.findClass (nl_R ci) = some m.cls ∧ (∀ w ∈ nl_WL, w.before args s = true) ∧ nl_K G s
section NK
variable {p : Program} {l : Launch} {e : Env} {R : Room} {s : State} {m : MethodId} {args : Array Value} {below : List Frame} {meth : Method} {c : Code} {cells slots : Nat} {Q : State → Prop} {cc : ByteArray} {nL ci : Nat} {G : nl_G} {pc : Nat} {ls : Array Slot} {rest : List Value} {H H0 : Heap} {locs : List Loc} {a sz : Nat} {ar : List (Nat × Nat)} {V : Nat → Value}
/-- one field is written -/
theorem nk_put (X : nk_Cx p s m args c cc nL ci G) (hin : meth.name = "<init>") {k idx : Nat} {v : Value} (hc : ci < 7) (hk : k < nl_N ci) (hl : (ci, idx, ci, k) ∈ nl_FL) (ho : (nl_T ci k).1 = nl_R ci) {ty : FieldType} (hd : parseFieldDescriptor (nl_T ci k).2.2.1 = some ty) (hn : narrow ty v = v) (hfit : fits ty v = true) (hdg : decode cc pc = .ok (.putfield idx, 3)) (J : nk_J G ci a sz ar V H0 H locs)
    (kk : ∀ (H' : Heap) (locs' : List Loc), nk_J G ci a sz ar (updV V k v) H0 H' locs' → W p l e R s m args below meth c H' locs' cells slots Q (F0 m (pc + 3) ls rest)) : W p l e R s m args below meth c H locs cells slots Q (F0 m pc ls (v :: .ref a :: rest)) := by
  obtain ⟨hx, hbb, hml, hown, hts, hK, -⟩ := X
  obtain ⟨hz, ⟨cell, q1, q2, q3, q4⟩, hA, hS, ha, hz0⟩ := J
  have hap := va_apart (own := nl_R ci) hts (nl_lays ci hc) (nl_tyf ci) (nl_tyok ci hc) (nl_nmok ci hc) hK (nl_cs_at hc)
  obtain ⟨hSl, hfc, kC, hkC, hkind⟩ := hK.1 ci _ (nl_cs_at hc)
  obtain ⟨cf, kf, fi, f, hi, hsl⟩ := hSl k hk
  have hlay := hts _ (nl_lays ci hc _ (u_in_lay hk))
  have hst := (u_facts hfc hkC (u_lays hts (nl_lays ci hc) hk) hi).1
  have hi2 : s.fieldFound? (nl_R ci) (nl_T ci k).2.1 (nl_T ci k).2.2.1 = some (cf, kf, fi, f) := by rw [← ho]; exact hi
  have hlink := hts _ (nl_FL_all _ hl)
  have fin : ∀ H' : Heap, H'[a]? = some (cell.setSlot f.slot v) → H'.size = H.size → (∀ q, q ≠ a → H'[q]? = H[q]?) → nk_J G ci a sz ar (updV V k v) H0 H' (locs ++ [⟨a, f.slot⟩]) := by
    intro H' e1 e2 e3
    rw [hsl] at e1
    refine ⟨by rw [e2]; exact hz, ⟨_, e1, q2, q3, t_set q4 hap hk v⟩, fun j q hq => ?_, hS.put e2 e3 (Or.inl rfl), ha, hz0⟩
    rw [e3 _ (by omega)]
    exact hA j q hq
  unfold u_lay at hlay
  cases hfin : (nl_T ci k).2.2.2 with
  | false =>
    rw [if_neg (by rw [hfin]; decide)] at hlay
    have h6 := u_store hfc hkC hkind hlay hi hd hn hfit
    exact W.putK hx hbb (f := f) ⟨hown, hlink, ⟨_, _, _, hi2⟩, hst⟩ (by rw [q2]; exact h6) q1 q3 (by rw [hsl]; exact k2_hasslot (q4 k hk)) rfl rfl hdg fun H' e1 e2 e3 => kk _ _ (fin H' e1 e2 e3)
  | true =>
    rw [if_pos hfin] at hlay
    have hcf : m.cls = cf := by
      obtain ⟨_, _, c', _, _, _, -, -, hf', -, -, -, hown2, -⟩ := Cond.laysFinal_spec hlay
      have e1 : c' = cf := by have := hi.symm.trans hf'; simp at this; exact this.1.symm
      rw [ho] at hown2
      rw [← e1]; exact Option.some.inj (hown.symm.trans hown2)
    have h6 := u_fits hfc hkC hkind (Or.inr hlay) hi hd hn hfit
    exact W.putFinK hx hbb hown hlink hi2 hst hcf hin (by rw [q2]; exact h6) q1 q3 (by rw [hsl]; exact k2_hasslot (q4 k hk)) rfl rfl hdg fun H' e1 e2 e3 => kk _ _ (fin H' e1 e2 e3)
/-- one array is made -/
theorem nk_newa (X : nk_Cx p s m args c cc nL ci G) {atype : ArrayType} (y : Nat) (hw : Cond.arrayClass (newarray.typeOf atype) ∈ nl_WL) (hY : s.vm.findClass ("[" ++ (newarray.typeOf atype).toString) = some (gY G y)) (h0 : defaultValue (newarray.typeOf atype) = .int 0) {n : Int32} {N : Nat} (hn : ¬ n < 0) (hN : n.toNatClampNeg = N) (hbytes : N * componentBytes (newarray.typeOf atype) ≤ 536870912) (hcells : cells + 1 ≤ R.cells) (hslots : slots + N ≤ R.slots) (hdg : decode cc pc = .ok (.newarray atype, 2)) (J : nk_J G ci a sz ar V H0 H locs)
    (kk : ∀ H' : Heap, nk_J G ci a sz (ar ++ [(y, N)]) V H0 H' locs → W p l e R s m args below meth c H' locs (cells + 1) (slots + N) Q (F0 m (pc + 2) ls (.ref (sz + ar.length) :: rest))) : W p l e R s m args below meth c H locs cells slots Q (F0 m pc ls (.int n :: rest)) := by
  obtain ⟨hx, hbb, hml, hown, hts, hK, -⟩ := X
  obtain ⟨hz, hO, hA, hS, ha, hz0⟩ := J
  refine va_newaK hx hbb (hts _ hw) (g := F0 m pc ls (.int n :: rest)) rfl hdg rfl hn hN hbytes hcells hslots hz fun H' cA e1 z1 o1 _ e2 => ?_
  refine kk H' ⟨by rw [z1, List.length_append]; rfl, hO.kept (o1 a (by omega)), fun j q hq => ?_, ⟨by omega, fun q h1 h2 => (o1 q (by omega)).trans (hS.2.1 q h1 h2), hS.2.2⟩, ha, hz0⟩
  rcases Nat.lt_or_ge j ar.length with h | h
  · rw [List.getElem?_append_left h] at hq
    rw [o1 _ (by omega)]
    exact hA j q hq
  · rw [List.getElem?_append_right h] at hq
    have hj : j - ar.length < 1 := (List.getElem?_eq_some_iff.mp hq).1
    rw [show j - ar.length = 0 by omega] at hq
    cases hq
    rw [show j = ar.length by omega, e1, h0]
    rw [Option.some.inj (e2.symm.trans hY)]
end NK
