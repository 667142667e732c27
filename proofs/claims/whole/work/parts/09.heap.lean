
theorem nl_Tn {c k : Nat} (hc : c < 7) : (nl_T c k).1 = nl_R c := by
  match c, hc with
  | 0, _ => show (TX0 k).1 = RX0; unfold TX0; split <;> rfl
  | 1, _ => show (TX1 k).1 = RX1; unfold TX1; split <;> rfl
  | 2, _ => show (TX2 k).1 = RX2; unfold TX2; split <;> rfl
  | 3, _ => show (TX3 k).1 = RX3; unfold TX3; split <;> rfl
  | 4, _ => show (TX4 k).1 = RX4; unfold TX4; split <;> rfl
  | 5, _ => show (TX5 k).1 = RX5; unfold TX5; split <;> rfl
  | 6, _ => show (TX6 k).1 = RX6; unfold TX6; split <;> rfl
  | n + 7, h => exact absurd h (by omega)
def nl_tyf (c : Nat) : Nat → FieldType := match c with
  | 0 => tyX0
  | 1 => tyX1
  | 2 => tyX2
  | 3 => tyX3
  | 4 => tyX4
  | 5 => tyX5
  | _ => tyX6
theorem nl_tyok (c : Nat) (hc : c < 7) : ∀ k, k < nl_N c → parseFieldDescriptor (nl_T c k).2.2.1 = some (nl_tyf c k) := by
  match c, hc with
  | 0, _ => exact tyX0_ok
  | 1, _ => exact tyX1_ok
  | 2, _ => exact tyX2_ok
  | 3, _ => exact tyX3_ok
  | 4, _ => exact tyX4_ok
  | 5, _ => exact tyX5_ok
  | 6, _ => exact tyX6_ok
  | n + 7, h => exact absurd h (by omega)
theorem nl_nmok (c : Nat) (hc : c < 7) : ∀ a, a < nl_N c → ∀ b, b < nl_N c → a ≠ b → (nl_T c a).2.1 ≠ (nl_T c b).2.1 := by
  match c, hc with
  | 0, _ => exact nmX0
  | 1, _ => exact nmX1
  | 2, _ => exact nmX2
  | 3, _ => exact nmX3
  | 4, _ => exact nmX4
  | 5, _ => exact nmX5
  | 6, _ => exact nmX6
  | n + 7, h => exact absurd h (by omega)
def nl_c0 (c : Nat) : Nat := match c with
  | 2 => 2
  | 4 => 12
  | _ => 1
theorem nl_fobj : ∀ a, a < 7 → ∀ b, b < 30 → 2 ≤ nl_fk a b → ((nl_fk a b - 2) / 32 ≤ 4 ∧ (nl_fk a b - 2) % 32 < nl_c0 ((nl_fk a b - 2) / 32)) := by decide +kernel
theorem nl_N30 : ∀ a, a < 7 → nl_N a ≤ 30 := by decide +kernel
theorem nl_Ap.cnt {G : nl_G} (h : nl_Ap G) {c : Nat} (hc : c ≤ 4) : gN G c = nl_c0 c := by
  obtain ⟨-, -, -, -, -, -, h0, h1, h2, h3, h4, -⟩ := h
  match c, hc with
  | 0, _ => exact h0
  | 1, _ => exact h1
  | 2, _ => exact h2
  | 3, _ => exact h3
  | 4, _ => exact h4
  | n + 5, h => exact absurd h (by omega)
/-- what is at most one cell's change -/
theorem nl_Wd_chg {G : nl_G} {h h' : nl_H} {s : State} {H H' : Heap} {q : Nat} (hW : nl_Wd G h s H) (hq : ∀ x, x ≠ q → H'[x]? = H[x]?)
    (ho : ∀ c o : Nat, c < 7 → o < gN G c → (gO G c o ≠ q ∧ ∀ k, k < nl_N c → nl_fv G h' c o k = nl_fv G h c o k) ∨ t_OB (gO G c o) ((gD G).1 c) (nl_N c) ((gD G).2 c) H' (nl_fv G h' c o))
    (ha : ∀ c o k : Nat, c < 7 → o < gN G c → k < nl_N c → nl_fk c k = 1 → (gA G c o k ≠ q ∧ nl_arr G h' c o k = nl_arr G h c o k) ∨ H'[gA G c o k]? = some (vp_cell (gY G (nl_at c k)) (nl_arr G h' c o k)))
    (hs : gN G 9 = 1 → gA G 9 0 0 ≠ q ∧ ∀ i, h' 9 0 0 i = h 9 0 0 i) : nl_Wd G h' s H' := by
  refine ⟨fun c o hc hoo => ?_, fun c o k hc hoo hk hf => ?_, fun h9 => ?_⟩
  · rcases ho c o hc hoo with ⟨h1, h2⟩ | h1
    · exact ((hW.1 c o hc hoo).kept (hq _ h1)).to fun k hk => (h2 k hk).symm
    · exact h1
  · rcases ha c o k hc hoo hk hf with ⟨h1, h2⟩ | h1
    · rw [hq _ h1, h2]
      exact hW.2.1 c o k hc hoo hk hf
    · exact h1
  · obtain ⟨h1, h2⟩ := hs h9
    have h3 := (hW.2.2 h9).kept (hq _ h1)
    have e : (fun i => Int32.ofInt (h' 9 0 0 i)) = (fun i => Int32.ofInt (h 9 0 0 i)) := by
      funext i
      rw [h2 i]
    rw [e]
    exact h3
theorem nl_up_ne {h : nl_H} {c o k i : Nat} {x : Int} {c' o' k' i' : Nat} (n : ¬ (c' = c ∧ o' = o ∧ k' = k)) : nl_up h c o k i x c' o' k' i' = h c' o' k' i' := by
  unfold nl_up
  rw [if_neg (fun z => n ⟨z.1, z.2.1, z.2.2.1⟩)]
theorem nl_up_eq {h : nl_H} {c o k i : Nat} {x : Int} : nl_up h c o k i x c o k i = x := by
  unfold nl_up
  rw [if_pos ⟨rfl, rfl, rfl, rfl⟩]
theorem nl_fv_up {G : nl_G} {h : nl_H} {c o k i : Nat} {x : Int} {c' o' k' : Nat} (n : ¬ (c' = c ∧ o' = o ∧ k' = k)) : nl_fv G (nl_up h c o k i x) c' o' k' = nl_fv G h c' o' k' := by
  unfold nl_fv
  split
  · rw [nl_up_ne n]
  · rfl
  · rfl
theorem nl_arr_up {G : nl_G} {h : nl_H} {c o k i : Nat} {x : Int} {c' o' k' : Nat} (n : ¬ (c' = c ∧ o' = o ∧ k' = k)) : nl_arr G (nl_up h c o k i x) c' o' k' = nl_arr G h c' o' k' := by
  have e : ∀ j, nl_up h c o k i x c' o' k' j = h c' o' k' j := fun j => nl_up_ne n
  unfold nl_arr
  simp only [e]
/-- an object's field of numbers is written -/
theorem nl_Wd_put {G : nl_G} {h : nl_H} {s : State} {H H' : Heap} {a o b : Nat} {x : Int} {cell : Cell} (hA : nl_Ap G) (hW : nl_Wd G h s H) (ha : a < 7) (ho : o < gN G a) (hb : b < nl_N a) (hf : nl_fk a b = 0)
    (hap : ∀ x y, x < nl_N a → y < nl_N a → x ≠ y → ((gD G).2 a) x ≠ ((gD G).2 a) y) (q1 : H[gO G a o]? = some cell) (q2 : cell.cls = (gD G).1 a) (q3 : cell.vm = .none) (q4 : ∀ k, k < nl_N a → cell.slots[(gD G).2 a k]? = some (nl_fv G h a o k))
    (e1 : H'[gO G a o]? = some (cell.setSlot ((gD G).2 a b) (.int (Int32.ofInt x)))) (e3 : ∀ q, q ≠ gO G a o → H'[q]? = H[q]?) : nl_Wd G (nl_up h a o b 0 x) s H' := by
  obtain ⟨a1, a2, a3, a4, a5, a6, -⟩ := hA
  refine nl_Wd_chg hW e3 (fun c o' hc ho' => ?_) (fun c o' k hc ho' hk hfk => ?_) (fun h9 => ?_)
  · by_cases hz : c = a ∧ o' = o
    · right
      obtain ⟨z1, z2⟩ := hz
      subst z1
      subst z2
      refine ⟨_, e1, q2, q3, fun k hk => ?_⟩
      rw [t_set q4 hap hb _ k hk]
      congr 1
      unfold updV
      by_cases hkb : k = b
      · subst hkb
        rw [if_pos rfl]
        unfold nl_fv
        rw [hf]
        simp only [nl_up_eq]
      · rw [if_neg hkb, nl_fv_up (fun z => hkb z.2.2)]
    · left
      exact ⟨fun z => hz (a1 _ _ _ _ hc ho' ha ho z), fun k hk => nl_fv_up (fun z => hz ⟨z.1, z.2.1⟩)⟩
  · left
    refine ⟨fun z => a3 _ _ _ _ _ ha ho hc ho' hk hfk z.symm, nl_arr_up fun z => ?_⟩
    obtain ⟨z1, z2, z3⟩ := z
    subst z1; subst z3
    rw [hf] at hfk
    cases hfk
  · have h6 := a6 h9
    refine ⟨fun z => h6.1 (by rw [z]; exact a4 _ _ ha ho), fun i => nl_up_ne fun z => ?_⟩
    omega
/-- an array's entry is written -/
theorem nl_Wd_st {G : nl_G} {h : nl_H} {s : State} {H H' : Heap} {a o b i : Nat} {x : Int} (hA : nl_Ap G) (hW : nl_Wd G h s H) (ha : a < 7) (ho : o < gN G a) (hb : b < nl_N a) (hf : nl_fk a b = 1)
    (e1 : H'[gA G a o b]? = some (vp_cell (gY G (nl_at a b)) (nl_arr G (nl_up h a o b i x) a o b))) (e3 : ∀ q, q ≠ gA G a o b → H'[q]? = H[q]?) : nl_Wd G (nl_up h a o b i x) s H' := by
  obtain ⟨a1, a2, a3, a4, a5, a6, -⟩ := hA
  refine nl_Wd_chg hW e3 (fun c o' hc ho' => ?_) (fun c o' k hc ho' hk hfk => ?_) (fun h9 => ?_)
  · left
    refine ⟨a3 _ _ _ _ _ hc ho' ha ho hb hf, fun k hk => ?_⟩
    by_cases z : c = a ∧ o' = o ∧ k = b
    · obtain ⟨z1, z2, z3⟩ := z
      subst z1; subst z2; subst z3
      unfold nl_fv
      rw [hf]
    · exact nl_fv_up z
  · by_cases z : c = a ∧ o' = o ∧ k = b
    · right
      obtain ⟨z1, z2, z3⟩ := z
      subst z1; subst z2; subst z3
      exact e1
    · left
      exact ⟨fun y => z (a2 _ _ _ _ _ _ hc ho' hk hfk ha ho hb hf y), nl_arr_up z⟩
  · have h6 := a6 h9
    refine ⟨fun z => h6.1 (by rw [z]; exact a5 _ _ _ ha ho hb hf), fun i => nl_up_ne fun z => ?_⟩
    omega
theorem nl_one {D : va_G} {H : Heap} {q : Nat × va_E} (h : va_at D nl_cs q H) : va_P D nl_cs [q] H := by
  intro k q' hk
  match k, hk with
  | 0, hk => cases hk; exact h
theorem nl_Pobj {G : nl_G} {h : nl_H} {s : State} {H : Heap} (hW : nl_Wd G h s H) {a o : Nat} (ha : a < 7) (ho : o < gN G a) : va_P (gD G) nl_cs [(gO G a o, .inr (a, (List.range (nl_N a)).map (nl_fv G h a o)))] H := by
  refine nl_one ⟨_, nl_cs_at ha, (hW.1 a o ha ho).to fun k hk => ?_⟩
  unfold vp_V
  rw [List.getD_eq_getElem?_getD, List.getElem?_map, List.getElem?_range hk]
  rfl
section NLHEAP
variable {p : Program} {l : Launch} {e : Env} {R : Room} {s : State} {m : MethodId} {args : Array Value} {below : List Frame} {meth : Method} {c : Code} {cells slots : Nat} {Q : State → Prop} {cc : ByteArray} {nL ci n ret : Nat} {G : nl_G} {den : nl_D} {go : Nat → nl_Ls → List nl_V → nl_H → Option nl_Re} {res : nl_Re} {pc : Nat} {L : nl_Ls} {S : List nl_V} {h : nl_H} {len a b c' : Nat}

theorem ns_getfield (X : nl_Cx p l e R s m args c cells slots cc nL ci n G) {k : Nat} (hd : decode cc pc = .ok (.getfield k, len)) (hk : nl_ok ci nL (pc, .getfield k, len, a, b, c') = true) (hgo : ∀ pc' L' S' h', go pc' L' S' h' = some res → nl_Go p l e R s m args below meth c cells slots Q G nL pc' L' S' h')
    (E : nl_st (gL G) den ret pc L S h (.getfield k) len a b c' go = some res) : nl_Go p l e R s m args below meth c cells slots Q G nL pc L S h := by
  simp only [nl_ok, Bool.and_eq_true, beq_iff_eq, List.contains_iff_mem, Nat.blt_eq, Nat.beq_eq] at hk
  obtain ⟨⟨⟨⟨hk1, ha⟩, hb⟩, hf⟩, hl⟩ := hk
  subst hl
  simp only [nl_st] at E
  split at E
  · rename_i c9 o S'
    cases hc : Nat.beq c9 a with
    | false => simp only [hc, cond_false] at E; cases E
    | true =>
      simp only [hc, cond_true] at E
      have hc := Nat.eq_of_beq_eq_true hc
      subst hc
      intro H locs ls hW hS hL hV
      have ho : o < gN G c9 := (nl_okh hV).2
      refine va_get (D := gD G) (cl := nl_cs) (tys := nl_ty G) (ci := c9) (v := nl_fv G h c9 o b) (C := nl_R c9) (T := nl_T c9) (N := nl_N c9) X.1 X.2.1 X.2.2.2.2.1 (nl_lays c9 ha) X.2.2.2.1 X.2.2.2.2.2.1.1 (nl_Pobj hW ha ho) 0 rfl (nl_cs_at ha) b hb (ref := nl_R c9) (X.2.2.2.2.1 _ (nl_FL_all _ hk1)) (fun _ h9 => by rw [nl_Tn ha] at h9; exact h9) (by rw [List.getElem?_map, List.getElem?_range hb]; rfl) hd ?_
      split at E
      · have e : nl_fv G h c9 o b = nl_cv G (vI (h c9 o b 0)) := by unfold nl_fv; rw [hf]; rfl
        rw [e]
        exact hgo _ _ _ _ E H locs ls hW hS hL (nl_ok1 trivial (nl_okt hV))
      · have e : nl_fv G h c9 o b = nl_cv G (vA c9 o b) := by unfold nl_fv; rw [hf]; rfl
        rw [e]
        exact hgo _ _ _ _ E H locs ls hW hS hL (nl_ok1 (Or.inl ⟨ha, ho, hb, hf⟩) (nl_okt hV))
      · rename_i n9
        have e : nl_fv G h c9 o b = nl_cv G (vO (n9 / 32) (n9 % 32)) := by unfold nl_fv; rw [hf]; rfl
        rw [e]
        have hN := nl_N30 c9 ha
        have hj := nl_fobj c9 ha b (by omega) (by rw [hf]; omega)
        rw [hf, show n9 + 2 - 2 = n9 from rfl] at hj
        refine hgo _ _ _ _ E H locs ls hW hS hL (nl_ok1 ⟨by omega, ?_⟩ (nl_okt hV))
        rw [X.2.2.2.2.2.2.1.cnt hj.1]
        exact hj.2
  · cases E
theorem ns_putfield (X : nl_Cx p l e R s m args c cells slots cc nL ci n G) {k : Nat} (hd : decode cc pc = .ok (.putfield k, len)) (hk : nl_ok ci nL (pc, .putfield k, len, a, b, c') = true) (hgo : ∀ pc' L' S' h', go pc' L' S' h' = some res → nl_Go p l e R s m args below meth c cells slots Q G nL pc' L' S' h')
    (E : nl_st (gL G) den ret pc L S h (.putfield k) len a b c' go = some res) : nl_Go p l e R s m args below meth c cells slots Q G nL pc L S h := by
  simp only [nl_ok, Bool.and_eq_true, beq_iff_eq, List.contains_iff_mem, Nat.blt_eq, Nat.beq_eq] at hk
  obtain ⟨⟨⟨⟨hk1, ha⟩, hb⟩, hf⟩, hl⟩ := hk
  subst hl
  simp only [nl_st] at E
  split at E
  · rename_i x c9 o S'
    cases hc : Nat.beq c9 a with
    | false => simp only [hc, cond_false] at E; cases E
    | true =>
      simp only [hc, cond_true] at E
      have hc := Nat.eq_of_beq_eq_true hc
      subst hc
      intro H locs ls hW hS hL hV
      have ho : o < gN G c9 := (nl_okh (nl_okt hV)).2
      have hX := X
      obtain ⟨hx, hbb, hml, hown, hts, ⟨hK, -⟩, hA, -⟩ := hX
      have hap := va_apart (own := nl_R ci) hts (nl_lays c9 ha) (nl_tyf c9) (nl_tyok c9 ha) (nl_nmok c9 ha) hK (nl_cs_at ha)
      obtain ⟨cell, q1, q2, q3, q4⟩ := hW.1 c9 o ha ho
      obtain ⟨hSl, hfc, kC, hkC, hkind⟩ := hK.1 c9 _ (nl_cs_at ha)
      obtain ⟨cf, kf, fi, f, hi, hsl⟩ := hSl b hb
      have hfin := (nl_fint c9 ha b hb hf).1
      have hdes : parseFieldDescriptor (nl_T c9 b).2.2.1 = some .int := by rw [(nl_fint c9 ha b hb hf).2]; decide +kernel
      have hlay := hts _ (nl_lays c9 ha _ (u_in_lay hb))
      unfold u_lay at hlay
      rw [if_neg (by rw [hfin]; decide)] at hlay
      have hst := (u_facts hfc hkC (u_lays hts (nl_lays c9 ha) hb) hi).1
      have h6 := u_store hfc hkC hkind hlay hi hdes (v := .int (Int32.ofInt x)) rfl rfl
      have hi2 : s.fieldFound? (nl_R c9) (nl_T c9 b).2.1 (nl_T c9 b).2.2.1 = some (cf, kf, fi, f) := by rw [← nl_Tn (k := b) ha]; exact hi
      refine W.putK hx hbb (f := f) ⟨hown, hts _ (nl_FL_all _ hk1), ⟨_, _, _, hi2⟩, hst⟩ (by rw [q2]; exact h6) q1 q3 (by rw [hsl]; exact k2_hasslot (q4 b hb)) rfl rfl hd fun H' e1 e2 e3 => ?_
      rw [hsl] at e1 ⊢
      exact hgo _ _ _ _ E H' _ ls (nl_Wd_put hA hW ha ho hb hf hap q1 q2 q3 q4 e1 e3) (hS.put e2 e3 (hA.2.2.2.1 _ _ ha ho)) hL (nl_okt (nl_okt hV))
  · cases E
end NLHEAP
