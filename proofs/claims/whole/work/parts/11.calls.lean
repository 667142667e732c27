
def nl_rv (k : Nat) (r : Int) : Option Value := match k with
  | 0 => none
  | 2 => some (.long (Int64.ofInt r))
  | _ => some (.int (Int32.ofInt r))
theorem nl_rv0 {k c : Nat} (r : Int) (h : nl_rc k = c) : (c = 0 → nl_rv k r = none) ∧ (c = 1 → nl_rv k r = some (.int (Int32.ofInt r))) ∧ (c = 2 → nl_rv k r = some (.long (Int64.ofInt r))) := by
  unfold nl_rc at h
  split at h
  · subst h
    exact ⟨fun e => absurd e (by decide), fun _ => rfl, fun e => absurd e (by decide)⟩
  · subst h
    refine ⟨fun e => ?_, fun e => ?_, fun e => ?_⟩ <;> (rw [e]; rfl)
def nl_rm (n : Nat) : Room := { frames := n, cells := 0, slots := 0, locals := 100 * n }
def nl_Pc (G : nl_G) (args : List nl_V) (h : nl_H) : Array Value → State → Prop := va_Pc (args.map (nl_cv G)) (fun U => nl_Wd G h U U.heap ∧ nl_K G U)
def nl_Qc (G : nl_G) (k : Nat) (r : Int × nl_H) : Array Value → State → Outcome → State → Prop := fun _ st oc t => oc = .returned (nl_rv k r.1) ∧ nl_Wd G r.2 t t.heap ∧ va_F (gF G) st t
def nl_ws (I : nl_I) : List Jvm.Cond := Cond.code I.1 I.2.1 I.2.2.1 I.2.2.2.1 :: nl_WL
/-- a method's contract at depth n -/
def nl_Mt (l : Launch) (G : nl_G) (n y : Nat) (args : List nl_V) (h : nl_H) (r : Int × nl_H) : Prop := ∃ I : nl_I, nl_inf[y]? = some I ∧ Met l I.1 (nl_ws I) (nl_rm n) (nl_Pc G args h) (nl_Qc G (nl_r3 I.2.2.2.1) r) 0 0 (gF G)
theorem nl_Wd.moved {G : nl_G} {h : nl_H} {u U : State} {H : Heap} (hvm : u.vm.Alike U.vm) (hW : nl_Wd G h u H) : nl_Wd G h U H := ⟨hW.1, hW.2.1, fun h9 => (hW.2.2 h9).moved hvm⟩
theorem nl_K.warm {G : nl_G} {s U : State} (hW : s.WarmedH U.vm) (h : nl_K G s) : nl_K G U := ⟨va_K.moved hW.alike h.1, h.2.warmM hW⟩
theorem nl_blind (G : nl_G) (args : List nl_V) (h : nl_H) : FrameBlind (nl_Pc G args h) := by
  intro a U g mk hp
  obtain ⟨h1, h2, h3⟩ := hp
  exact ⟨h1, nl_Wd.moved (u := U) (U := U.calling g mk a) (Vm.Alike.refl U.vm) h2, va_K.moved (u := U) (U := U.calling g mk a) (Vm.Alike.refl U.vm) h3.1, va_Nw.same (u := U) (U := U.calling g mk a) rfl rfl h3.2⟩
theorem nl_pni : ∀ I ∈ nl_inf, I.2.2.2.2.1 < 9 ∧ I.2.2.2.2.1 ≠ 7 := by
  have h : nl_inf.all (fun I => decide (I.2.2.2.2.1 < 9) && decide (I.2.2.2.2.1 ≠ 7)) = true := by decide +kernel
  intro I hI
  have := List.all_eq_true.mp h I hI
  simpa using this
theorem nl_pn {I : nl_I} (hI : I ∈ nl_inf) : plainName I.1.cls = true ∧ I.1.cls ≠ "java/lang/invoke/MethodHandle" ∧ I.1.cls ≠ "java/lang/invoke/VarHandle" := by
  have h1 := nl_pni I hI
  rw [(nl_inf_ok I hI).2.2.1]
  generalize I.2.2.2.2.1 = c at h1
  match c, h1 with
  | 0, _ => exact nl_pn0
  | 1, _ => exact nl_pn1
  | 2, _ => exact nl_pn2
  | 3, _ => exact nl_pn3
  | 4, _ => exact nl_pn4
  | 5, _ => exact nl_pn5
  | 6, _ => exact nl_pn6
  | 7, h => exact absurd rfl h.2
  | 8, _ => exact nl_pn8
  | n + 9, h => exact absurd h.1 (by omega)
theorem nl_goodW {w : Jvm.Cond} (h : w ∈ nl_WL) : w ∈ nl_WL ∧ ((w.onTables && w.keeps) = true ∨ ∃ ty, w = .arrayClass ty) := ⟨h, good_of_word (nl_WL_good h)⟩
theorem nl_goodIn {I : nl_I} (hI : nl_okI I) : GoodIn nl_WL (nl_ws I) := fun w hw => by
  rcases List.mem_cons.mp hw with h | h
  · rw [h]; exact nl_goodW hI.1
  · exact nl_goodW h
/-- what every method of the tables holds, by its number alone -/
theorem nl_ofI {y : Nat} {I : nl_I} (h : nl_inf[y]? = some I) : I ∈ nl_inf ∧ nl_okI I ∧ nl_nm y = I.1 ∧ (parseMethodDescriptor I.1.desc).map (fun d => d.parameters.length) = some I.2.2.2.2.2.1 ∧ I.2.2.1 ≤ 60 := by
  have hm := List.mem_of_getElem? h
  have hy : y < nl_inf.length := (List.getElem?_eq_some_iff.mp h).1
  have hy2 : y < nl_mts.length := by rw [nl_len]; exact hy
  obtain ⟨I', h1, h2, h3, h4⟩ := nl_of (List.getElem?_eq_getElem hy2)
  rw [h] at h1
  cases h1
  refine ⟨hm, h3, h4, h2.2.2.2.2.2, ?_⟩
  rw [← h2.2.1]
  exact h2.2.2.2.2.1
section NLCALL
variable {p : Program} {l : Launch} {e : Env} {R : Room} {s : State} {m : MethodId} {args : Array Value} {below : List Frame} {meth : Method} {c : Code} {cells slots : Nat} {Q : State → Prop} {cc : ByteArray} {nL ci n ret : Nat} {G : nl_G} {den : nl_D} {go : Nat → nl_Ls → List nl_V → nl_H → Option nl_Re} {res : nl_Re} {pc : Nat} {L : nl_Ls} {S : List nl_V} {h : nl_H} {len a b c' : Nat}

variable {H : Heap} {locs : List Loc} {ls : Array Slot} {st0 rest : List Value} {r : Int × nl_H} {k : Nat} {a9 : Array Value}
theorem nl_call (hr : va_Run p l e R s m args below meth c H locs cells slots 0 0 (F0 m pc ls st0) rest (nl_Qc G k r a9) (gF G)) (hS : va_S (gF G) s.heap H locs)
    (kk : ∀ (H1 : Heap) (locs1 : List Loc), nl_Wd G r.2 s H1 → va_S (gF G) s.heap H1 locs1 → W p l e R s m args below meth c H1 locs1 cells slots Q (F0 m (pc + 3) ls ((nl_rv k r.1).toList ++ rest))) : W p l e R s m args below meth c H locs cells slots Q (F0 m pc ls st0) := by
  intro T hT X
  obtain ⟨v, st₀, t, T', L, h0, X', hL, e1, e2, ⟨hv, hw, hz, hk⟩, st⟩ := hr T hT X
  cases hv
  rw [h0] at hz hk
  have hal : s.vm.Alike t.vm := by rw [← e2]; exact X'.warmed.alike
  have hw2 : nl_Wd G r.2 s T'.heap := by rw [e1]; exact hw.moved hal.symm
  obtain ⟨t2, a1, b1⟩ := kk T'.heap (locs ++ L) hw2
    ⟨Nat.le_trans hS.1 (by rw [e1]; exact hz), fun q h1 h2 => by rw [e1, hk q (Nat.lt_of_lt_of_le h1 hS.1) h2]; exact hS.2.1 q h1 h2, fun q hq => by
      rcases List.mem_append.mp hq with h | h
      · exact hS.2.2 q h
      · exact hL q h⟩ T' rfl X'
  exact ⟨t2, st t2 a1, b1⟩
theorem nl_take {S : List nl_V} {b : Nat} {v : nl_V} {S' : List nl_V} (h : S.drop b = v :: S') : S = ((S.take b).reverse).reverse ++ v :: S' := by
  rw [List.reverse_reverse, ← h, List.take_append_drop]
theorem nl_len_take {S : List nl_V} {b : Nat} {v : nl_V} {S' : List nl_V} (h : S.drop b = v :: S') : (S.take b).reverse.length = b := by
  have : b < S.length := by
    rcases Nat.lt_or_ge b S.length with q | q
    · exact q
    · rw [List.drop_eq_nil_of_le q] at h; cases h
  rw [List.length_reverse, List.length_take]
  omega

theorem ns_invokevirtual (X : nl_Cx p l e R s m args c cells slots cc nL ci n G) {k : Nat} (hden : ∀ (y : Nat) (as : List nl_V) (g : nl_H) (r : Int × nl_H), (∀ v ∈ as, nl_okv G v) → den y as g = some r → nl_Mt l G n y as g r) (hd : decode cc pc = .ok (.invokevirtual k, len)) (hk : nl_ok ci nL (pc, .invokevirtual k, len, a, b, c') = true) (hgo : ∀ pc' L' S' h', go pc' L' S' h' = some res → nl_Go p l e R s m args below meth c cells slots Q G nL pc' L' S' h')
    (E : nl_st (gL G) den ret pc L S h (.invokevirtual k) len a b c' go = some res) : nl_Go p l e R s m args below meth c cells slots Q G nL pc L S h := by
  simp only [nl_ok, Bool.and_eq_true, beq_iff_eq, List.contains_iff_mem] at hk
  obtain ⟨⟨hk1, hl⟩, hk2⟩ := hk
  subst hl
  simp only [nl_st] at E
  split at E
  · rename_i c9 o S' hdr
    cases hc : (Nat.beq c9 (c' / 4) && Nat.ble (nl_cats S') 8) with
    | false => simp only [hc, cond_false] at E; cases E
    | true =>
      simp only [hc, cond_true] at E
      simp only [Bool.and_eq_true] at hc
      have hc0 := Nat.eq_of_beq_eq_true hc.1
      have hc := Nat.le_of_ble_eq_true hc.2
      cases hr : den a (vO c9 o :: (S.take b).reverse) h with
      | none => rw [hr] at E; cases E
      | some r =>
        rw [hr] at E
        simp only [Option.bind_some] at E
        intro H locs ls hW hS hL hV
        have hX := X
        obtain ⟨hx, hbb, hml, hown, hts, hK, hA, hcs, hfr, hlo⟩ := hX
        have hmem : ∀ v ∈ vO c9 o :: S', v ∈ S := fun v hv => List.mem_of_mem_drop (by rw [hdr]; exact hv)
        have hov := hV _ (hmem _ List.mem_cons_self)
        have hArgs : ∀ v ∈ vO c9 o :: (S.take b).reverse, nl_okv G v := nl_ok1 hov fun v hv => hV v (List.mem_of_mem_take (List.mem_reverse.mp hv))
        obtain ⟨I, hI, hMet⟩ := hden _ _ _ _ hArgs hr
        rw [hI] at hk2
        simp only [Bool.and_eq_true, Nat.beq_eq, Bool.not_eq_true'] at hk2
        obtain ⟨⟨⟨hnp, hst⟩, hrk⟩, hci⟩ := hk2
        have hcc : c9 = I.2.2.2.2.1 := hc0.trans hci.symm
        obtain ⟨hIm, hIo, hnm, hds, h60⟩ := nl_ofI hI
        have hlink := nl_ML_all _ hk1
        unfold nl_okML at hlink
        rw [hnm] at hlink
        have hgd : GoodIn nl_WL (wsV (nl_R ci) k I.1.cls I.1 (nl_ws I)) := by
          intro w hw
          unfold wsV at hw
          rcases List.mem_append.mp hw with hw | hw
          · simp only [List.mem_cons, List.not_mem_nil, or_false] at hw
            rcases hw with rfl | rfl | rfl | rfl
            · exact nl_goodW hlink
            · exact nl_goodW (hIo.2.2.2.2 hst).1
            · rw [hIo.2.2.1]; exact nl_goodW (hIo.2.2.2.2 hst).2
            · rw [hIo.2.2.1]; exact nl_goodW hIo.2.1
          · exact nl_goodIn hIo w hw
        have hpn := nl_pn hIm
        have cw : CallW R s args (nl_R ci) I.1.cls k I.1 I.2.1 I.2.2.1 I.2.2.2.1 (nl_ws I) (nl_rm n) 0 0 b := cwV b hts hgd rfl rfl rfl ⟨rfl, hpn.2.1, hpn.2.2, by rw [hds, hnp]⟩ ⟨hfr, by show 8 + (I.2.2.1 + 11) + 100 * n ≤ _; omega⟩
        have hcn : c9 = I.2.2.2.2.1 := hcc
        obtain ⟨cellB, g1, g2, g3, -⟩ := hW.1 c9 o hov.1 hov.2
        have hcls := (hK.1.1 c9 _ (nl_cs_at hov.1)).2
        have hp : PreV s H I.1.cls (gO G c9 o) (nl_Pc G (vO c9 o :: (S.take b).reverse) h) ((S.take b).reverse.map (nl_cv G)) := by
          refine ⟨nl_blind _ _ _, ⟨cellB, g1, by rw [g3]; rfl, ?_⟩, fun U hU hWU => ⟨rfl, ?_, hK.warm hWU⟩⟩
          · rw [hIo.2.2.1, ← hcn, g2]
            exact hcls.1
          · rw [hU]; exact hW.moved hWU.alike
        have hSe : S.map (nl_cv G) = ((S.take b).reverse.map (nl_cv G)).reverse ++ Value.ref (gO G c9 o) :: S'.map (nl_cv G) := by
          have e := congrArg (List.map (nl_cv G)) (nl_take hdr)
          rw [List.map_append, List.map_reverse] at e
          exact e
        refine nl_call (va_runV (y := I.1) (rest := S'.map (nl_cv G)) ⟨hx, hbb, hml, hown, hts⟩ hMet cw hp rfl (by rw [List.length_map]; exact nl_len_take hdr) hL.1.1 hSe (by show 2 * 0 + _ ≤ 8; rw [nl_cats_eq]; omega) hd ⟨hcs.1, hcs.2⟩) hS (fun H1 locs1 hW1 hS1 => ?_)
        have hV' : ∀ v ∈ S', nl_okv G v := fun v hv => hV v (hmem v (List.mem_cons_of_mem _ hv))
        split at E
        · rename_i hz
          rw [(nl_rv0 r.1 hrk).1 hz]
          exact hgo _ _ _ _ E H1 locs1 ls hW1 hS1 hL hV'
        · rename_i hz
          rw [(nl_rv0 r.1 hrk).2.1 hz]
          exact hgo _ _ _ _ E H1 locs1 ls hW1 hS1 hL (nl_ok1 trivial hV')
        · cases E
  · cases E
end NLCALL
