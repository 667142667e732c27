section NLCALS
variable {p : Program} {l : Launch} {e : Env} {R : Room} {s : State} {m : MethodId} {args : Array Value} {below : List Frame} {meth : Method} {c : Code} {cells slots : Nat} {Q : State → Prop} {cc : ByteArray} {nL ci n ret : Nat} {G : nl_G} {den : nl_D} {go : Nat → nl_Ls → List nl_V → nl_H → Option nl_Re} {res : nl_Re} {pc : Nat} {L : nl_Ls} {S : List nl_V} {h : nl_H} {len a b c' : Nat}
variable {H : Heap} {locs : List Loc} {ls : Array Slot} {st0 rest : List Value} {r : Int × nl_H} {k : Nat} {a9 : Array Value}


/-- a static call, over an ordinary link or a nest mate's -/
theorem nl_scall {I : nl_I} (X : nl_Cx p l e R s m args c cells slots cc nL ci n G) (hd : decode cc pc = .ok (.invokestatic k, 3))
    (hk1 : (nl_ML.contains (ci, k, a) || (Nat.beq ci 1 && Nat.beq k 52 && Nat.beq a 71)) = true) (hI : nl_inf[a]? = some I)
    (hMet : Met l I.1 (nl_ws I) (nl_rm n) (nl_Pc G (S.take b).reverse h) (nl_Qc G (nl_r3 I.2.2.2.1) r) 0 0 (gF G)) (hbl : b ≤ S.length) (hnp : I.2.2.2.2.2.1 = b) (hst : I.2.2.2.2.2.2 = true) (hc : nl_cats (S.drop b) ≤ 8)
    (hW : nl_Wd G h s H) (hS : va_S (gF G) s.heap H locs) (hL : nl_lh G ls nL L) (hV : ∀ v ∈ S, nl_okv G v)
    (kk : ∀ (H1 : Heap) (locs1 : List Loc), nl_Wd G r.2 s H1 → va_S (gF G) s.heap H1 locs1 → W p l e R s m args below meth c H1 locs1 cells slots Q (F0 m (pc + 3) ls ((nl_rv (nl_r3 I.2.2.2.1) r.1).toList ++ (S.drop b).map (nl_cv G)))) :
    W p l e R s m args below meth c H locs cells slots Q (F0 m pc ls (S.map (nl_cv G))) := by
  obtain ⟨hx, hbb, hml, hown, hts, hK, hA, hcs, hfr, hlo⟩ := X
  obtain ⟨hIm, hIo, hnm, hds, h60⟩ := nl_ofI hI
  have hpn := nl_pn hIm
  have hp : PreS s H (nl_Pc G (S.take b).reverse h) ((S.take b).reverse.map (nl_cv G)) := ⟨nl_blind _ _ _, fun U hU hWU => ⟨rfl, by rw [hU]; exact hW.moved hWU.alike, hK.warm hWU⟩⟩
  have hSe : S.map (nl_cv G) = ((S.take b).reverse.map (nl_cv G)).reverse ++ (S.drop b).map (nl_cv G) := by
    rw [List.map_reverse, List.reverse_reverse, ← List.map_append, List.take_append_drop]
  have hlen : ((S.take b).reverse.map (nl_cv G)).length = b := by
    rw [List.length_map, List.length_reverse, List.length_take]
    omega
  rcases Bool.or_eq_true_iff.mp hk1 with hk1 | hk1
  · have hlink := nl_ML_all _ (List.contains_iff_mem.mp hk1)
    unfold nl_okML at hlink
    rw [hnm] at hlink
    have hgd : GoodIn nl_WL (va_wsS (nl_R ci) k I.1 (nl_ws I)) := by
      intro w hw
      unfold va_wsS at hw
      rcases List.mem_append.mp hw with hw | hw
      · simp only [List.mem_cons, List.not_mem_nil, or_false] at hw
        rcases hw with rfl | rfl | rfl
        · exact nl_goodW hlink
        · exact nl_goodW (hIo.2.2.2.1 hst)
        · rw [hIo.2.2.1]; exact nl_goodW hIo.2.1
      · exact nl_goodIn hIo w hw
    have cw := va_cwS (R := R) (rm := nl_rm n) b hts hgd rfl rfl rfl ⟨hpn.2.1, hpn.2.2, by rw [hds, hnp]⟩ ⟨hfr, by show 8 + (I.2.2.1 + 11) + 100 * n ≤ _; omega⟩
    exact nl_call (va_runS (y := I.1) (rest := (S.drop b).map (nl_cv G)) ⟨hx, hbb, hml, hown, hts⟩ hMet cw hp rfl hlen hL.1.1 hSe (by show 2 * 0 + _ ≤ 8; rw [nl_cats_eq]; omega) hd ⟨hcs.1, hcs.2⟩) hS kk
  · simp only [Bool.and_eq_true, Nat.beq_eq] at hk1
    obtain ⟨⟨rfl, rfl⟩, rfl⟩ := hk1
    have hI2 : I = (yX5_isWithin, cX5_isWithin, 3, some .boolean, 5, 3, true) := Option.some.inj (hI.symm.trans rfl)
    subst hI2
    have cw := va_cnB (R := R) (rm := nl_rm n) (own := nl_R 1) (index := 52) (y := yX5_isWithin) (host := RX5) (mc := 0) (ms := 0) b hts (nl_goodIn hIo) rfl rfl rfl hK.2 (hts _ hIo.2.1) ⟨hpn.2.1, hpn.2.2, by rw [hds, hnp]⟩ ⟨hfr, by show 8 + (3 + 11) + 100 * n ≤ _; omega⟩
    exact nl_call (va_runSN (y := yX5_isWithin) (rest := (S.drop b).map (nl_cv G)) ⟨hx, hbb, hml, hown, hts⟩ hMet ⟨cw, hts _ (hIo.2.2.2.1 hst), trivial⟩ hp rfl hlen hL.1.1 hSe (by show 2 * 0 + _ ≤ 8; rw [nl_cats_eq]; omega) hd ⟨hcs.1, hcs.2⟩) hS kk

theorem ns_math3 (X : nl_Cx p l e R s m args c cells slots cc nL ci n G) {k : Nat} (hd : decode cc pc = .ok (.invokestatic k, len)) (hk : nl_ok ci nL (pc, .invokestatic k, len, a, b, 3) = true) (hgo : ∀ pc' L' S' h', go pc' L' S' h' = some res → nl_Go p l e R s m args below meth c cells slots Q G nL pc' L' S' h')
    (E : nl_st (gL G) den ret pc L S h (.invokestatic k) len a b 3 go = some res) : nl_Go p l e R s m args below meth c cells slots Q G nL pc L S h := by
  simp only [nl_st] at E
  simp only [nl_ok] at hk
  rw [if_pos (by decide)] at hk
  simp only [Bool.and_eq_true, beq_iff_eq, List.contains_iff_mem, decide_eq_true_eq] at hk
  obtain ⟨⟨-, hk1⟩, hl⟩ := hk
  subst hl
  split at E
  · rename_i y x S'
    cases hc : Nat.ble (nl_cats S') 8 with
    | false => simp only [hc, cond_false] at E; cases E
    | true =>
      simp only [hc, cond_true] at E
      have hc := Nat.le_of_ble_eq_true hc
      intro H locs ls hW hS hL hV
      obtain ⟨hx, hbb, hml, hown, hts, hK, hA, hcs, hfr, hlo⟩ := X
      refine va_mmax hx hbb (hml.trans hL.1.1.symm) hown (hts _ (nl_MM_all _ hk1)) (hts _ nl_ma3.1) (hts _ nl_mi) (hts _ nl_ma3.2) (by omega) (by rw [nl_cats_eq]; omega) hcs.1 hcs.2 hd ?_
      have e : (if Int32.ofInt x < Int32.ofInt y then Int32.ofInt y else Int32.ofInt x) = Int32.ofInt (if nl_nz x < nl_nz y then y else x) := by
        by_cases hq : Int32.ofInt x < Int32.ofInt y
        · rw [if_pos hq, if_pos ((nx_lt _ _).mp hq)]
        · rw [if_neg hq, if_neg (fun z => hq ((nx_lt _ _).mpr z))]
      rw [e]
      exact hgo _ _ _ _ E H locs ls hW hS hL (nl_ok1 trivial (nl_okt (nl_okt hV)))
  · cases E
theorem ns_math4 (X : nl_Cx p l e R s m args c cells slots cc nL ci n G) {k : Nat} (hd : decode cc pc = .ok (.invokestatic k, len)) (hk : nl_ok ci nL (pc, .invokestatic k, len, a, b, 4) = true) (hgo : ∀ pc' L' S' h', go pc' L' S' h' = some res → nl_Go p l e R s m args below meth c cells slots Q G nL pc' L' S' h')
    (E : nl_st (gL G) den ret pc L S h (.invokestatic k) len a b 4 go = some res) : nl_Go p l e R s m args below meth c cells slots Q G nL pc L S h := by
  simp only [nl_st] at E
  simp only [nl_ok] at hk
  rw [if_pos (by decide)] at hk
  simp only [Bool.and_eq_true, beq_iff_eq, List.contains_iff_mem, decide_eq_true_eq] at hk
  obtain ⟨⟨-, hk1⟩, hl⟩ := hk
  subst hl
  split at E
  · rename_i y x S'
    cases hc : Nat.ble (nl_cats S') 8 with
    | false => simp only [hc, cond_false] at E; cases E
    | true =>
      simp only [hc, cond_true] at E
      have hc := Nat.le_of_ble_eq_true hc
      intro H locs ls hW hS hL hV
      obtain ⟨hx, hbb, hml, hown, hts, hK, hA, hcs, hfr, hlo⟩ := X
      refine va_mmin hx hbb (hml.trans hL.1.1.symm) hown (hts _ (nl_MM_all _ hk1)) (hts _ nl_ma4.1) (hts _ nl_mi) (hts _ nl_ma4.2) (by omega) (by rw [nl_cats_eq]; omega) hcs.1 hcs.2 hd ?_
      have e : (if Int32.ofInt y < Int32.ofInt x then Int32.ofInt y else Int32.ofInt x) = Int32.ofInt (if nl_nz y < nl_nz x then y else x) := by
        by_cases hq : Int32.ofInt y < Int32.ofInt x
        · rw [if_pos hq, if_pos ((nx_lt _ _).mp hq)]
        · rw [if_neg hq, if_neg (fun z => hq ((nx_lt _ _).mpr z))]
      rw [e]
      exact hgo _ _ _ _ E H locs ls hW hS hL (nl_ok1 trivial (nl_okt (nl_okt hV)))
  · cases E
theorem ns_math5 (X : nl_Cx p l e R s m args c cells slots cc nL ci n G) {k : Nat} (hd : decode cc pc = .ok (.invokestatic k, len)) (hk : nl_ok ci nL (pc, .invokestatic k, len, a, b, 5) = true) (hgo : ∀ pc' L' S' h', go pc' L' S' h' = some res → nl_Go p l e R s m args below meth c cells slots Q G nL pc' L' S' h')
    (E : nl_st (gL G) den ret pc L S h (.invokestatic k) len a b 5 go = some res) : nl_Go p l e R s m args below meth c cells slots Q G nL pc L S h := by
  simp only [nl_st] at E
  simp only [nl_ok] at hk
  rw [if_pos (by decide)] at hk
  simp only [Bool.and_eq_true, beq_iff_eq, List.contains_iff_mem, decide_eq_true_eq] at hk
  obtain ⟨⟨-, hk1⟩, hl⟩ := hk
  subst hl
  split at E
  · rename_i x S'
    cases hc : Nat.ble (nl_cats S') 8 with
    | false => simp only [hc, cond_false] at E; cases E
    | true =>
      simp only [hc, cond_true] at E
      have hc := Nat.le_of_ble_eq_true hc
      intro H locs ls hW hS hL hV
      obtain ⟨hx, hbb, hml, hown, hts, hK, hA, hcs, hfr, hlo⟩ := X
      refine va_mabs hx hbb (hml.trans hL.1.1.symm) hown (hts _ (nl_MM_all _ hk1)) (hts _ nl_ma5.1) (hts _ nl_mi) (hts _ nl_ma5.2) (by omega) (by rw [nl_cats_eq]; omega) hcs.1 hcs.2 hd ?_
      have e : (if 0 ≤ Int32.ofInt x then Int32.ofInt x else 0 - Int32.ofInt x) = Int32.ofInt (if 0 ≤ nl_nz x then x else -x) := by
        by_cases hq : 0 ≤ Int32.ofInt x
        · rw [if_pos hq, if_pos ((nx_0le _).mp hq)]
        · rw [if_neg hq, if_neg (fun z => hq ((nx_0le _).mpr z)), Int32.ofInt_neg, Int32.zero_sub]
      rw [e]
      exact hgo _ _ _ _ E H locs ls hW hS hL (nl_ok1 trivial (nl_okt hV))
  · cases E
theorem ns_stat0 (X : nl_Cx p l e R s m args c cells slots cc nL ci n G) {k : Nat} (hden : ∀ (y : Nat) (as : List nl_V) (g : nl_H) (r : Int × nl_H), (∀ v ∈ as, nl_okv G v) → den y as g = some r → nl_Mt l G n y as g r) (hd : decode cc pc = .ok (.invokestatic k, len)) (hk : nl_ok ci nL (pc, .invokestatic k, len, a, b, 0) = true) (hgo : ∀ pc' L' S' h', go pc' L' S' h' = some res → nl_Go p l e R s m args below meth c cells slots Q G nL pc' L' S' h')
    (E : nl_st (gL G) den ret pc L S h (.invokestatic k) len a b 0 go = some res) : nl_Go p l e R s m args below meth c cells slots Q G nL pc L S h := by
  simp only [nl_ok] at hk
  rw [if_neg (by decide)] at hk
  simp only [Bool.and_eq_true, beq_iff_eq] at hk
  obtain ⟨⟨hk1, hl⟩, hk2⟩ := hk
  subst hl
  simp only [nl_st] at E
  cases hc : (Nat.ble b S.length && Nat.ble (nl_cats (S.drop b)) 8) with
  | false => simp only [hc, cond_false] at E; cases E
  | true =>
    simp only [hc, cond_true] at E
    simp only [Bool.and_eq_true] at hc
    have hbl := Nat.le_of_ble_eq_true hc.1
    have hc := Nat.le_of_ble_eq_true hc.2
    cases hr : den a (S.take b).reverse h with
    | none => rw [hr] at E; cases E
    | some r =>
      rw [hr] at E
      simp only [Option.bind_some] at E
      intro H locs ls hW hS hL hV
      have hArgs : ∀ v ∈ (S.take b).reverse, nl_okv G v := fun v hv => hV v (List.mem_of_mem_take (List.mem_reverse.mp hv))
      obtain ⟨I, hI, hMet⟩ := hden _ _ _ _ hArgs hr
      rw [hI] at hk2
      simp only [Bool.and_eq_true, Nat.beq_eq] at hk2
      obtain ⟨⟨hnp, hst⟩, hrk⟩ := hk2
      refine nl_scall X hd hk1 hI hMet hbl hnp hst hc hW hS hL hV (fun H1 locs1 hW1 hS1 => ?_)
      rw [(nl_rv0 r.1 hrk).1 rfl]
      exact hgo _ _ _ _ E H1 locs1 ls hW1 hS1 hL (fun v hv => hV v (List.mem_of_mem_drop hv))
theorem ns_stat1 (X : nl_Cx p l e R s m args c cells slots cc nL ci n G) {k : Nat} (hden : ∀ (y : Nat) (as : List nl_V) (g : nl_H) (r : Int × nl_H), (∀ v ∈ as, nl_okv G v) → den y as g = some r → nl_Mt l G n y as g r) (hd : decode cc pc = .ok (.invokestatic k, len)) (hk : nl_ok ci nL (pc, .invokestatic k, len, a, b, 1) = true) (hgo : ∀ pc' L' S' h', go pc' L' S' h' = some res → nl_Go p l e R s m args below meth c cells slots Q G nL pc' L' S' h')
    (E : nl_st (gL G) den ret pc L S h (.invokestatic k) len a b 1 go = some res) : nl_Go p l e R s m args below meth c cells slots Q G nL pc L S h := by
  simp only [nl_ok] at hk
  rw [if_neg (by decide)] at hk
  simp only [Bool.and_eq_true, beq_iff_eq] at hk
  obtain ⟨⟨hk1, hl⟩, hk2⟩ := hk
  subst hl
  simp only [nl_st] at E
  cases hc : (Nat.ble b S.length && Nat.ble (nl_cats (S.drop b)) 8) with
  | false => simp only [hc, cond_false] at E; cases E
  | true =>
    simp only [hc, cond_true] at E
    simp only [Bool.and_eq_true] at hc
    have hbl := Nat.le_of_ble_eq_true hc.1
    have hc := Nat.le_of_ble_eq_true hc.2
    cases hr : den a (S.take b).reverse h with
    | none => rw [hr] at E; cases E
    | some r =>
      rw [hr] at E
      simp only [Option.bind_some] at E
      intro H locs ls hW hS hL hV
      have hArgs : ∀ v ∈ (S.take b).reverse, nl_okv G v := fun v hv => hV v (List.mem_of_mem_take (List.mem_reverse.mp hv))
      obtain ⟨I, hI, hMet⟩ := hden _ _ _ _ hArgs hr
      rw [hI] at hk2
      simp only [Bool.and_eq_true, Nat.beq_eq] at hk2
      obtain ⟨⟨hnp, hst⟩, hrk⟩ := hk2
      refine nl_scall X hd hk1 hI hMet hbl hnp hst hc hW hS hL hV (fun H1 locs1 hW1 hS1 => ?_)
      rw [(nl_rv0 r.1 hrk).2.1 rfl]
      exact hgo _ _ _ _ E H1 locs1 ls hW1 hS1 hL (nl_ok1 trivial fun v hv => hV v (List.mem_of_mem_drop hv))
theorem ns_stat2 (X : nl_Cx p l e R s m args c cells slots cc nL ci n G) {k : Nat} (hden : ∀ (y : Nat) (as : List nl_V) (g : nl_H) (r : Int × nl_H), (∀ v ∈ as, nl_okv G v) → den y as g = some r → nl_Mt l G n y as g r) (hd : decode cc pc = .ok (.invokestatic k, len)) (hk : nl_ok ci nL (pc, .invokestatic k, len, a, b, 2) = true) (hgo : ∀ pc' L' S' h', go pc' L' S' h' = some res → nl_Go p l e R s m args below meth c cells slots Q G nL pc' L' S' h')
    (E : nl_st (gL G) den ret pc L S h (.invokestatic k) len a b 2 go = some res) : nl_Go p l e R s m args below meth c cells slots Q G nL pc L S h := by
  simp only [nl_ok] at hk
  rw [if_neg (by decide)] at hk
  simp only [Bool.and_eq_true, beq_iff_eq] at hk
  obtain ⟨⟨hk1, hl⟩, hk2⟩ := hk
  subst hl
  simp only [nl_st] at E
  cases hc : (Nat.ble b S.length && Nat.ble (nl_cats (S.drop b)) 8) with
  | false => simp only [hc, cond_false] at E; cases E
  | true =>
    simp only [hc, cond_true] at E
    simp only [Bool.and_eq_true] at hc
    have hbl := Nat.le_of_ble_eq_true hc.1
    have hc := Nat.le_of_ble_eq_true hc.2
    cases hr : den a (S.take b).reverse h with
    | none => rw [hr] at E; cases E
    | some r =>
      rw [hr] at E
      simp only [Option.bind_some] at E
      intro H locs ls hW hS hL hV
      have hArgs : ∀ v ∈ (S.take b).reverse, nl_okv G v := fun v hv => hV v (List.mem_of_mem_take (List.mem_reverse.mp hv))
      obtain ⟨I, hI, hMet⟩ := hden _ _ _ _ hArgs hr
      rw [hI] at hk2
      simp only [Bool.and_eq_true, Nat.beq_eq] at hk2
      obtain ⟨⟨hnp, hst⟩, hrk⟩ := hk2
      refine nl_scall X hd hk1 hI hMet hbl hnp hst hc hW hS hL hV (fun H1 locs1 hW1 hS1 => ?_)
      rw [(nl_rv0 r.1 hrk).2.2 rfl]
      exact hgo _ _ _ _ E H1 locs1 ls hW1 hS1 hL (nl_ok1 trivial fun v hv => hV v (List.mem_of_mem_drop hv))
theorem ns_invokestatic (X : nl_Cx p l e R s m args c cells slots cc nL ci n G) {k : Nat} (hden : ∀ (y : Nat) (as : List nl_V) (g : nl_H) (r : Int × nl_H), (∀ v ∈ as, nl_okv G v) → den y as g = some r → nl_Mt l G n y as g r) (hd : decode cc pc = .ok (.invokestatic k, len)) (hk : nl_ok ci nL (pc, .invokestatic k, len, a, b, c') = true) (hgo : ∀ pc' L' S' h', go pc' L' S' h' = some res → nl_Go p l e R s m args below meth c cells slots Q G nL pc' L' S' h')
    (E : nl_st (gL G) den ret pc L S h (.invokestatic k) len a b c' go = some res) : nl_Go p l e R s m args below meth c cells slots Q G nL pc L S h := by
  match c', hk, E with
  | 0, hk, E => exact ns_stat0 X hden hd hk hgo E
  | 1, hk, E => exact ns_stat1 X hden hd hk hgo E
  | 2, hk, E => exact ns_stat2 X hden hd hk hgo E
  | 3, hk, E => exact ns_math3 X hd hk hgo E
  | 4, hk, E => exact ns_math4 X hd hk hgo E
  | 5, hk, E => exact ns_math5 X hd hk hgo E
  | n9 + 6, hk, E =>
    exfalso
    simp only [nl_ok] at hk
    rw [if_pos (by omega)] at hk
    simp only [Bool.and_eq_true, decide_eq_true_eq] at hk
    omega
theorem ns_ireturn (X : nl_Cx p l e R s m args c cells slots cc nL ci n G) (HR : ∀ (pc' : Nat) (L' : nl_Ls) (S' : List nl_V) (h' : nl_H) (i : Instr) (x : Int), decode cc pc' = .ok (i, 1) → ((i = .ireturn ∧ ret = 1 ∧ S' = [vI x]) ∨ (i = .ireturn ∧ ret = 3 ∧ (x = 0 ∨ x = 1) ∧ S' = [vI x]) ∨ (i = .lreturn ∧ ret = 2 ∧ S' = [vL x]) ∨ (i = .return_ ∧ ret = 0 ∧ x = 0 ∧ S' = [])) → res = .inr (x, h') → nl_Go p l e R s m args below meth c cells slots Q G nL pc' L' S' h') (hd : decode cc pc = .ok (.ireturn, len)) (hk : nl_ok ci nL (pc, .ireturn, len, a, b, c') = true) (hgo : ∀ pc' L' S' h', go pc' L' S' h' = some res → nl_Go p l e R s m args below meth c cells slots Q G nL pc' L' S' h')
    (E : nl_st (gL G) den ret pc L S h (.ireturn) len a b c' go = some res) : nl_Go p l e R s m args below meth c cells slots Q G nL pc L S h := by
  simp only [nl_ok, beq_iff_eq] at hk
  subst hk
  simp only [nl_st] at E
  split at E
  · rename_i x
    split at E
    · exact HR pc L [vI x] h .ireturn x hd (Or.inl ⟨rfl, rfl, rfl⟩) (Option.some.inj E).symm
    · split at E
      · rename_i hx
        exact HR pc L [vI x] h .ireturn x hd (Or.inr (Or.inl ⟨rfl, rfl, hx, rfl⟩)) (Option.some.inj E).symm
      · cases E
    · cases E
  · cases E
theorem ns_lreturn (X : nl_Cx p l e R s m args c cells slots cc nL ci n G) (HR : ∀ (pc' : Nat) (L' : nl_Ls) (S' : List nl_V) (h' : nl_H) (i : Instr) (x : Int), decode cc pc' = .ok (i, 1) → ((i = .ireturn ∧ ret = 1 ∧ S' = [vI x]) ∨ (i = .ireturn ∧ ret = 3 ∧ (x = 0 ∨ x = 1) ∧ S' = [vI x]) ∨ (i = .lreturn ∧ ret = 2 ∧ S' = [vL x]) ∨ (i = .return_ ∧ ret = 0 ∧ x = 0 ∧ S' = [])) → res = .inr (x, h') → nl_Go p l e R s m args below meth c cells slots Q G nL pc' L' S' h') (hd : decode cc pc = .ok (.lreturn, len)) (hk : nl_ok ci nL (pc, .lreturn, len, a, b, c') = true) (hgo : ∀ pc' L' S' h', go pc' L' S' h' = some res → nl_Go p l e R s m args below meth c cells slots Q G nL pc' L' S' h')
    (E : nl_st (gL G) den ret pc L S h (.lreturn) len a b c' go = some res) : nl_Go p l e R s m args below meth c cells slots Q G nL pc L S h := by
  simp only [nl_ok, beq_iff_eq] at hk
  subst hk
  simp only [nl_st] at E
  split at E
  · rename_i x
    split at E
    · exact HR pc L [vL x] h .lreturn x hd (Or.inr (Or.inr (Or.inl ⟨rfl, rfl, rfl⟩))) (Option.some.inj E).symm
    · cases E
  · cases E
theorem ns_return_ (X : nl_Cx p l e R s m args c cells slots cc nL ci n G) (HR : ∀ (pc' : Nat) (L' : nl_Ls) (S' : List nl_V) (h' : nl_H) (i : Instr) (x : Int), decode cc pc' = .ok (i, 1) → ((i = .ireturn ∧ ret = 1 ∧ S' = [vI x]) ∨ (i = .ireturn ∧ ret = 3 ∧ (x = 0 ∨ x = 1) ∧ S' = [vI x]) ∨ (i = .lreturn ∧ ret = 2 ∧ S' = [vL x]) ∨ (i = .return_ ∧ ret = 0 ∧ x = 0 ∧ S' = [])) → res = .inr (x, h') → nl_Go p l e R s m args below meth c cells slots Q G nL pc' L' S' h') (hd : decode cc pc = .ok (.return_, len)) (hk : nl_ok ci nL (pc, .return_, len, a, b, c') = true) (hgo : ∀ pc' L' S' h', go pc' L' S' h' = some res → nl_Go p l e R s m args below meth c cells slots Q G nL pc' L' S' h')
    (E : nl_st (gL G) den ret pc L S h (.return_) len a b c' go = some res) : nl_Go p l e R s m args below meth c cells slots Q G nL pc L S h := by
  simp only [nl_ok, beq_iff_eq] at hk
  subst hk
  simp only [nl_st] at E
  split at E
  · split at E
    · exact HR pc L [] h .return_ 0 hd (Or.inr (Or.inr (Or.inr ⟨rfl, rfl, rfl, rfl⟩))) (Option.some.inj E).symm
    · cases E
  · cases E
theorem nl_st_ok (X : nl_Cx p l e R s m args c cells slots cc nL ci n G) (hden : ∀ (y : Nat) (as : List nl_V) (g : nl_H) (r : Int × nl_H), (∀ v ∈ as, nl_okv G v) → den y as g = some r → nl_Mt l G n y as g r) (HR : ∀ (pc' : Nat) (L' : nl_Ls) (S' : List nl_V) (h' : nl_H) (i : Instr) (x : Int), decode cc pc' = .ok (i, 1) → ((i = .ireturn ∧ ret = 1 ∧ S' = [vI x]) ∨ (i = .ireturn ∧ ret = 3 ∧ (x = 0 ∨ x = 1) ∧ S' = [vI x]) ∨ (i = .lreturn ∧ ret = 2 ∧ S' = [vL x]) ∨ (i = .return_ ∧ ret = 0 ∧ x = 0 ∧ S' = [])) → res = .inr (x, h') → nl_Go p l e R s m args below meth c cells slots Q G nL pc' L' S' h') {i : Instr} (hd : decode cc pc = .ok (i, len)) (hk : nl_ok ci nL (pc, i, len, a, b, c') = true) (hgo : ∀ pc' L' S' h', go pc' L' S' h' = some res → nl_Go p l e R s m args below meth c cells slots Q G nL pc' L' S' h')
    (E : nl_st (gL G) den ret pc L S h i len a b c' go = some res) : nl_Go p l e R s m args below meth c cells slots Q G nL pc L S h := by
  cases i with
  | iconst _ => exact ns_iconst X hd hk hgo E
  | bipush _ => exact ns_bipush X hd hk hgo E
  | sipush _ => exact ns_sipush X hd hk hgo E
  | ldc _ => exact ns_ldc X hd hk hgo E
  | ldc_w _ => exact ns_ldc_w X hd hk hgo E
  | lconst _ => exact ns_lconst X hd hk hgo E
  | iload _ => exact ns_iload X hd hk hgo E
  | iload_n _ => exact ns_iload_n X hd hk hgo E
  | lload _ => exact ns_lload X hd hk hgo E
  | lload_n _ => exact ns_lload_n X hd hk hgo E
  | aload _ => exact ns_aload X hd hk hgo E
  | aload_n _ => exact ns_aload_n X hd hk hgo E
  | istore _ => exact ns_istore X hd hk hgo E
  | istore_n _ => exact ns_istore_n X hd hk hgo E
  | lstore _ => exact ns_lstore X hd hk hgo E
  | lstore_n _ => exact ns_lstore_n X hd hk hgo E
  | astore _ => exact ns_astore X hd hk hgo E
  | astore_n _ => exact ns_astore_n X hd hk hgo E
  | iinc _ _ => exact ns_iinc X hd hk hgo E
  | iadd => exact ns_iadd X hd hk hgo E
  | isub => exact ns_isub X hd hk hgo E
  | imul => exact ns_imul X hd hk hgo E
  | ladd => exact ns_ladd X hd hk hgo E
  | lmul => exact ns_lmul X hd hk hgo E
  | lcmp => exact ns_lcmp X hd hk hgo E
  | ineg => exact ns_ineg X hd hk hgo E
  | idiv => exact ns_idiv X hd hk hgo E
  | irem => exact ns_irem X hd hk hgo E
  | ldiv => exact ns_ldiv X hd hk hgo E
  | lrem => exact ns_lrem X hd hk hgo E
  | ishl => exact ns_ishl X hd hk hgo E
  | ishr => exact ns_ishr X hd hk hgo E
  | iushr => exact ns_iushr X hd hk hgo E
  | iand => exact ns_iand X hd hk hgo E
  | ior => exact ns_ior X hd hk hgo E
  | i2l => exact ns_i2l X hd hk hgo E
  | l2i => exact ns_l2i X hd hk hgo E
  | dup => exact ns_dup X hd hk hgo E
  | dup2 => exact ns_dup2 X hd hk hgo E
  | pop => exact ns_pop X hd hk hgo E
  | goto _ => exact ns_goto X hd hk hgo E
  | if_icmp _ _ => exact ns_if_icmp X hd hk hgo E
  | ifCond _ _ => exact ns_ifCond X hd hk hgo E
  | getfield _ => exact ns_getfield X hd hk hgo E
  | putfield _ => exact ns_putfield X hd hk hgo E
  | iaload => exact ns_iaload X hd hk hgo E
  | baload => exact ns_baload X hd hk hgo E
  | aaload => exact ns_aaload X hd hk hgo E
  | iastore => exact ns_iastore X hd hk hgo E
  | bastore => exact ns_bastore X hd hk hgo E
  | aastore => exact ns_aastore X hd hk hgo E
  | arraylength => exact ns_arraylength X hd hk hgo E
  | tableswitch _ _ _ _ => exact ns_tableswitch X hd hk hgo E
  | ldc2_w _ => exact ns_ldc2 X hd hk hgo E
  | invokevirtual _ => exact ns_invokevirtual X hden hd hk hgo E
  | invokestatic _ => exact ns_invokestatic X hden hd hk hgo E
  | ireturn => exact ns_ireturn X HR hd hk hgo E
  | lreturn => exact ns_lreturn X HR hd hk hgo E
  | return_ => exact ns_return_ X HR hd hk hgo E
  | _ => cases E
theorem nl_fi_mem {pc : Nat} : ∀ {C : List nl_E} {x : Instr × Nat × Nat × Nat × Nat}, nl_fi pc C = some x → (pc, x) ∈ C
  | [], _, h => by simp [nl_fi] at h
  | e :: r, x, h => by
    simp only [nl_fi] at h
    cases hb : Nat.beq e.1 pc with
    | true =>
      simp only [hb, cond_true] at h
      have h1 := Nat.eq_of_beq_eq_true hb
      have h2 : e = (pc, x) := by
        rw [← h1, ← Option.some.inj h]
      rw [h2]; exact List.mem_cons_self
    | false =>
      simp only [hb, cond_false] at h
      exact List.mem_cons_of_mem _ (nl_fi_mem h)
theorem nl_ex_ok (X : nl_Cx p l e R s m args c cells slots cc nL ci n G) (hden : ∀ (y : Nat) (as : List nl_V) (g : nl_H) (r : Int × nl_H), (∀ v ∈ as, nl_okv G v) → den y as g = some r → nl_Mt l G n y as g r) (HR : ∀ (pc' : Nat) (L' : nl_Ls) (S' : List nl_V) (h' : nl_H) (i : Instr) (x : Int), decode cc pc' = .ok (i, 1) → ((i = .ireturn ∧ ret = 1 ∧ S' = [vI x]) ∨ (i = .ireturn ∧ ret = 3 ∧ (x = 0 ∨ x = 1) ∧ S' = [vI x]) ∨ (i = .lreturn ∧ ret = 2 ∧ S' = [vL x]) ∨ (i = .return_ ∧ ret = 0 ∧ x = 0 ∧ S' = [])) → res = .inr (x, h') → nl_Go p l e R s m args below meth c cells slots Q G nL pc' L' S' h') {C : List nl_E} {cut : List Nat} (hC : ∀ e ∈ C, decode cc e.1 = .ok (e.2.1, e.2.2.1)) (hC2 : C.all (nl_ok ci nL) = true)
    (hcut : ∀ (pc' : Nat) (L' : nl_Ls) (h' : nl_H), res = .inl (pc', L', h') → nl_Go p l e R s m args below meth c cells slots Q G nL pc' L' [] h') : ∀ (f pc : Nat) (L : nl_Ls) (S : List nl_V) (h : nl_H), nl_ex (gL G) C den cut ret f pc L S h = some res → nl_Go p l e R s m args below meth c cells slots Q G nL pc L S h := by
  intro f
  induction f with
  | zero => intro pc L S h e; cases e
  | succ f ih =>
    intro pc L S h e
    rw [nl_ex] at e
    split at e
    · cases e
    · rename_i i len a b c9 hf
      have hm := nl_fi_mem hf
      have hd9 := hC (pc, i, len, a, b, c9) hm
      dsimp only at hd9
      have hk9 := List.all_eq_true.mp hC2 (pc, i, len, a, b, c9) hm
      refine nl_st_ok (go := nl_go cut (nl_ex (gL G) C den cut ret f)) (pc := pc) (L := L) (S := S) (h := h) (i := i) (len := len) (a := a) (b := b) (c' := c9) X hden HR hd9 hk9 (fun pc' L' S' h' e' => ?_) e
      unfold nl_go at e'
      cases hb : cut.any (Nat.beq pc') with
      | true =>
        simp only [hb, cond_true] at e'
        split at e'
        · exact hcut _ _ _ (Option.some.inj e').symm
        · cases e'
      | false =>
        simp only [hb, cond_false] at e'
        exact ih _ _ _ _ e'

theorem nl_rn_ok (X : nl_Cx p l e R s m args c cells slots cc nL ci n G) (hden : ∀ (y : Nat) (as : List nl_V) (g : nl_H) (r : Int × nl_H), (∀ v ∈ as, nl_okv G v) → den y as g = some r → nl_Mt l G n y as g r) {C : List nl_E} {cut : List Nat} (hC : ∀ e ∈ C, decode cc e.1 = .ok (e.2.1, e.2.2.1)) (hC2 : C.all (nl_ok ci nL) = true)
    (HR2 : ∀ (pc' : Nat) (L' : nl_Ls) (S' : List nl_V) (h' : nl_H) (i : Instr) (x : Int), decode cc pc' = .ok (i, 1) → ((i = .ireturn ∧ ret = 1 ∧ S' = [vI x]) ∨ (i = .ireturn ∧ ret = 3 ∧ (x = 0 ∨ x = 1) ∧ S' = [vI x]) ∨ (i = .lreturn ∧ ret = 2 ∧ S' = [vL x]) ∨ (i = .return_ ∧ ret = 0 ∧ x = 0 ∧ S' = [])) → r = (x, h') → nl_Go p l e R s m args below meth c cells slots Q G nL pc' L' S' h') : ∀ (f pc : Nat) (L : nl_Ls) (h : nl_H), nl_rn (gL G) C den cut ret f pc L h = some r → nl_Go p l e R s m args below meth c cells slots Q G nL pc L [] h := by
  intro f
  induction f with
  | zero => intro pc L h e; cases e
  | succ f ih =>
    intro pc L h e
    rw [nl_rn] at e
    split at e
    · rename_i r9 he
      have e := Option.some.inj e
      subst e
      exact nl_ex_ok X hden (res := .inr r9) (fun pc' L' S' h' i x a1 a2 a3 => HR2 pc' L' S' h' i x a1 a2 (Sum.inr.inj a3)) hC hC2 (fun pc' L' h' z => by cases z) _ _ _ _ _ he
    · rename_i pc9 L9 h9 he
      refine nl_ex_ok X hden (res := .inl (pc9, L9, h9)) (fun pc' L' S' h' i x a1 a2 a3 => by cases a3) hC hC2 (fun pc' L' h' z => ?_) _ _ _ _ _ he
      cases z
      exact ih _ _ _ e
    · cases e
end NLCALS

theorem nl_spread_len (G : nl_G) : ∀ as : List nl_V, (lg_sl (as.map (nl_cv G))).length = (nl_spread as).length
  | [] => rfl
  | v :: r => by
    have ih := nl_spread_len G r
    simp only [List.map_cons, lg_sl, List.flatMap_cons, List.length_append, nl_cat] at ih ⊢
    cases hv : nl_isL v with
    | true =>
      simp only [nl_spread, hv, cond_true, if_true, List.length_cons, List.length_nil]
      omega
    | false =>
      simp only [nl_spread, hv, cond_false, List.length_cons]
      rw [if_neg (by decide)]
      simp only [List.length_cons, List.length_nil]
      omega
theorem nl_tl_rep (G : nl_G) : ∀ (n j : Nat), nl_tl G j (List.replicate n none) = []
  | 0, _ => rfl
  | n + 1, j => by
    rw [List.replicate_succ]
    exact nl_tl_rep G n (j + 1)
theorem nl_tl_pad (G : nl_G) : ∀ (l : nl_Ls) (n j : Nat) (q : Nat × Value), q ∈ nl_tl G j (nl_pad n l) → q ∈ nl_tl G j l
  | [], n, j, q, h => by
    simp only [nl_pad, nl_tl_rep] at h
    cases h
  | none :: r, n, j, q, h => nl_tl_pad G r (n - 1) (j + 1) q h
  | some v :: r, n, j, q, h => by
    rcases List.mem_cons.mp h with h | h
    · rw [h]; exact List.mem_cons_self
    · exact List.mem_cons_of_mem _ (nl_tl_pad G r (n - 1) (j + 1) q h)
theorem nl_in_pad {v : nl_V} : ∀ (l : nl_Ls) (n : Nat), some v ∈ nl_pad n l → some v ∈ l
  | [], n, h => by
    have := List.eq_of_mem_replicate h
    cases this
  | w :: r, n, h => by
    rcases List.mem_cons.mp h with h | h
    · rw [h]; exact List.mem_cons_self
    · exact List.mem_cons_of_mem _ (nl_in_pad r (n - 1) h)
theorem nl_in_spread {v : nl_V} : ∀ (l : List nl_V), some v ∈ nl_spread l → v ∈ l
  | [], h => by cases h
  | w :: r, h => by
    simp only [nl_spread] at h
    cases hw : nl_isL w with
    | true =>
      simp only [hw, cond_true, List.mem_cons] at h
      rcases h with h | h | h
      · rw [Option.some.inj h]; exact List.mem_cons_self
      · cases h
      · exact List.mem_cons_of_mem _ (nl_in_spread r h)
    | false =>
      simp only [hw, cond_false, List.mem_cons] at h
      rcases h with h | h
      · rw [Option.some.inj h]; exact List.mem_cons_self
      · exact List.mem_cons_of_mem _ (nl_in_spread r h)
theorem nl_tl_args (G : nl_G) : ∀ (as : List nl_V) (j : Nat), nl_tl G j (nl_spread as) = lv_args j (as.map (nl_cv G))
  | [], _ => rfl
  | v :: r, j => by
    simp only [nl_spread, List.map_cons, lv_args, nl_cat]
    cases hv : nl_isL v with
    | true =>
      simp only [cond_true, nl_tl, if_true]
      rw [nl_tl_args G r (j + 1 + 1)]
    | false =>
      simp only [cond_false, nl_tl]
      rw [nl_tl_args G r (j + 1), if_neg (by decide)]
theorem nl_entry (G : nl_G) (as : List nl_V) {nL : Nat} (h : (nl_spread as).length ≤ nL) (hv : ∀ v ∈ as, nl_okv G v) : nl_lh G (lg_sl (as.map (nl_cv G)) ++ List.replicate (nL - (lg_sl (as.map (nl_cv G))).length) Slot.unset).toArray nL (nl_L0 nL as) := by
  refine ⟨nl_lv_mono (lv_entry (as.map (nl_cv G)) (by rw [nl_spread_len]; exact h)) fun q hq => ?_, fun v hm => hv v (nl_in_spread _ (nl_in_pad _ _ hm))⟩
  have h1 := nl_tl_pad G _ _ _ _ hq
  rw [nl_tl_args] at h1
  exact h1
theorem nl_ret {r3 : Option FieldType} {k : Nat} (h : k = nl_r3 r3) : (k = 0 → r3 = none) ∧ (k = 1 → r3 = some .int) ∧ (k = 2 → r3 = some .long) ∧ (k = 3 → r3 = some .boolean) := by
  subst h
  unfold nl_r3
  split <;> simp
set_option maxHeartbeats 1000000 in
/-- what the abstract machine says of a call, the machine does -/
theorem nl_cl_ok (l : Launch) (G : nl_G) (hA : nl_Ap G) : ∀ (n y : Nat) (as : List nl_V) (h : nl_H) (r : Int × nl_H), (∀ v ∈ as, nl_okv G v) → nl_cl nl_mts (gL G) n y as h = some r → nl_Mt l G n y as h r := by
  intro n
  induction n with
  | zero => intro y as h r _ e; cases e
  | succ n ih =>
    intro y as h r has e
    obtain ⟨C, cut, ret, nL, hm, hsl, f, hf⟩ := nl_cl_in e
    obtain ⟨I, hI, hM, hIo, hnm⟩ := nl_of hm
    obtain ⟨hIm, -, -, -, -⟩ := nl_ofI hI
    obtain ⟨m1, m2, m3, m4, m5, m6⟩ := hM
    dsimp only at m1 m2 m3 m4 m5
    have hpn := nl_pn hIm
    refine ⟨I, hI, Met.ofW (cc := I.2.1) (maxL := I.2.2.1) (ret := I.2.2.2.1) hpn.1 rfl ?_⟩
    intro p e s m args below meth c s₁ B hml hv
    obtain ⟨rfl, hW, hK⟩ := hv
    have hx := B.exec
    have hb := B.bytes
    have hr := B.returns
    have hlocks := B.notSynchronized
    have hts0 := atoms_spec (ws := nl_ws I) B.pre
    have hts : ∀ w ∈ nl_WL, w.before (as.map (nl_cv G)).toArray s = true := fun w hw => hts0 w (List.mem_cons_of_mem _ hw)
    have hown : s.vm.findClass (nl_R I.2.2.2.2.1) = some m.cls := by
      rw [← hIo.2.2.1]
      exact findClass_of_methodNamed B.named
    subst m2
    have X : nl_Cx p l e (nl_rm (n + 1)) s m (as.map (nl_cv G)).toArray c 0 0 I.2.1 I.2.2.1 I.2.2.2.2.1 n G := ⟨hx, hb, hml, hown, hts, hK, hA, ⟨Nat.le_refl _, Nat.le_refl _⟩, Nat.le_refl _, Nat.le_refl _⟩
    rw [lg_entry_eq]
    refine nl_rn_ok (below := below) (meth := meth) (Q := MQ below (nl_Qc G (nl_r3 I.2.2.2.1) r) (as.map (nl_cv G)).toArray s 0 0 (gF G)) X (fun y as' g r' a1 a2 => ih y as' g r' a1 a2) m3 m4 (fun pc' L' S' h' i x hd hcase hres => ?_) f 0 (nl_L0 I.2.2.1 as) h hf s.heap [] _ hW va_S.rf (nl_entry G as hsl has) (fun v hv => by cases hv)
    subst hres
    intro H locs ls hW' hS' hL' hV'
    have hrt := nl_ret m1
    rcases hcase with ⟨rfl, hk, rfl⟩ | ⟨rfl, hk, hx01, rfl⟩ | ⟨rfl, hk, rfl⟩ | ⟨rfl, hk, -, rfl⟩
    · refine W.iret hx hb (hr.trans (hrt.2.1 hk)) (fun t ht hWt => ⟨?_, by rw [ht]; exact hW'.moved hWt.alike, hS'.F ht⟩) hS'.2.2 hd
      rw [← m1, hk]; rfl
    · refine W.zret (ty := .boolean) hx hb (hr.trans (hrt.2.2.2 hk)) ?_ (fun t ht hWt => ⟨?_, by rw [ht]; exact hW'.moved hWt.alike, hS'.F ht⟩) hS'.2.2 hd
      · rcases hx01 with rfl | rfl <;> rfl
      · rw [← m1, hk]; rfl
    · refine W.lret hx hb (hr.trans (hrt.2.2.1 hk)) (fun t ht hWt => ⟨?_, by rw [ht]; exact hW'.moved hWt.alike, hS'.F ht⟩) hS'.2.2 hd
      rw [← m1, hk]; rfl
    · refine W.vret hx hb (hr.trans (hrt.1 hk)) (fun t ht hWt => ⟨?_, by rw [ht]; exact hW'.moved hWt.alike, hS'.F ht⟩) hS'.2.2 hd
      rw [← m1, hk]; rfl

