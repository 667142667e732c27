/-! The members of the JDK that NightLots() asks of its text: length, charAt. -/
theorem dJ0_length_8abf5_0 : decode cJ0_length_8abf5 0 = .ok (.aload_n 0, 1) := by decide +kernel
theorem dJ0_length_8abf5_1 : decode cJ0_length_8abf5 1 = .ok (.getfield 9, 3) := by decide +kernel
theorem dJ0_length_8abf5_4 : decode cJ0_length_8abf5 4 = .ok (.arraylength, 1) := by decide +kernel
theorem dJ0_length_8abf5_5 : decode cJ0_length_8abf5 5 = .ok (.aload_n 0, 1) := by decide +kernel
theorem dJ0_length_8abf5_6 : decode cJ0_length_8abf5 6 = .ok (.invokevirtual 335, 3) := by decide +kernel
theorem dJ0_length_8abf5_9 : decode cJ0_length_8abf5 9 = .ok (.ishr, 1) := by decide +kernel
theorem dJ0_length_8abf5_10 : decode cJ0_length_8abf5 10 = .ok (.ireturn, 1) := by decide +kernel
theorem dJ0_charAt_5068e_0 : decode cJ0_charAt_5068e 0 = .ok (.aload_n 0, 1) := by decide +kernel
theorem dJ0_charAt_5068e_1 : decode cJ0_charAt_5068e 1 = .ok (.invokevirtual 492, 3) := by decide +kernel
theorem dJ0_charAt_5068e_4 : decode cJ0_charAt_5068e 4 = .ok (.ifCond .eq 12, 3) := by decide +kernel
theorem dJ0_charAt_5068e_7 : decode cJ0_charAt_5068e 7 = .ok (.aload_n 0, 1) := by decide +kernel
theorem dJ0_charAt_5068e_8 : decode cJ0_charAt_5068e 8 = .ok (.getfield 9, 3) := by decide +kernel
theorem dJ0_charAt_5068e_11 : decode cJ0_charAt_5068e 11 = .ok (.iload_n 1, 1) := by decide +kernel
theorem dJ0_charAt_5068e_12 : decode cJ0_charAt_5068e 12 = .ok (.invokestatic 495, 3) := by decide +kernel
theorem dJ0_charAt_5068e_15 : decode cJ0_charAt_5068e 15 = .ok (.ireturn, 1) := by decide +kernel
theorem dJ0_charAt_5068e_16 : decode cJ0_charAt_5068e 16 = .ok (.aload_n 0, 1) := by decide +kernel
theorem dJ0_charAt_5068e_17 : decode cJ0_charAt_5068e 17 = .ok (.getfield 9, 3) := by decide +kernel
theorem dJ0_charAt_5068e_20 : decode cJ0_charAt_5068e 20 = .ok (.iload_n 1, 1) := by decide +kernel
theorem dJ0_charAt_5068e_21 : decode cJ0_charAt_5068e 21 = .ok (.invokestatic 498, 3) := by decide +kernel
theorem dJ0_charAt_5068e_24 : decode cJ0_charAt_5068e 24 = .ok (.ireturn, 1) := by decide +kernel
theorem dJ0_coder_7d493_0 : decode cJ0_coder_7d493 0 = .ok (.getstatic 38, 3) := by decide +kernel
theorem dJ0_coder_7d493_3 : decode cJ0_coder_7d493 3 = .ok (.ifCond .eq 10, 3) := by decide +kernel
theorem dJ0_coder_7d493_6 : decode cJ0_coder_7d493 6 = .ok (.aload_n 0, 1) := by decide +kernel
theorem dJ0_coder_7d493_7 : decode cJ0_coder_7d493 7 = .ok (.getfield 15, 3) := by decide +kernel
theorem dJ0_coder_7d493_10 : decode cJ0_coder_7d493 10 = .ok (.goto 4, 3) := by decide +kernel
theorem dJ0_coder_7d493_13 : decode cJ0_coder_7d493 13 = .ok (.iconst 1, 1) := by decide +kernel
theorem dJ0_coder_7d493_14 : decode cJ0_coder_7d493 14 = .ok (.ireturn, 1) := by decide +kernel
theorem dJ0_isLatin1_aae02_0 : decode cJ0_isLatin1_aae02 0 = .ok (.getstatic 38, 3) := by decide +kernel
theorem dJ0_isLatin1_aae02_3 : decode cJ0_isLatin1_aae02 3 = .ok (.ifCond .eq 14, 3) := by decide +kernel
theorem dJ0_isLatin1_aae02_6 : decode cJ0_isLatin1_aae02 6 = .ok (.aload_n 0, 1) := by decide +kernel
theorem dJ0_isLatin1_aae02_7 : decode cJ0_isLatin1_aae02 7 = .ok (.getfield 15, 3) := by decide +kernel
theorem dJ0_isLatin1_aae02_10 : decode cJ0_isLatin1_aae02 10 = .ok (.ifCond .ne 7, 3) := by decide +kernel
theorem dJ0_isLatin1_aae02_13 : decode cJ0_isLatin1_aae02 13 = .ok (.iconst 1, 1) := by decide +kernel
theorem dJ0_isLatin1_aae02_14 : decode cJ0_isLatin1_aae02 14 = .ok (.goto 4, 3) := by decide +kernel
theorem dJ0_isLatin1_aae02_17 : decode cJ0_isLatin1_aae02 17 = .ok (.iconst 0, 1) := by decide +kernel
theorem dJ0_isLatin1_aae02_18 : decode cJ0_isLatin1_aae02 18 = .ok (.ireturn, 1) := by decide +kernel
theorem dJ0_checkIndex_df160_0 : decode cJ0_checkIndex_df160 0 = .ok (.iload_n 0, 1) := by decide +kernel
theorem dJ0_checkIndex_df160_1 : decode cJ0_checkIndex_df160 1 = .ok (.iload_n 1, 1) := by decide +kernel
theorem dJ0_checkIndex_df160_2 : decode cJ0_checkIndex_df160 2 = .ok (.getstatic 1053, 3) := by decide +kernel
theorem dJ0_checkIndex_df160_5 : decode cJ0_checkIndex_df160 5 = .ok (.invokestatic 1059, 3) := by decide +kernel
theorem dJ0_checkIndex_df160_8 : decode cJ0_checkIndex_df160 8 = .ok (.pop, 1) := by decide +kernel
theorem dJ0_checkIndex_df160_9 : decode cJ0_checkIndex_df160 9 = .ok (.return_, 1) := by decide +kernel
theorem dJ1_charAt_3b067_0 : decode cJ1_charAt_3b067 0 = .ok (.iload_n 1, 1) := by decide +kernel
theorem dJ1_charAt_3b067_1 : decode cJ1_charAt_3b067 1 = .ok (.aload_n 0, 1) := by decide +kernel
theorem dJ1_charAt_3b067_2 : decode cJ1_charAt_3b067 2 = .ok (.arraylength, 1) := by decide +kernel
theorem dJ1_charAt_3b067_3 : decode cJ1_charAt_3b067 3 = .ok (.invokestatic 9, 3) := by decide +kernel
theorem dJ1_charAt_3b067_6 : decode cJ1_charAt_3b067 6 = .ok (.aload_n 0, 1) := by decide +kernel
theorem dJ1_charAt_3b067_7 : decode cJ1_charAt_3b067 7 = .ok (.iload_n 1, 1) := by decide +kernel
theorem dJ1_charAt_3b067_8 : decode cJ1_charAt_3b067 8 = .ok (.baload, 1) := by decide +kernel
theorem dJ1_charAt_3b067_9 : decode cJ1_charAt_3b067 9 = .ok (.sipush 255, 3) := by decide +kernel
theorem dJ1_charAt_3b067_12 : decode cJ1_charAt_3b067 12 = .ok (.iand, 1) := by decide +kernel
theorem dJ1_charAt_3b067_13 : decode cJ1_charAt_3b067 13 = .ok (.i2c, 1) := by decide +kernel
theorem dJ1_charAt_3b067_14 : decode cJ1_charAt_3b067 14 = .ok (.ireturn, 1) := by decide +kernel
theorem dJ3_checkIndex_8e157_0 : decode cJ3_checkIndex_8e157 0 = .ok (.iload_n 0, 1) := by decide +kernel
theorem dJ3_checkIndex_8e157_1 : decode cJ3_checkIndex_8e157 1 = .ok (.ifCond .lt 8, 3) := by decide +kernel
theorem dJ3_checkIndex_8e157_4 : decode cJ3_checkIndex_8e157 4 = .ok (.iload_n 0, 1) := by decide +kernel
theorem dJ3_checkIndex_8e157_5 : decode cJ3_checkIndex_8e157 5 = .ok (.iload_n 1, 1) := by decide +kernel
theorem dJ3_checkIndex_8e157_6 : decode cJ3_checkIndex_8e157 6 = .ok (.if_icmp .lt 10, 3) := by decide +kernel
theorem dJ3_checkIndex_8e157_9 : decode cJ3_checkIndex_8e157 9 = .ok (.aload_n 2, 1) := by decide +kernel
theorem dJ3_checkIndex_8e157_10 : decode cJ3_checkIndex_8e157 10 = .ok (.iload_n 0, 1) := by decide +kernel
theorem dJ3_checkIndex_8e157_11 : decode cJ3_checkIndex_8e157 11 = .ok (.iload_n 1, 1) := by decide +kernel
theorem dJ3_checkIndex_8e157_12 : decode cJ3_checkIndex_8e157 12 = .ok (.invokestatic 95, 3) := by decide +kernel
theorem dJ3_checkIndex_8e157_15 : decode cJ3_checkIndex_8e157 15 = .ok (.athrow, 1) := by decide +kernel
theorem dJ3_checkIndex_8e157_16 : decode cJ3_checkIndex_8e157 16 = .ok (.iload_n 0, 1) := by decide +kernel
theorem dJ3_checkIndex_8e157_17 : decode cJ3_checkIndex_8e157 17 = .ok (.ireturn, 1) := by decide +kernel
def nj_bs : List Int32 := [110, 52, 59, 110, 55, 59, 110, 49, 50, 59, 110, 57, 59, 110, 53, 59, 104, 48, 44, 49, 52, 44, 49, 48, 59, 104, 49, 44, 57, 44, 50, 50, 59, 104, 50, 44, 50, 48, 44, 51, 53, 59, 104, 51, 44, 49, 50, 44, 52, 49, 59, 104, 48, 44, 56, 44, 54, 48, 59]
def nj_Z (A : Nat → Prop) (q d : Nat) (U : State) (H : Heap) : Prop :=
  va_Z "java/lang/String" "COMPACT_STRINGS" "Z" (.int 1) A U H ∧ va_Zq "jdk/internal/util/Preconditions" "SIOOBE_FORMATTER" "Ljava/util/function/BiFunction;" A U H ∧ va_O "java/lang/String" q A U H ∧ va_OF "java/lang/String" "coder" "B" (.int 0) q A U H ∧ va_OF "java/lang/String" "value" "[B" (.ref d) q A U H ∧ va_T .byte d 59 (fun j => .int (nj_bs.getD j 0)) A U H
theorem nj_Z.moved {A : Nat → Prop} {q d : Nat} {u U : State} {H : Heap} (hvm : u.vm.Alike U.vm) (h : nj_Z A q d u H) : nj_Z A q d U H :=
  ⟨h.1.moved hvm, h.2.1.moved hvm, va_O.moved hvm h.2.2.1, va_OF.moved hvm h.2.2.2.1, va_OF.moved hvm h.2.2.2.2.1, va_T.moved hvm h.2.2.2.2.2⟩
theorem nj_Z.kept {A : Nat → Prop} {q d : Nat} {U : State} {H H1 : Heap} (h : nj_Z A q d U H) (hq : ∀ a : Nat, a < H.size → ¬ A a → H1[a]? = H[a]?) : nj_Z A q d U H1 :=
  ⟨h.1.kept hq, h.2.1.kept hq, h.2.2.1.kept hq, h.2.2.2.1.kept hq, h.2.2.2.2.1.kept hq, h.2.2.2.2.2.kept hq⟩
def nj_Q0 : Array Value → State → Outcome → State → Prop := fun _ st oc t => oc = .returned none ∧ t.heap = st.heap
def nj_P (A : Nat → Prop) (q d : Nat) (av : List Value) : Array Value → State → Prop := va_Pc av (fun U => nj_Z A q d U U.heap)
theorem nj_blind (A : Nat → Prop) (q d : Nat) (av : List Value) : FrameBlind (nj_P A q d av) := fun _ U g mk h => ⟨h.1, nj_Z.moved (u := U) (U := U.calling g mk _) (Vm.Alike.refl U.vm) h.2⟩
theorem nj_pre {A : Nat → Prop} {q d : Nat} {av : List Value} {s : State} {H : Heap} {locs : List Loc} (hZ : nj_Z A q d s s.heap) (hS : va_S A s.heap H locs) : PreS s H (nj_P A q d av) av :=
  ⟨nj_blind A q d av, fun U hU hWU => ⟨rfl, by show nj_Z A q d U U.heap; rw [hU]; exact (hZ.kept hS.2.1).moved hWU.alike⟩⟩
def nj_ws (y : MethodName) (cc : ByteArray) (n : Nat) (ret : Option FieldType) : List Jvm.Cond := Cond.code y cc n ret :: nl_WL
theorem nj_good {y : MethodName} {cc : ByteArray} {n : Nat} {ret : Option FieldType} (h : Cond.code y cc n ret ∈ nl_WL) : GoodIn nl_WL (nj_ws y cc n ret) := fun w hw => by
  rcases List.mem_cons.mp hw with e | e
  · rw [e]; exact nl_goodW h
  · exact nl_goodW e
section NJ
variable {p : Program} {l : Launch} {e : Env} {R : Room} {s : State} {m : MethodId} {args : Array Value} {below : List Frame} {meth : Method} {c : Code} {cells slots : Nat} {Q : State → Prop} {cc : ByteArray} {nL : Nat} {pc : Nat} {ls : Array Slot} {rest : List Value} {H : Heap} {locs : List Loc} {A : Nat → Prop} {q d : Nat}
/-- a virtual call of one of them that answers and changes nothing -/
theorem nj_callV (hx : p.tables.exec = Jvm.exec) (hb : c.code = cc) (hml : c.maxLocals = nL) {own C : String} (hown : s.vm.findClass own = some m.cls) (hts : ∀ w ∈ nl_WL, w.before args s = true) {idx maxL fr lo : Nat} {y : MethodName} {bytes : ByteArray} {ret : Option FieldType} {r : Value} {ex : List Value} (hM : Met l y (nj_ws y bytes maxL ret) (k2_rm fr lo) (nj_P A q d (.ref q :: ex)) (k2_QcV r) 0 0 (fun _ => False))
    (w1 : Cond.methodLink own idx y ∈ nl_WL) (w2 : Cond.instanceMethod y ∈ nl_WL) (w3 : Cond.selects C y y ∈ nl_WL) (w4 : Cond.initialized C ∈ nl_WL) (w5 : Cond.code y bytes maxL ret ∈ nl_WL) (hC : y.cls = C) (hCS : C = "java/lang/String") (hd : y.cls ≠ "java/lang/invoke/MethodHandle" ∧ y.cls ≠ "java/lang/invoke/VarHandle" ∧ (parseMethodDescriptor y.desc).map (fun d => d.parameters.length) = some ex.length) (hR : fr + 1 ≤ R.frames ∧ 8 + (maxL + 11) + lo ≤ R.locals) (hZ : nj_Z A q d s s.heap) (hS : va_S A s.heap H locs) (hsz : ls.size = nL) (hcat : (rest.map fun v => v.category).sum ≤ 8) (hdg : decode cc pc = .ok (.invokevirtual idx, 3)) (hf : cells ≤ R.cells ∧ slots ≤ R.slots)
    (kk : W p l e R s m args below meth c H locs cells slots Q (F0 m (pc + 3) ls (r :: rest))) : W p l e R s m args below meth c H locs cells slots Q (F0 m pc ls (ex.reverse ++ .ref q :: rest)) := by
  have hgd : GoodIn nl_WL (wsV own idx C y (nj_ws y bytes maxL ret)) := by
    intro w hw
    unfold wsV at hw
    rcases List.mem_append.mp hw with hw | hw
    · simp only [List.mem_cons, List.not_mem_nil, or_false] at hw
      rcases hw with rfl | rfl | rfl | rfl
      · exact nl_goodW w1
      · exact nl_goodW w2
      · exact nl_goodW w3
      · exact nl_goodW w4
    · exact nj_good w5 w hw
  have cw : CallW R s args own C idx y bytes maxL ret (nj_ws y bytes maxL ret) (k2_rm fr lo) 0 0 ex.length := cwV ex.length hts hgd rfl rfl rfl ⟨hC, hd.1, hd.2.1, hd.2.2⟩ ⟨hR.1, hR.2⟩
  obtain ⟨cellB, g1, g2, g3, -⟩ := hZ.2.2.1.kept hS.2.1
  have hp : PreV s H C q (nj_P A q d (.ref q :: ex)) ex := ⟨nj_blind A q d _, ⟨cellB, g1, g2, by rw [hCS]; exact g3⟩, (nj_pre hZ hS).2⟩
  exact W.callV (g := F0 m pc ls (ex.reverse ++ .ref q :: rest)) (W.runV (rest := rest) ⟨hx, hb, hml, hown, hts⟩ hM cw hp rfl rfl hsz rfl (by show 2 * 0 + _ ≤ 8; omega) hdg ⟨by omega, by omega⟩) kk
/-- a static call -/
theorem nj_runS (hx : p.tables.exec = Jvm.exec) (hb : c.code = cc) (hml : c.maxLocals = nL) {own : String} (hown : s.vm.findClass own = some m.cls) (hts : ∀ w ∈ nl_WL, w.before args s = true) {idx maxL fr lo : Nat} {y : MethodName} {bytes : ByteArray} {ret : Option FieldType} {Qc : Array Value → State → Outcome → State → Prop} {ex : List Value} (hM : Met l y (nj_ws y bytes maxL ret) (k2_rm fr lo) (nj_P A q d ex) Qc 0 0 (fun _ => False))
    (w1 : Cond.methodLink own idx y ∈ nl_WL) (w2 : Cond.static y ∈ nl_WL) (w4 : Cond.initialized y.cls ∈ nl_WL) (w5 : Cond.code y bytes maxL ret ∈ nl_WL) (hd : y.cls ≠ "java/lang/invoke/MethodHandle" ∧ y.cls ≠ "java/lang/invoke/VarHandle" ∧ (parseMethodDescriptor y.desc).map (fun d => d.parameters.length) = some ex.length) (hR : fr + 1 ≤ R.frames ∧ 8 + (maxL + 11) + lo ≤ R.locals) (hZ : nj_Z A q d s s.heap) (hS : va_S A s.heap H locs) (hsz : ls.size = nL) (hcat : (rest.map fun v => v.category).sum ≤ 8) (hdg : decode cc pc = .ok (.invokestatic idx, 3)) (hf : cells ≤ R.cells ∧ slots ≤ R.slots) :
    CallRun p l e R s m args below meth c H locs cells slots 0 0 (F0 m pc ls (ex.reverse ++ rest)) rest (Qc ex.toArray) (fun _ => False) := by
  have hgd : GoodIn nl_WL (va_wsS own idx y (nj_ws y bytes maxL ret)) := by
    intro w hw
    unfold va_wsS at hw
    rcases List.mem_append.mp hw with hw | hw
    · simp only [List.mem_cons, List.not_mem_nil, or_false] at hw
      rcases hw with rfl | rfl | rfl
      · exact nl_goodW w1
      · exact nl_goodW w2
      · exact nl_goodW w4
    · exact nj_good w5 w hw
  have cw := va_cwS (R := R) (rm := k2_rm fr lo) ex.length hts hgd rfl rfl rfl hd ⟨hR.1, hR.2⟩
  exact W.runS (rest := rest) ⟨hx, hb, hml, hown, hts⟩ hM cw (nj_pre hZ hS) rfl rfl hsz rfl (by show 2 * 0 + _ ≤ 8; omega) hdg ⟨by omega, by omega⟩
/-- a call that answers nothing and changes nothing -/
theorem nj_callN {st0 : List Value} {a9 : Array Value} (hr : CallRun p l e R s m args below meth c H locs cells slots 0 0 (F0 m pc ls st0) rest (nj_Q0 a9) (fun _ => False)) (kk : W p l e R s m args below meth c H locs cells slots Q (F0 m (pc + 3) ls rest)) : W p l e R s m args below meth c H locs cells slots Q (F0 m pc ls st0) := by
  intro T hT X
  obtain ⟨v, st₀, t, T', L, h0, X', hL, e1, ⟨hv, hh⟩, st⟩ := hr T hT X
  cases hv
  obtain ⟨t2, a1, b1⟩ := kk T' (by rw [e1, hh, h0]) (Stand.forget X' (fun q h => (hL q h).elim))
  exact ⟨t2, st t2 a1, b1⟩
end NJ
set_option maxHeartbeats 4000000 in
theorem nj_coder (l : Launch) (A : Nat → Prop) (q d : Nat) : Met l yJ0_coder_7d493 (nj_ws yJ0_coder_7d493 cJ0_coder_7d493 1 (some .byte)) (k2_rm 0 0) (nj_P A q d [.ref q]) (k2_QcV (.int 0)) 0 0 (fun _ => False) := by
  refine Met.ofW (cc := cJ0_coder_7d493) (maxL := 1) (ret := (some .byte)) (by decide +kernel) rfl ?_
  intro p e s m args below meth c s₁ B hml hv
  obtain ⟨rfl, hZ⟩ := hv
  have hx := B.exec
  have hb := B.bytes
  have hr := B.returns
  have hlocks := B.notSynchronized
  have hts0 := atoms_spec (ws := nj_ws yJ0_coder_7d493 cJ0_coder_7d493 1 (some .byte)) B.pre
  have hts : ∀ w ∈ nl_WL, w.before ([.ref q] : List Value).toArray s = true := fun w hw => hts0 w (List.mem_cons_of_mem _ hw)
  have hown : s.vm.findClass yJ0_coder_7d493.cls = some m.cls := findClass_of_methodNamed B.named
  have hl := lv_entry ([.ref q]) (n := 1) (Nat.le_of_ble_eq_true rfl)
  rw [lg_entry_eq]
  generalize (lg_sl ([.ref q]) ++ List.replicate (1 - (lg_sl ([.ref q])).length) Slot.unset).toArray = ls at hl ⊢
  have hl : lv_has ls 1 [(0, .ref q)] := hl
  have hS : va_S A s.heap s.heap [] := va_S.rf
  refine va_gets (index := 38) hx hb hZ.1 hS hown (hts _ (nl_w1 190 rfl rfl)) (fun x h => h) dJ0_coder_7d493_0 ?_
  refine lv_if_eq hx hb dJ0_coder_7d493_3 (tgt := 13) rfl (fun z => absurd z (by decide)) (fun _ => ?_)
  refine lv_aload_n hx hb dJ0_coder_7d493_6 rfl (lv_at hl 0 rfl) ?_
  refine vk_getf (index := 15) hx hb hZ.2.2.2.1 hS hown (hts _ (nl_w4 237 rfl rfl)) (fun x h => h) dJ0_coder_7d493_7 ?_
  refine lv_goto hx hb dJ0_coder_7d493_10 (tgt := 14) rfl ?_
  exact W.zret (ty := .byte) hx hb hr rfl (fun t ht hW => ⟨rfl, ht⟩) (fun z h => by cases h) dJ0_coder_7d493_14
set_option maxHeartbeats 4000000 in
theorem nj_length (l : Launch) (A : Nat → Prop) (q d : Nat) : Met l yJ0_length_8abf5 (nj_ws yJ0_length_8abf5 cJ0_length_8abf5 1 (some .int)) (k2_rm 1 30) (nj_P A q d [.ref q]) (k2_QcV (.int 59)) 0 0 (fun _ => False) := by
  refine Met.ofW (cc := cJ0_length_8abf5) (maxL := 1) (ret := (some .int)) (by decide +kernel) rfl ?_
  intro p e s m args below meth c s₁ B hml hv
  obtain ⟨rfl, hZ⟩ := hv
  have hx := B.exec
  have hb := B.bytes
  have hr := B.returns
  have hlocks := B.notSynchronized
  have hts0 := atoms_spec (ws := nj_ws yJ0_length_8abf5 cJ0_length_8abf5 1 (some .int)) B.pre
  have hts : ∀ w ∈ nl_WL, w.before ([.ref q] : List Value).toArray s = true := fun w hw => hts0 w (List.mem_cons_of_mem _ hw)
  have hown : s.vm.findClass yJ0_length_8abf5.cls = some m.cls := findClass_of_methodNamed B.named
  have hl := lv_entry ([.ref q]) (n := 1) (Nat.le_of_ble_eq_true rfl)
  rw [lg_entry_eq]
  generalize (lg_sl ([.ref q]) ++ List.replicate (1 - (lg_sl ([.ref q])).length) Slot.unset).toArray = ls at hl ⊢
  have hl : lv_has ls 1 [(0, .ref q)] := hl
  have hS : va_S A s.heap s.heap [] := va_S.rf
  refine lv_aload_n hx hb dJ0_length_8abf5_0 rfl (lv_at hl 0 rfl) ?_
  refine vk_getf (index := 9) hx hb hZ.2.2.2.2.1 hS hown (hts _ (nl_w4 236 rfl rfl)) (fun x h => h) dJ0_length_8abf5_1 ?_
  refine va_tlen hx hb hZ.2.2.2.2.2 hS (v := 59) rfl dJ0_length_8abf5_4 ?_
  refine lv_aload_n hx hb dJ0_length_8abf5_5 rfl (lv_at hl 0 rfl) ?_
  refine nj_callV (ex := []) (C := "java/lang/String") hx hb hml hown hts (nj_coder l A q d) (nl_w1 186 rfl rfl) (nl_w1 187 rfl rfl) (nl_w1 188 rfl rfl) (nl_w1 8 rfl rfl) (nl_w1 189 rfl rfl) rfl rfl (by decide +kernel) ⟨Nat.le_of_ble_eq_true rfl, Nat.le_of_ble_eq_true rfl⟩ hZ hS hl.1 (Nat.le_of_ble_eq_true rfl) dJ0_length_8abf5_6 ⟨Nat.zero_le _, Nat.zero_le _⟩ ?_
  refine lv_ishr hx hb dJ0_length_8abf5_9 ?_
  exact W.iret hx hb hr (fun t ht hW => ⟨rfl, ht⟩) (fun z h => by cases h) dJ0_length_8abf5_10
set_option maxHeartbeats 4000000 in
theorem nj_isLatin1 (l : Launch) (A : Nat → Prop) (q d : Nat) : Met l yJ0_isLatin1_aae02 (nj_ws yJ0_isLatin1_aae02 cJ0_isLatin1_aae02 1 (some .boolean)) (k2_rm 0 0) (nj_P A q d [.ref q]) (k2_QcV (.int 1)) 0 0 (fun _ => False) := by
  refine Met.ofW (cc := cJ0_isLatin1_aae02) (maxL := 1) (ret := (some .boolean)) (by decide +kernel) rfl ?_
  intro p e s m args below meth c s₁ B hml hv
  obtain ⟨rfl, hZ⟩ := hv
  have hx := B.exec
  have hb := B.bytes
  have hr := B.returns
  have hlocks := B.notSynchronized
  have hts0 := atoms_spec (ws := nj_ws yJ0_isLatin1_aae02 cJ0_isLatin1_aae02 1 (some .boolean)) B.pre
  have hts : ∀ w ∈ nl_WL, w.before ([.ref q] : List Value).toArray s = true := fun w hw => hts0 w (List.mem_cons_of_mem _ hw)
  have hown : s.vm.findClass yJ0_isLatin1_aae02.cls = some m.cls := findClass_of_methodNamed B.named
  have hl := lv_entry ([.ref q]) (n := 1) (Nat.le_of_ble_eq_true rfl)
  rw [lg_entry_eq]
  generalize (lg_sl ([.ref q]) ++ List.replicate (1 - (lg_sl ([.ref q])).length) Slot.unset).toArray = ls at hl ⊢
  have hl : lv_has ls 1 [(0, .ref q)] := hl
  have hS : va_S A s.heap s.heap [] := va_S.rf
  refine va_gets (index := 38) hx hb hZ.1 hS hown (hts _ (nl_w1 190 rfl rfl)) (fun x h => h) dJ0_isLatin1_aae02_0 ?_
  refine lv_if_eq hx hb dJ0_isLatin1_aae02_3 (tgt := 17) rfl (fun z => absurd z (by decide)) (fun _ => ?_)
  refine lv_aload_n hx hb dJ0_isLatin1_aae02_6 rfl (lv_at hl 0 rfl) ?_
  refine vk_getf (index := 15) hx hb hZ.2.2.2.1 hS hown (hts _ (nl_w4 237 rfl rfl)) (fun x h => h) dJ0_isLatin1_aae02_7 ?_
  refine lv_if_ne hx hb dJ0_isLatin1_aae02_10 (tgt := 17) rfl (fun z => absurd rfl z) (fun _ => ?_)
  refine lv_iconst (v := 1) hx hb dJ0_isLatin1_aae02_13 (by decide) ?_
  refine lv_goto hx hb dJ0_isLatin1_aae02_14 (tgt := 18) rfl ?_
  exact W.zret (ty := .boolean) hx hb hr rfl (fun t ht hW => ⟨rfl, ht⟩) (fun z h => by cases h) dJ0_isLatin1_aae02_18
set_option maxHeartbeats 4000000 in
theorem nj_pre3n (l : Launch) (A : Nat → Prop) (q d : Nat) (k : Nat) (hk : k < 59) : Met l yJ3_checkIndex_8e157 (nj_ws yJ3_checkIndex_8e157 cJ3_checkIndex_8e157 3 (some .int)) (k2_rm 0 0) (nj_P A q d [.int (Int32.ofNat k), .int 59, .null]) (k2_QcV (.int (Int32.ofNat k))) 0 0 (fun _ => False) := by
  refine Met.ofW (cc := cJ3_checkIndex_8e157) (maxL := 3) (ret := (some .int)) (by decide +kernel) rfl ?_
  intro p e s m args below meth c s₁ B hml hv
  obtain ⟨rfl, hZ⟩ := hv
  have hx := B.exec
  have hb := B.bytes
  have hr := B.returns
  have hlocks := B.notSynchronized
  have hts0 := atoms_spec (ws := nj_ws yJ3_checkIndex_8e157 cJ3_checkIndex_8e157 3 (some .int)) B.pre
  have hts : ∀ w ∈ nl_WL, w.before ([.int (Int32.ofNat k), .int 59, .null] : List Value).toArray s = true := fun w hw => hts0 w (List.mem_cons_of_mem _ hw)
  have hown : s.vm.findClass yJ3_checkIndex_8e157.cls = some m.cls := findClass_of_methodNamed B.named
  have hl := lv_entry ([.int (Int32.ofNat k), .int 59, .null]) (n := 3) (Nat.le_of_ble_eq_true rfl)
  rw [lg_entry_eq]
  generalize (lg_sl ([.int (Int32.ofNat k), .int 59, .null]) ++ List.replicate (3 - (lg_sl ([.int (Int32.ofNat k), .int 59, .null])).length) Slot.unset).toArray = ls at hl ⊢
  have hl : lv_has ls 3 [(0, .int (Int32.ofNat k)), (1, .int 59), (2, .null)] := hl
  have hS : va_S A s.heap s.heap [] := va_S.rf
  refine lv_iload_n hx hb dJ3_checkIndex_8e157_0 rfl (lv_at hl 0 rfl) ?_
  refine lv_if_lt hx hb dJ3_checkIndex_8e157_1 (tgt := 9) rfl (fun z => absurd ((Int32.ofNat_lt_ofNat (k := k) (n := 0) (by omega) (by omega)).mp z) (by omega)) (fun _ => ?_)
  refine lv_iload_n hx hb dJ3_checkIndex_8e157_4 rfl (lv_at hl 0 rfl) ?_
  refine lv_iload_n hx hb dJ3_checkIndex_8e157_5 rfl (lv_at hl 1 rfl) ?_
  refine lv_icmp_lt hx hb dJ3_checkIndex_8e157_6 (tgt := 16) rfl (fun _ => ?_) (fun z => absurd ((Int32.ofNat_lt_ofNat (k := k) (n := 59) (by omega) (by omega)).mpr hk) z)
  refine lv_iload_n hx hb dJ3_checkIndex_8e157_16 rfl (lv_at hl 0 rfl) ?_
  exact W.iret hx hb hr (fun t ht hW => ⟨rfl, ht⟩) (fun z h => by cases h) dJ3_checkIndex_8e157_17
set_option maxHeartbeats 4000000 in
theorem nj_pre3r (l : Launch) (A : Nat → Prop) (q d : Nat) (k : Nat) (hk : k < 59) (v : Nat) : Met l yJ3_checkIndex_8e157 (nj_ws yJ3_checkIndex_8e157 cJ3_checkIndex_8e157 3 (some .int)) (k2_rm 0 0) (nj_P A q d [.int (Int32.ofNat k), .int 59, .ref v]) (k2_QcV (.int (Int32.ofNat k))) 0 0 (fun _ => False) := by
  refine Met.ofW (cc := cJ3_checkIndex_8e157) (maxL := 3) (ret := (some .int)) (by decide +kernel) rfl ?_
  intro p e s m args below meth c s₁ B hml hv
  obtain ⟨rfl, hZ⟩ := hv
  have hx := B.exec
  have hb := B.bytes
  have hr := B.returns
  have hlocks := B.notSynchronized
  have hts0 := atoms_spec (ws := nj_ws yJ3_checkIndex_8e157 cJ3_checkIndex_8e157 3 (some .int)) B.pre
  have hts : ∀ w ∈ nl_WL, w.before ([.int (Int32.ofNat k), .int 59, .ref v] : List Value).toArray s = true := fun w hw => hts0 w (List.mem_cons_of_mem _ hw)
  have hown : s.vm.findClass yJ3_checkIndex_8e157.cls = some m.cls := findClass_of_methodNamed B.named
  have hl := lv_entry ([.int (Int32.ofNat k), .int 59, .ref v]) (n := 3) (Nat.le_of_ble_eq_true rfl)
  rw [lg_entry_eq]
  generalize (lg_sl ([.int (Int32.ofNat k), .int 59, .ref v]) ++ List.replicate (3 - (lg_sl ([.int (Int32.ofNat k), .int 59, .ref v])).length) Slot.unset).toArray = ls at hl ⊢
  have hl : lv_has ls 3 [(0, .int (Int32.ofNat k)), (1, .int 59), (2, .ref v)] := hl
  have hS : va_S A s.heap s.heap [] := va_S.rf
  refine lv_iload_n hx hb dJ3_checkIndex_8e157_0 rfl (lv_at hl 0 rfl) ?_
  refine lv_if_lt hx hb dJ3_checkIndex_8e157_1 (tgt := 9) rfl (fun z => absurd ((Int32.ofNat_lt_ofNat (k := k) (n := 0) (by omega) (by omega)).mp z) (by omega)) (fun _ => ?_)
  refine lv_iload_n hx hb dJ3_checkIndex_8e157_4 rfl (lv_at hl 0 rfl) ?_
  refine lv_iload_n hx hb dJ3_checkIndex_8e157_5 rfl (lv_at hl 1 rfl) ?_
  refine lv_icmp_lt hx hb dJ3_checkIndex_8e157_6 (tgt := 16) rfl (fun _ => ?_) (fun z => absurd ((Int32.ofNat_lt_ofNat (k := k) (n := 59) (by omega) (by omega)).mpr hk) z)
  refine lv_iload_n hx hb dJ3_checkIndex_8e157_16 rfl (lv_at hl 0 rfl) ?_
  exact W.iret hx hb hr (fun t ht hW => ⟨rfl, ht⟩) (fun z h => by cases h) dJ3_checkIndex_8e157_17
set_option maxHeartbeats 4000000 in
theorem nj_chk (l : Launch) (A : Nat → Prop) (q d : Nat) (k : Nat) (hk : k < 59) : Met l yJ0_checkIndex_df160 (nj_ws yJ0_checkIndex_df160 cJ0_checkIndex_df160 2 none) (k2_rm 1 30) (nj_P A q d [.int (Int32.ofNat k), .int 59]) (nj_Q0) 0 0 (fun _ => False) := by
  refine Met.ofW (cc := cJ0_checkIndex_df160) (maxL := 2) (ret := none) (by decide +kernel) rfl ?_
  intro p e s m args below meth c s₁ B hml hv
  obtain ⟨rfl, hZ⟩ := hv
  have hx := B.exec
  have hb := B.bytes
  have hr := B.returns
  have hlocks := B.notSynchronized
  have hts0 := atoms_spec (ws := nj_ws yJ0_checkIndex_df160 cJ0_checkIndex_df160 2 none) B.pre
  have hts : ∀ w ∈ nl_WL, w.before ([.int (Int32.ofNat k), .int 59] : List Value).toArray s = true := fun w hw => hts0 w (List.mem_cons_of_mem _ hw)
  have hown : s.vm.findClass yJ0_checkIndex_df160.cls = some m.cls := findClass_of_methodNamed B.named
  have hl := lv_entry ([.int (Int32.ofNat k), .int 59]) (n := 2) (Nat.le_of_ble_eq_true rfl)
  rw [lg_entry_eq]
  generalize (lg_sl ([.int (Int32.ofNat k), .int 59]) ++ List.replicate (2 - (lg_sl ([.int (Int32.ofNat k), .int 59])).length) Slot.unset).toArray = ls at hl ⊢
  have hl : lv_has ls 2 [(0, .int (Int32.ofNat k)), (1, .int 59)] := hl
  have hS : va_S A s.heap s.heap [] := va_S.rf
  refine lv_iload_n hx hb dJ0_checkIndex_df160_0 rfl (lv_at hl 0 rfl) ?_
  refine lv_iload_n hx hb dJ0_checkIndex_df160_1 rfl (lv_at hl 1 rfl) ?_
  rcases hZ.2.1 with hq | ⟨t, hq⟩
  · refine va_gets (index := 1053) hx hb hq hS hown (hts _ (nl_w1 206 rfl rfl)) (fun x h => h) dJ0_checkIndex_df160_2 ?_
    refine W.callV (g := F0 m 5 ls [.null, .int 59, .int (Int32.ofNat k)]) (nj_runS (ex := [.int (Int32.ofNat k), .int 59, .null]) (rest := []) hx hb hml hown hts (nj_pre3n l A q d k hk) (nl_w1 208 rfl rfl) (nl_w1 209 rfl rfl) (nl_w1 10 rfl rfl) (nl_w1 210 rfl rfl) (by show _ ∧ _ ∧ _ = some 3; decide +kernel) ⟨Nat.le_of_ble_eq_true rfl, Nat.le_of_ble_eq_true rfl⟩ hZ hS hl.1 (Nat.le_of_ble_eq_true rfl) dJ0_checkIndex_df160_5 ⟨Nat.zero_le _, Nat.zero_le _⟩) ?_
    refine W.eq (g2 := F0 m 8 ls [.int (Int32.ofNat k)]) rfl ?_
    refine lv_pop hx hb dJ0_checkIndex_df160_8 rfl ?_
    exact W.vret hx hb hr (fun t ht hW => ⟨rfl, ht⟩) (fun z h => by cases h) dJ0_checkIndex_df160_9
  · refine va_gets (index := 1053) hx hb hq hS hown (hts _ (nl_w1 206 rfl rfl)) (fun x h => h) dJ0_checkIndex_df160_2 ?_
    refine W.callV (g := F0 m 5 ls [.ref t, .int 59, .int (Int32.ofNat k)]) (nj_runS (ex := [.int (Int32.ofNat k), .int 59, .ref t]) (rest := []) hx hb hml hown hts (nj_pre3r l A q d k hk t) (nl_w1 208 rfl rfl) (nl_w1 209 rfl rfl) (nl_w1 10 rfl rfl) (nl_w1 210 rfl rfl) (by show _ ∧ _ ∧ _ = some 3; decide +kernel) ⟨Nat.le_of_ble_eq_true rfl, Nat.le_of_ble_eq_true rfl⟩ hZ hS hl.1 (Nat.le_of_ble_eq_true rfl) dJ0_checkIndex_df160_5 ⟨Nat.zero_le _, Nat.zero_le _⟩) ?_
    refine W.eq (g2 := F0 m 8 ls [.int (Int32.ofNat k)]) rfl ?_
    refine lv_pop hx hb dJ0_checkIndex_df160_8 rfl ?_
    exact W.vret hx hb hr (fun t ht hW => ⟨rfl, ht⟩) (fun z h => by cases h) dJ0_checkIndex_df160_9
def nj_ch (k : Nat) : Int32 := (((nj_bs.getD k 0) &&& 255).toUInt32 % 65536).toInt32
theorem nj_ch_in : ∀ k, k < 59 → narrow .char (.int (nj_ch k)) = .int (nj_ch k) ∧ nj_ch k = nj_bs.getD k 0 := by decide +kernel
set_option maxHeartbeats 4000000 in
theorem nj_ch1 (l : Launch) (A : Nat → Prop) (q d : Nat) (k : Nat) (hk : k < 59) : Met l yJ1_charAt_3b067 (nj_ws yJ1_charAt_3b067 cJ1_charAt_3b067 2 (some .char)) (k2_rm 2 60) (nj_P A q d [.ref d, .int (Int32.ofNat k)]) (k2_QcV (.int (nj_ch k))) 0 0 (fun _ => False) := by
  refine Met.ofW (cc := cJ1_charAt_3b067) (maxL := 2) (ret := (some .char)) (by decide +kernel) rfl ?_
  intro p e s m args below meth c s₁ B hml hv
  obtain ⟨rfl, hZ⟩ := hv
  have hx := B.exec
  have hb := B.bytes
  have hr := B.returns
  have hlocks := B.notSynchronized
  have hts0 := atoms_spec (ws := nj_ws yJ1_charAt_3b067 cJ1_charAt_3b067 2 (some .char)) B.pre
  have hts : ∀ w ∈ nl_WL, w.before ([.ref d, .int (Int32.ofNat k)] : List Value).toArray s = true := fun w hw => hts0 w (List.mem_cons_of_mem _ hw)
  have hown : s.vm.findClass yJ1_charAt_3b067.cls = some m.cls := findClass_of_methodNamed B.named
  have hl := lv_entry ([.ref d, .int (Int32.ofNat k)]) (n := 2) (Nat.le_of_ble_eq_true rfl)
  rw [lg_entry_eq]
  generalize (lg_sl ([.ref d, .int (Int32.ofNat k)]) ++ List.replicate (2 - (lg_sl ([.ref d, .int (Int32.ofNat k)])).length) Slot.unset).toArray = ls at hl ⊢
  have hl : lv_has ls 2 [(0, .ref d), (1, .int (Int32.ofNat k))] := hl
  have hS : va_S A s.heap s.heap [] := va_S.rf
  have hkk : (Int32.ofNat k).toNatClampNeg = k := Int32.toNatClampNeg_ofNat_of_lt (by omega)
  refine lv_iload_n hx hb dJ1_charAt_3b067_0 rfl (lv_at hl 1 rfl) ?_
  refine lv_aload_n hx hb dJ1_charAt_3b067_1 rfl (lv_at hl 0 rfl) ?_
  refine va_tlen hx hb hZ.2.2.2.2.2 hS (v := 59) rfl dJ1_charAt_3b067_2 ?_
  refine nj_callN (st0 := [.int 59, .int (Int32.ofNat k)]) (nj_runS (ex := [.int (Int32.ofNat k), .int 59]) (rest := []) hx hb hml hown hts (nj_chk l A q d k hk) (nl_w1 203 rfl rfl) (nl_w1 204 rfl rfl) (nl_w1 8 rfl rfl) (nl_w1 205 rfl rfl) (by show _ ∧ _ ∧ _ = some 2; decide +kernel) ⟨Nat.le_of_ble_eq_true rfl, Nat.le_of_ble_eq_true rfl⟩ hZ hS hl.1 (Nat.le_of_ble_eq_true rfl) dJ1_charAt_3b067_3 ⟨Nat.zero_le _, Nat.zero_le _⟩) ?_
  refine lv_aload_n hx hb dJ1_charAt_3b067_6 rfl (lv_at hl 0 rfl) ?_
  refine lv_iload_n hx hb dJ1_charAt_3b067_7 rfl (lv_at hl 1 rfl) ?_
  refine va_tb hx hb hZ.2.2.2.2.2 hS (v := .int (nj_bs.getD k 0)) ?_ (by rw [hkk]) dJ1_charAt_3b067_8 ?_
  · unfold vp_in
    rw [hkk]
    intro z
    rcases z with z | z
    · exact absurd ((Int32.ofNat_lt_ofNat (k := k) (n := 0) (by omega) (by omega)).mp z) (by omega)
    · omega
  refine lv_sipush (v := 255) hx hb dJ1_charAt_3b067_9 (by decide) ?_
  refine lv_iand hx hb dJ1_charAt_3b067_12 ?_
  refine lv_i2c hx hb dJ1_charAt_3b067_13 (v := nj_ch k) rfl ?_
  exact W.zret (ty := .char) hx hb hr (nj_ch_in k hk).1 (fun t ht hW => ⟨rfl, ht⟩) (fun z h => by cases h) dJ1_charAt_3b067_14
set_option maxHeartbeats 4000000 in
theorem nj_charAt (l : Launch) (A : Nat → Prop) (q d : Nat) (k : Nat) (hk : k < 59) : Met l yJ0_charAt_5068e (nj_ws yJ0_charAt_5068e cJ0_charAt_5068e 2 (some .char)) (k2_rm 3 90) (nj_P A q d [.ref q, .int (Int32.ofNat k)]) (k2_QcV (.int (nj_ch k))) 0 0 (fun _ => False) := by
  refine Met.ofW (cc := cJ0_charAt_5068e) (maxL := 2) (ret := (some .char)) (by decide +kernel) rfl ?_
  intro p e s m args below meth c s₁ B hml hv
  obtain ⟨rfl, hZ⟩ := hv
  have hx := B.exec
  have hb := B.bytes
  have hr := B.returns
  have hlocks := B.notSynchronized
  have hts0 := atoms_spec (ws := nj_ws yJ0_charAt_5068e cJ0_charAt_5068e 2 (some .char)) B.pre
  have hts : ∀ w ∈ nl_WL, w.before ([.ref q, .int (Int32.ofNat k)] : List Value).toArray s = true := fun w hw => hts0 w (List.mem_cons_of_mem _ hw)
  have hown : s.vm.findClass yJ0_charAt_5068e.cls = some m.cls := findClass_of_methodNamed B.named
  have hl := lv_entry ([.ref q, .int (Int32.ofNat k)]) (n := 2) (Nat.le_of_ble_eq_true rfl)
  rw [lg_entry_eq]
  generalize (lg_sl ([.ref q, .int (Int32.ofNat k)]) ++ List.replicate (2 - (lg_sl ([.ref q, .int (Int32.ofNat k)])).length) Slot.unset).toArray = ls at hl ⊢
  have hl : lv_has ls 2 [(0, .ref q), (1, .int (Int32.ofNat k))] := hl
  have hS : va_S A s.heap s.heap [] := va_S.rf
  refine lv_aload_n hx hb dJ0_charAt_5068e_0 rfl (lv_at hl 0 rfl) ?_
  refine nj_callV (ex := []) (C := "java/lang/String") hx hb hml hown hts (nj_isLatin1 l A q d) (nl_w1 196 rfl rfl) (nl_w1 197 rfl rfl) (nl_w1 198 rfl rfl) (nl_w1 8 rfl rfl) (nl_w1 199 rfl rfl) rfl rfl (by decide +kernel) ⟨Nat.le_of_ble_eq_true rfl, Nat.le_of_ble_eq_true rfl⟩ hZ hS hl.1 (Nat.le_of_ble_eq_true rfl) dJ0_charAt_5068e_1 ⟨Nat.zero_le _, Nat.zero_le _⟩ ?_
  refine lv_if_eq hx hb dJ0_charAt_5068e_4 (tgt := 16) rfl (fun z => absurd z (by decide)) (fun _ => ?_)
  refine lv_aload_n hx hb dJ0_charAt_5068e_7 rfl (lv_at hl 0 rfl) ?_
  refine vk_getf (index := 9) hx hb hZ.2.2.2.2.1 hS hown (hts _ (nl_w4 236 rfl rfl)) (fun x h => h) dJ0_charAt_5068e_8 ?_
  refine lv_iload_n hx hb dJ0_charAt_5068e_11 rfl (lv_at hl 1 rfl) ?_
  refine W.callV (g := F0 m 12 ls [.int (Int32.ofNat k), .ref d]) (nj_runS (ex := [.ref d, .int (Int32.ofNat k)]) (rest := []) hx hb hml hown hts (nj_ch1 l A q d k hk) (nl_w1 200 rfl rfl) (nl_w1 201 rfl rfl) (nl_w1 9 rfl rfl) (nl_w1 202 rfl rfl) (by show _ ∧ _ ∧ _ = some 2; decide +kernel) ⟨Nat.le_of_ble_eq_true rfl, Nat.le_of_ble_eq_true rfl⟩ hZ hS hl.1 (Nat.le_of_ble_eq_true rfl) dJ0_charAt_5068e_12 ⟨Nat.zero_le _, Nat.zero_le _⟩) ?_
  refine W.eq (g2 := F0 m 15 ls [.int (nj_ch k)]) rfl ?_
  exact W.zret (ty := .char) hx hb hr (nj_ch_in k hk).1 (fun t ht hW => ⟨rfl, ht⟩) (fun z h => by cases h) dJ0_charAt_5068e_15
