/-! Constructors: what they need beside the tables; a read, a new object, a call. -/
def nk_K (G : nl_G) (s : State) : Prop := nl_K G s ∧ va_Nw (.methodLinkNest RX5 19 yX1_init RX5) s ∧ va_Nw (.methodLinkNest RX5 26 yX4_init RX5) s ∧ va_Nw (.methodLinkNest RX2 25 yX4_init RX5) s ∧ va_Nw (.methodLinkNest RX5 48 yX3_init RX5) s ∧ va_Nw (.methodLinkNest RX5 55 yX0_init RX5) s ∧ va_AO RX4 s
theorem nk_K.warm {G : nl_G} {s U : State} (hW : s.WarmedH U.vm) (h : nk_K G s) : nk_K G U := ⟨h.1.warm hW, h.2.1.warmM hW, h.2.2.1.warmM hW, h.2.2.2.1.warmM hW, h.2.2.2.2.1.warmM hW, h.2.2.2.2.2.1.warmM hW, h.2.2.2.2.2.2.moved hW.alike⟩
theorem nl_K.call {G : nl_G} {U : State} {g : JFrame} {mk : MethodId} {a : Array Value} (h : nl_K G U) : nl_K G (U.calling g mk a) := ⟨va_K.moved (u := U) (U := U.calling g mk a) (Vm.Alike.refl U.vm) h.1, va_Nw.same (u := U) (U := U.calling g mk a) rfl rfl h.2⟩
theorem nk_K.call {G : nl_G} {U : State} {g : JFrame} {mk : MethodId} {a : Array Value} (h : nk_K G U) : nk_K G (U.calling g mk a) :=
  ⟨h.1.call, va_Nw.same (u := U) (U := U.calling g mk a) rfl rfl h.2.1, va_Nw.same (u := U) (U := U.calling g mk a) rfl rfl h.2.2.1, va_Nw.same (u := U) (U := U.calling g mk a) rfl rfl h.2.2.2.1, va_Nw.same (u := U) (U := U.calling g mk a) rfl rfl h.2.2.2.2.1, va_Nw.same (u := U) (U := U.calling g mk a) rfl rfl h.2.2.2.2.2.1, va_AO.moved (u := U) (U := U.calling g mk a) (Vm.Alike.refl U.vm) h.2.2.2.2.2.2⟩
def nk_Pk (G : nl_G) (c a sz : Nat) (ex : List Value) (V0 : Nat → Value) : Array Value → State → Prop := va_Pc (.ref a :: ex) (fun U => U.heap.size = sz ∧ t_OB a ((gD G).1 c) (nl_N c) ((gD G).2 c) U.heap V0 ∧ nk_K G U ∧ a < sz)
theorem nk_Pc_pre {G : nl_G} {c a sz : Nat} {ex : List Value} {V0 : Nat → Value} {s : State} {H : Heap} (hz : H.size = sz) (hO : t_OB a ((gD G).1 c) (nl_N c) ((gD G).2 c) H V0) (hK : nl_K G s) (ha : a < sz) : PreS s H (nk_Pc G c a sz ex V0) (.ref a :: ex) :=
  ⟨fun A U g mk h => ⟨h.1, h.2.1, h.2.2.1, h.2.2.2.1.call, h.2.2.2.2⟩, fun U hU hWU => ⟨rfl, by rw [hU]; exact hz, by rw [hU]; exact hO, hK.warm hWU, ha⟩⟩
theorem nk_Pk_pre {G : nl_G} {c a sz : Nat} {ex : List Value} {V0 : Nat → Value} {s : State} {H : Heap} (hz : H.size = sz) (hO : t_OB a ((gD G).1 c) (nl_N c) ((gD G).2 c) H V0) (hK : nk_K G s) (ha : a < sz) : PreS s H (nk_Pk G c a sz ex V0) (.ref a :: ex) :=
  ⟨fun A U g mk h => ⟨h.1, h.2.1, h.2.2.1, h.2.2.2.1.call, h.2.2.2.2⟩, fun U hU hWU => ⟨rfl, by rw [hU]; exact hz, by rw [hU]; exact hO, hK.warm hWU, ha⟩⟩
theorem nk_good {y : MethodName} {cc : ByteArray} {n : Nat} (h : Cond.code y cc n none ∈ nl_WL) : GoodIn nl_WL (nk_ws y cc n) := fun w hw => by
  rcases List.mem_cons.mp hw with e | e
  · rw [e]; exact nl_goodW h
  · exact nl_goodW e
section NKR
variable {p : Program} {l : Launch} {e : Env} {R : Room} {s : State} {m : MethodId} {args : Array Value} {below : List Frame} {meth : Method} {c : Code} {cells slots : Nat} {Q : State → Prop} {cc : ByteArray} {nL ci : Nat} {G : nl_G} {pc : Nat} {ls : Array Slot} {rest st0 : List Value} {H H0 : Heap} {locs : List Loc} {a : Nat} {V : Nat → Value} {A : Nat → Prop}
/-- a field is read -/
theorem nk_get (X : nk_Cx p s m args c cc nL ci G) {c2 k idx : Nat} (hc : c2 < 7) (hk : k < nl_N c2) (hl : (ci, idx, c2, k) ∈ nl_FL) (ho : (nl_T c2 k).1 = nl_R c2) (hO : t_OB a ((gD G).1 c2) (nl_N c2) ((gD G).2 c2) H V) {v : Value} (hv : V k = v) (hdg : decode cc pc = .ok (.getfield idx, 3))
    (kk : W p l e R s m args below meth c H locs cells slots Q (F0 m (pc + 3) ls (v :: rest))) : W p l e R s m args below meth c H locs cells slots Q (F0 m pc ls (.ref a :: rest)) := by
  obtain ⟨hx, hbb, hml, hown, hts, hK, -⟩ := X
  obtain ⟨cell, q1, q2, q3, q4⟩ := hO
  obtain ⟨hSl, hfc, kC, hkC, hkind⟩ := hK.1 c2 _ (nl_cs_at hc)
  obtain ⟨cf, kf, fi, f, hi, hsl⟩ := hSl k hk
  have hi2 : s.fieldFound? (nl_R c2) (nl_T c2 k).2.1 (nl_T c2 k).2.2.1 = some (cf, kf, fi, f) := by rw [← ho]; exact hi
  refine W.getf hx hbb hown (hts _ (nl_FL_all _ hl)) hi2 (u_facts hfc hkC (u_lays hts (nl_lays c2 hc) hk) hi).1 q1 (by rw [q3]; exact fun h => by cases h) (v := v) ?_ rfl rfl hdg kk
  rw [hsl, q4 k hk, hv]
/-- an object is made -/
theorem nk_new (X : nk_Cx p s m args c cc nL ci G) {c2 idx N : Nat} (hc : c2 < 7) (hw1 : Cond.classLink (nl_R ci) idx (nl_R c2) ∈ nl_WL) (hw2 : Cond.instantiable (nl_R c2) N ∈ nl_WL) (hw3 : Cond.initialized (nl_R c2) ∈ nl_WL) (hcells : cells + 1 ≤ R.cells) (hslots : slots + N ≤ R.slots) (hdg : decode cc pc = .ok (.new idx, 3)) (hS : va_S A H0 H locs)
    (kk : ∀ H1 : Heap, H1.size = H.size + 1 → (∀ q, q < H.size → H1[q]? = H[q]?) → t_OB H.size ((gD G).1 c2) (nl_N c2) ((gD G).2 c2) H1 (fun k => defaultValue (nl_tyf c2 k)) → va_S A H0 H1 locs → W p l e R s m args below meth c H1 locs (cells + 1) (slots + N) Q (F0 m (pc + 3) ls (.ref H.size :: rest))) : W p l e R s m args below meth c H locs cells slots Q (F0 m pc ls rest) := by
  obtain ⟨hx, hbb, hml, hown, hts, hK, -⟩ := X
  have hKn := hK.1 c2 _ (nl_cs_at hc)
  refine W.newcK hx hbb hown (hts _ hw1) (hts _ hw2) (hts _ hw3) rfl hdg hcells hslots hKn.2.1 rfl fun H1 kC hkC e1 z1 o1 => ?_
  exact kk H1 z1 o1 (u_born (nl_tyf c2) hts (nl_lays c2 hc) hKn hkC e1 (nl_tyok c2 hc)) ⟨by have := hS.1; omega, fun q h1 h2 => (o1 q (Nat.lt_of_lt_of_le h1 hS.1)).trans (hS.2.1 q h1 h2), hS.2.2⟩
/-- a constructor has been called -/
theorem nk_call {b mc ms : Nat} {Y : Heap → Prop} {a9 : Array Value} (hr : va_Run p l e R s m args below meth c H locs cells slots mc ms (F0 m pc ls st0) rest (nk_Qc b H.size Y a9) (nk_A b H.size)) (hS : va_S A H0 H locs) (hA : ∀ q, nk_A b H.size q → A q)
    (kk : ∀ (H1 : Heap) (locs1 : List Loc), Y H1 → (∀ q, q < H.size → q ≠ b → H1[q]? = H[q]?) → va_S A H0 H1 locs1 → W p l e R s m args below meth c H1 locs1 (cells + mc) (slots + ms) Q (F0 m (pc + 3) ls rest)) : W p l e R s m args below meth c H locs cells slots Q (F0 m pc ls st0) := by
  intro T hT X
  obtain ⟨v, st₀, t, T', L, h0, X', hL, e1, e2, ⟨hv, hY, hz, hk⟩, st⟩ := hr T hT X
  cases hv
  rw [h0] at hz hk
  obtain ⟨t2, a1, b1⟩ := kk T'.heap (locs ++ L) (by rw [e1]; exact hY) (fun q h1 h2 => by
      rw [e1]
      exact hk q h1 (fun z => by rcases z with z | z <;> omega))
    ⟨Nat.le_trans hS.1 (by rw [e1]; exact hz), fun q h1 h2 => by
      rw [e1, hk q (Nat.lt_of_lt_of_le h1 hS.1) (fun z => h2 (hA q z))]; exact hS.2.1 q h1 h2, fun q hq => by
      rcases List.mem_append.mp hq with h | h
      · exact hS.2.2 q h
      · exact hA _ (hL q h)⟩ T' rfl X'
  exact ⟨t2, st t2 a1, b1⟩
/-- over a nest mate's link -/
theorem nk_runN (X : nk_Cx p s m args c cc nL ci G) {idx maxL mc ms : Nat} {y : MethodName} {bytes : ByteArray} {rm : Room} {Pc : Array Value → State → Prop} {Qc : Array Value → State → Outcome → State → Prop} {free : Nat → Prop} {b : Nat} {ex : List Value} (hM : Met l y (nk_ws y bytes maxL) rm Pc Qc mc ms free) (hp : PreS s H Pc (.ref b :: ex)) (hcode : Cond.code y bytes maxL none ∈ nl_WL) (hini : Cond.initialized y.cls ∈ nl_WL) (hinst : Cond.instanceMethod y ∈ nl_WL) (hy : y.name = "<init>")
    (hd : y.cls ≠ "java/lang/invoke/MethodHandle" ∧ y.cls ≠ "java/lang/invoke/VarHandle" ∧ (parseMethodDescriptor y.desc).map (fun d => d.parameters.length) = some ex.length) (hrc : rm.cells = mc) (hrs : rm.slots = ms) (hNw : va_Nw (.methodLinkNest (nl_R ci) idx y RX5) s) (hR : rm.frames + 1 ≤ R.frames ∧ 8 + (maxL + 11) + rm.locals ≤ R.locals) (hsz : ls.size = nL) (hcat : (rest.map fun v => v.category).sum ≤ 8) (hdg : decode cc pc = .ok (.invokespecial idx, 3)) (hf : cells + mc ≤ R.cells ∧ slots + ms ≤ R.slots) :
    va_Run p l e R s m args below meth c H locs cells slots mc ms (F0 m pc ls (ex.reverse ++ .ref b :: rest)) rest (Qc (Value.ref b :: ex).toArray) free := by
  obtain ⟨hx, hbb, hml, hown, hts, hK⟩ := X
  have cw := va_cnB (R := R) (rm := rm) (own := nl_R ci) (index := idx) (y := y) (host := RX5) (mc := mc) (ms := ms) ex.length hts (nk_good hcode) rfl hrc hrs hNw (hts _ hini) hd hR
  exact va_runIN (y := y) (rest := rest) ⟨hx, hbb, hml, hown, hts⟩ hM ⟨cw, hy, hts _ hinst⟩ hp rfl rfl hsz rfl (by show 2 * 0 + _ ≤ 8; omega) hdg hf
/-- over an ordinary link -/
theorem nk_runI (X : nk_Cx p s m args c cc nL ci G) {idx maxL mc ms : Nat} {y : MethodName} {bytes : ByteArray} {rm : Room} {Pc : Array Value → State → Prop} {Qc : Array Value → State → Outcome → State → Prop} {free : Nat → Prop} {b : Nat} {ex : List Value} (hM : Met l y (nk_ws y bytes maxL) rm Pc Qc mc ms free) (hp : PreS s H Pc (.ref b :: ex)) (hcode : Cond.code y bytes maxL none ∈ nl_WL) (hini : Cond.initialized y.cls ∈ nl_WL) (hinst : Cond.instanceMethod y ∈ nl_WL) (hy : y.name = "<init>")
    (hd : y.cls ≠ "java/lang/invoke/MethodHandle" ∧ y.cls ≠ "java/lang/invoke/VarHandle" ∧ (parseMethodDescriptor y.desc).map (fun d => d.parameters.length) = some ex.length) (hrc : rm.cells = mc) (hrs : rm.slots = ms) (hlk : Cond.methodLink (nl_R ci) idx y ∈ nl_WL) (hR : rm.frames + 1 ≤ R.frames ∧ 8 + (maxL + 11) + rm.locals ≤ R.locals) (hsz : ls.size = nL) (hcat : (rest.map fun v => v.category).sum ≤ 8) (hdg : decode cc pc = .ok (.invokespecial idx, 3)) (hf : cells + mc ≤ R.cells ∧ slots + ms ≤ R.slots) :
    va_Run p l e R s m args below meth c H locs cells slots mc ms (F0 m pc ls (ex.reverse ++ .ref b :: rest)) rest (Qc (Value.ref b :: ex).toArray) free := by
  obtain ⟨hx, hbb, hml, hown, hts, hK⟩ := X
  have cw := cwI (R := R) (rm := rm) (own := nl_R ci) (index := idx) (y := y) (mc := mc) (ms := ms) ex.length hts (nk_good hcode) rfl hrc hrs (hts _ hini) (hts _ hlk) (hts _ hinst) hy hd hR
  exact va_runI (y := y) (rest := rest) ⟨hx, hbb, hml, hown, hts⟩ hM cw hp rfl rfl hsz rfl (by show 2 * 0 + _ ≤ 8; omega) hdg hf
end NKR
