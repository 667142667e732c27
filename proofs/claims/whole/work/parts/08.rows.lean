/-- what holds in a method: the machine, its code, the tables' words, the world's tables, its room -/
def nl_Cx (p : Program) (l : Launch) (e : Env) (R : Room) (s : State) (m : MethodId) (args : Array Value) (c : Code) (cells slots : Nat) (cc : ByteArray) (nL ci n : Nat) (G : nl_G) : Prop :=
  p.tables.exec = Jvm.exec ∧ c.code = cc ∧ c.maxLocals = nL ∧ s.vm.findClass (nl_R ci) = some m.cls ∧ (∀ w ∈ nl_WL, w.before args s = true) ∧ nl_K G s ∧ nl_Ap G ∧ (cells ≤ R.cells ∧ slots ≤ R.slots) ∧ n + 1 ≤ R.frames ∧ 100 * (n + 1) ≤ R.locals
/-- from this place, these locals, this stack, this heap the machine comes to Q -/
def nl_Go (p : Program) (l : Launch) (e : Env) (R : Room) (s : State) (m : MethodId) (args : Array Value) (below : List Frame) (meth : Method) (c : Code) (cells slots : Nat) (Q : State → Prop) (G : nl_G) (nL : Nat) (pc : Nat) (L : nl_Ls) (S : List nl_V) (h : nl_H) : Prop :=
  ∀ (H : Heap) (locs : List Loc) (ls : Array Slot), nl_Wd G h s H → va_S (gF G) s.heap H locs → nl_lh G ls nL L → (∀ v ∈ S, nl_okv G v) → W p l e R s m args below meth c H locs cells slots Q (F0 m pc ls (S.map (nl_cv G)))
theorem nl_ok1 {G : nl_G} {v : nl_V} {S : List nl_V} (hv : nl_okv G v) (h : ∀ x ∈ S, nl_okv G x) : ∀ x ∈ v :: S, nl_okv G x := fun x hx => by
  rcases List.mem_cons.mp hx with h1 | h1
  · rw [h1]; exact hv
  · exact h x h1
theorem nl_okt {G : nl_G} {v : nl_V} {S : List nl_V} (h : ∀ x ∈ v :: S, nl_okv G x) : ∀ x ∈ S, nl_okv G x := fun x hx => h x (List.mem_cons_of_mem _ hx)
theorem nl_okh {G : nl_G} {v : nl_V} {S : List nl_V} (h : ∀ x ∈ v :: S, nl_okv G x) : nl_okv G v := h v List.mem_cons_self
section NLROWS
variable {p : Program} {l : Launch} {e : Env} {R : Room} {s : State} {m : MethodId} {args : Array Value} {below : List Frame} {meth : Method} {c : Code} {cells slots : Nat} {Q : State → Prop} {cc : ByteArray} {nL ci n ret : Nat} {G : nl_G} {den : nl_D} {go : Nat → nl_Ls → List nl_V → nl_H → Option nl_Re} {res : nl_Re} {pc : Nat} {L : nl_Ls} {S : List nl_V} {h : nl_H} {len a b c' : Nat}

theorem ns_iconst (X : nl_Cx p l e R s m args c cells slots cc nL ci n G) {k : Int} (hd : decode cc pc = .ok (.iconst k, len)) (hk : nl_ok ci nL (pc, .iconst k, len, a, b, c') = true) (hgo : ∀ pc' L' S' h', go pc' L' S' h' = some res → nl_Go p l e R s m args below meth c cells slots Q G nL pc' L' S' h')
    (E : nl_st (gL G) den ret pc L S h (.iconst k) len a b c' go = some res) : nl_Go p l e R s m args below meth c cells slots Q G nL pc L S h := by
  simp only [nl_ok, beq_iff_eq] at hk
  subst hk
  simp only [nl_st] at E
  intro H locs ls hW hS hL hV
  exact lv_iconst X.1 X.2.1 hd rfl (hgo _ _ _ _ E H locs ls hW hS hL (nl_ok1 trivial hV))
theorem ns_bipush (X : nl_Cx p l e R s m args c cells slots cc nL ci n G) {k : Int} (hd : decode cc pc = .ok (.bipush k, len)) (hk : nl_ok ci nL (pc, .bipush k, len, a, b, c') = true) (hgo : ∀ pc' L' S' h', go pc' L' S' h' = some res → nl_Go p l e R s m args below meth c cells slots Q G nL pc' L' S' h')
    (E : nl_st (gL G) den ret pc L S h (.bipush k) len a b c' go = some res) : nl_Go p l e R s m args below meth c cells slots Q G nL pc L S h := by
  simp only [nl_ok, Bool.and_eq_true, beq_iff_eq, decide_eq_true_eq] at hk
  obtain ⟨hk1, hk2⟩ := hk
  subst hk2
  have hk : (-128 ≤ k ∧ k < 128) ∧ True := ⟨hk1, trivial⟩
  simp only [nl_st] at E
  intro H locs ls hW hS hL hV
  exact lv_bipush X.1 X.2.1 hd (nx_i8 hk.1.1 hk.1.2) (hgo _ _ _ _ E H locs ls hW hS hL (nl_ok1 trivial hV))
theorem ns_sipush (X : nl_Cx p l e R s m args c cells slots cc nL ci n G) {k : Int} (hd : decode cc pc = .ok (.sipush k, len)) (hk : nl_ok ci nL (pc, .sipush k, len, a, b, c') = true) (hgo : ∀ pc' L' S' h', go pc' L' S' h' = some res → nl_Go p l e R s m args below meth c cells slots Q G nL pc' L' S' h')
    (E : nl_st (gL G) den ret pc L S h (.sipush k) len a b c' go = some res) : nl_Go p l e R s m args below meth c cells slots Q G nL pc L S h := by
  simp only [nl_ok, Bool.and_eq_true, beq_iff_eq, decide_eq_true_eq] at hk
  obtain ⟨hk1, hk2⟩ := hk
  subst hk2
  have hk : (-32768 ≤ k ∧ k < 32768) ∧ True := ⟨hk1, trivial⟩
  simp only [nl_st] at E
  intro H locs ls hW hS hL hV
  exact lv_sipush X.1 X.2.1 hd (nx_i16 hk.1.1 hk.1.2) (hgo _ _ _ _ E H locs ls hW hS hL (nl_ok1 trivial hV))
theorem ns_ldc (X : nl_Cx p l e R s m args c cells slots cc nL ci n G) {k : Nat} (hd : decode cc pc = .ok (.ldc k, len)) (hk : nl_ok ci nL (pc, .ldc k, len, a, b, c') = true) (hgo : ∀ pc' L' S' h', go pc' L' S' h' = some res → nl_Go p l e R s m args below meth c cells slots Q G nL pc' L' S' h')
    (E : nl_st (gL G) den ret pc L S h (.ldc k) len a b c' go = some res) : nl_Go p l e R s m args below meth c cells slots Q G nL pc L S h := by
  simp only [nl_ok, Bool.and_eq_true, beq_iff_eq, List.contains_iff_mem] at hk
  obtain ⟨hk1, hk2⟩ := hk
  subst hk2
  simp only [nl_st] at E
  intro H locs ls hW hS hL hV
  exact lv_ldc X.1 X.2.1 X.2.2.2.1 (X.2.2.2.2.1 _ (nl_KI_all _ hk1)) hd (hgo _ _ _ _ E H locs ls hW hS hL (nl_ok1 trivial hV))
theorem ns_ldc_w (X : nl_Cx p l e R s m args c cells slots cc nL ci n G) {k : Nat} (hd : decode cc pc = .ok (.ldc_w k, len)) (hk : nl_ok ci nL (pc, .ldc_w k, len, a, b, c') = true) (hgo : ∀ pc' L' S' h', go pc' L' S' h' = some res → nl_Go p l e R s m args below meth c cells slots Q G nL pc' L' S' h')
    (E : nl_st (gL G) den ret pc L S h (.ldc_w k) len a b c' go = some res) : nl_Go p l e R s m args below meth c cells slots Q G nL pc L S h := by
  simp only [nl_ok, Bool.and_eq_true, beq_iff_eq, List.contains_iff_mem] at hk
  obtain ⟨hk1, hk2⟩ := hk
  subst hk2
  simp only [nl_st] at E
  intro H locs ls hW hS hL hV
  exact lv_ldcw X.1 X.2.1 X.2.2.2.1 (X.2.2.2.2.1 _ (nl_KI_all _ hk1)) hd (hgo _ _ _ _ E H locs ls hW hS hL (nl_ok1 trivial hV))
theorem ns_ldc2 (X : nl_Cx p l e R s m args c cells slots cc nL ci n G) {k : Nat} (hd : decode cc pc = .ok (.ldc2_w k, len)) (hk : nl_ok ci nL (pc, .ldc2_w k, len, a, b, c') = true) (hgo : ∀ pc' L' S' h', go pc' L' S' h' = some res → nl_Go p l e R s m args below meth c cells slots Q G nL pc' L' S' h')
    (E : nl_st (gL G) den ret pc L S h (.ldc2_w k) len a b c' go = some res) : nl_Go p l e R s m args below meth c cells slots Q G nL pc L S h := by
  simp only [nl_ok, Bool.and_eq_true, beq_iff_eq, List.contains_iff_mem] at hk
  obtain ⟨hk1, hk2⟩ := hk
  subst hk2
  simp only [nl_st] at E
  intro H locs ls hW hS hL hV
  exact lv_ldc2 X.1 X.2.1 X.2.2.2.1 (X.2.2.2.2.1 _ (nl_KL_all _ hk1)) hd (hgo _ _ _ _ E H locs ls hW hS hL (nl_ok1 trivial hV))
theorem ns_lconst (X : nl_Cx p l e R s m args c cells slots cc nL ci n G) {k : Fin 2} (hd : decode cc pc = .ok (.lconst k, len)) (hk : nl_ok ci nL (pc, .lconst k, len, a, b, c') = true) (hgo : ∀ pc' L' S' h', go pc' L' S' h' = some res → nl_Go p l e R s m args below meth c cells slots Q G nL pc' L' S' h')
    (E : nl_st (gL G) den ret pc L S h (.lconst k) len a b c' go = some res) : nl_Go p l e R s m args below meth c cells slots Q G nL pc L S h := by
  simp only [nl_ok, beq_iff_eq] at hk
  subst hk
  simp only [nl_st] at E
  intro H locs ls hW hS hL hV
  exact lv_lconst X.1 X.2.1 hd (Int64.ofInt_eq_ofNat).symm (hgo _ _ _ _ E H locs ls hW hS hL (nl_ok1 trivial hV))
theorem ns_iload (X : nl_Cx p l e R s m args c cells slots cc nL ci n G) {k : Nat} (hd : decode cc pc = .ok (.iload k, len)) (hk : nl_ok ci nL (pc, .iload k, len, a, b, c') = true) (hgo : ∀ pc' L' S' h', go pc' L' S' h' = some res → nl_Go p l e R s m args below meth c cells slots Q G nL pc' L' S' h')
    (E : nl_st (gL G) den ret pc L S h (.iload k) len a b c' go = some res) : nl_Go p l e R s m args below meth c cells slots Q G nL pc L S h := by
  simp only [nl_ok, beq_iff_eq] at hk
  subst hk
  simp only [nl_st] at E
  split at E
  · rename_i x e1
    intro H locs ls hW hS hL hV
    exact lv_iload X.1 X.2.1 hd (hL.at e1) (hgo _ _ _ _ E H locs ls hW hS hL (nl_ok1 (hL.2 _ (nl_ld_mem L _ e1)) hV))
  · cases E
theorem ns_iload_n (X : nl_Cx p l e R s m args c cells slots cc nL ci n G) {k : Fin 4} (hd : decode cc pc = .ok (.iload_n k, len)) (hk : nl_ok ci nL (pc, .iload_n k, len, a, b, c') = true) (hgo : ∀ pc' L' S' h', go pc' L' S' h' = some res → nl_Go p l e R s m args below meth c cells slots Q G nL pc' L' S' h')
    (E : nl_st (gL G) den ret pc L S h (.iload_n k) len a b c' go = some res) : nl_Go p l e R s m args below meth c cells slots Q G nL pc L S h := by
  simp only [nl_ok, beq_iff_eq] at hk
  subst hk
  simp only [nl_st] at E
  split at E
  · rename_i x e1
    intro H locs ls hW hS hL hV
    exact lv_iload_n X.1 X.2.1 hd rfl (hL.at e1) (hgo _ _ _ _ E H locs ls hW hS hL (nl_ok1 (hL.2 _ (nl_ld_mem L _ e1)) hV))
  · cases E
theorem ns_lload (X : nl_Cx p l e R s m args c cells slots cc nL ci n G) {k : Nat} (hd : decode cc pc = .ok (.lload k, len)) (hk : nl_ok ci nL (pc, .lload k, len, a, b, c') = true) (hgo : ∀ pc' L' S' h', go pc' L' S' h' = some res → nl_Go p l e R s m args below meth c cells slots Q G nL pc' L' S' h')
    (E : nl_st (gL G) den ret pc L S h (.lload k) len a b c' go = some res) : nl_Go p l e R s m args below meth c cells slots Q G nL pc L S h := by
  simp only [nl_ok, beq_iff_eq] at hk
  subst hk
  simp only [nl_st] at E
  split at E
  · rename_i x e1
    intro H locs ls hW hS hL hV
    exact lv_lload X.1 X.2.1 hd (hL.at e1) (hgo _ _ _ _ E H locs ls hW hS hL (nl_ok1 (hL.2 _ (nl_ld_mem L _ e1)) hV))
  · cases E
theorem ns_lload_n (X : nl_Cx p l e R s m args c cells slots cc nL ci n G) {k : Fin 4} (hd : decode cc pc = .ok (.lload_n k, len)) (hk : nl_ok ci nL (pc, .lload_n k, len, a, b, c') = true) (hgo : ∀ pc' L' S' h', go pc' L' S' h' = some res → nl_Go p l e R s m args below meth c cells slots Q G nL pc' L' S' h')
    (E : nl_st (gL G) den ret pc L S h (.lload_n k) len a b c' go = some res) : nl_Go p l e R s m args below meth c cells slots Q G nL pc L S h := by
  simp only [nl_ok, beq_iff_eq] at hk
  subst hk
  simp only [nl_st] at E
  split at E
  · rename_i x e1
    intro H locs ls hW hS hL hV
    exact lv_lload_n X.1 X.2.1 hd rfl (hL.at e1) (hgo _ _ _ _ E H locs ls hW hS hL (nl_ok1 (hL.2 _ (nl_ld_mem L _ e1)) hV))
  · cases E
theorem ns_aload (X : nl_Cx p l e R s m args c cells slots cc nL ci n G) {k : Nat} (hd : decode cc pc = .ok (.aload k, len)) (hk : nl_ok ci nL (pc, .aload k, len, a, b, c') = true) (hgo : ∀ pc' L' S' h', go pc' L' S' h' = some res → nl_Go p l e R s m args below meth c cells slots Q G nL pc' L' S' h')
    (E : nl_st (gL G) den ret pc L S h (.aload k) len a b c' go = some res) : nl_Go p l e R s m args below meth c cells slots Q G nL pc L S h := by
  simp only [nl_ok, beq_iff_eq] at hk
  subst hk
  simp only [nl_st] at E
  split at E
  · rename_i r e1
    intro H locs ls hW hS hL hV
    have hv := hL.2 _ (nl_ld_mem L _ e1)
    have e2 := hL.at e1
    have K := hgo _ _ _ _ E H locs ls hW hS hL (nl_ok1 hv hV)
    obtain ⟨rc, ro, rk⟩ := r
    cases rk with
    | none => exact lv_aload X.1 X.2.1 hd  e2 K
    | some k9 => exact lv_aload X.1 X.2.1 hd  e2 K
  · cases E
theorem ns_aload_n (X : nl_Cx p l e R s m args c cells slots cc nL ci n G) {k : Fin 4} (hd : decode cc pc = .ok (.aload_n k, len)) (hk : nl_ok ci nL (pc, .aload_n k, len, a, b, c') = true) (hgo : ∀ pc' L' S' h', go pc' L' S' h' = some res → nl_Go p l e R s m args below meth c cells slots Q G nL pc' L' S' h')
    (E : nl_st (gL G) den ret pc L S h (.aload_n k) len a b c' go = some res) : nl_Go p l e R s m args below meth c cells slots Q G nL pc L S h := by
  simp only [nl_ok, beq_iff_eq] at hk
  subst hk
  simp only [nl_st] at E
  split at E
  · rename_i r e1
    intro H locs ls hW hS hL hV
    have hv := hL.2 _ (nl_ld_mem L _ e1)
    have e2 := hL.at e1
    have K := hgo _ _ _ _ E H locs ls hW hS hL (nl_ok1 hv hV)
    obtain ⟨rc, ro, rk⟩ := r
    cases rk with
    | none => exact lv_aload_n X.1 X.2.1 hd rfl e2 K
    | some k9 => exact lv_aload_n X.1 X.2.1 hd rfl e2 K
  · cases E
theorem ns_istore (X : nl_Cx p l e R s m args c cells slots cc nL ci n G) {k : Nat} (hd : decode cc pc = .ok (.istore k, len)) (hk : nl_ok ci nL (pc, .istore k, len, a, b, c') = true) (hgo : ∀ pc' L' S' h', go pc' L' S' h' = some res → nl_Go p l e R s m args below meth c cells slots Q G nL pc' L' S' h')
    (E : nl_st (gL G) den ret pc L S h (.istore k) len a b c' go = some res) : nl_Go p l e R s m args below meth c cells slots Q G nL pc L S h := by
  simp only [nl_ok, Bool.and_eq_true, beq_iff_eq, Nat.blt_eq] at hk
  obtain ⟨hk1, hk2⟩ := hk
  subst hk2
  simp only [nl_st] at E
  split at E
  · rename_i x S'
    intro H locs ls hW hS hL hV
    exact lv_istore X.1 X.2.1 hd  hL.1 hk1 rfl (fun ls' hs => hgo _ _ _ _ E H locs ls' hW hS (nl_lh_s1 (vI x) hL hs trivial) (nl_okt hV))
  · cases E
theorem ns_istore_n (X : nl_Cx p l e R s m args c cells slots cc nL ci n G) {k : Fin 4} (hd : decode cc pc = .ok (.istore_n k, len)) (hk : nl_ok ci nL (pc, .istore_n k, len, a, b, c') = true) (hgo : ∀ pc' L' S' h', go pc' L' S' h' = some res → nl_Go p l e R s m args below meth c cells slots Q G nL pc' L' S' h')
    (E : nl_st (gL G) den ret pc L S h (.istore_n k) len a b c' go = some res) : nl_Go p l e R s m args below meth c cells slots Q G nL pc L S h := by
  simp only [nl_ok, Bool.and_eq_true, beq_iff_eq, Nat.blt_eq] at hk
  obtain ⟨hk1, hk2⟩ := hk
  subst hk2
  simp only [nl_st] at E
  split at E
  · rename_i x S'
    intro H locs ls hW hS hL hV
    exact lv_istore_n X.1 X.2.1 hd rfl hL.1 hk1 rfl (fun ls' hs => hgo _ _ _ _ E H locs ls' hW hS (nl_lh_s1 (vI x) hL hs trivial) (nl_okt hV))
  · cases E
theorem ns_lstore (X : nl_Cx p l e R s m args c cells slots cc nL ci n G) {k : Nat} (hd : decode cc pc = .ok (.lstore k, len)) (hk : nl_ok ci nL (pc, .lstore k, len, a, b, c') = true) (hgo : ∀ pc' L' S' h', go pc' L' S' h' = some res → nl_Go p l e R s m args below meth c cells slots Q G nL pc' L' S' h')
    (E : nl_st (gL G) den ret pc L S h (.lstore k) len a b c' go = some res) : nl_Go p l e R s m args below meth c cells slots Q G nL pc L S h := by
  simp only [nl_ok, Bool.and_eq_true, beq_iff_eq, Nat.blt_eq] at hk
  obtain ⟨hk1, hk2⟩ := hk
  subst hk2
  simp only [nl_st] at E
  split at E
  · rename_i x S'
    cases hq : Nat.blt (k + 1) L.length with
    | true =>
      simp only [hq, cond_true] at E
      intro H locs ls hW hS hL hV
      exact lv_lstore X.1 X.2.1 hd  hL.1 hk1 rfl (fun ls' hs => hgo _ _ _ _ E H locs ls' hW hS (nl_lh_s2 (vL x) hL hs trivial) (nl_okt hV))
    | false =>
      simp only [hq, cond_false] at E
      cases E
  · cases E
theorem ns_lstore_n (X : nl_Cx p l e R s m args c cells slots cc nL ci n G) {k : Fin 4} (hd : decode cc pc = .ok (.lstore_n k, len)) (hk : nl_ok ci nL (pc, .lstore_n k, len, a, b, c') = true) (hgo : ∀ pc' L' S' h', go pc' L' S' h' = some res → nl_Go p l e R s m args below meth c cells slots Q G nL pc' L' S' h')
    (E : nl_st (gL G) den ret pc L S h (.lstore_n k) len a b c' go = some res) : nl_Go p l e R s m args below meth c cells slots Q G nL pc L S h := by
  simp only [nl_ok, Bool.and_eq_true, beq_iff_eq, Nat.blt_eq] at hk
  obtain ⟨hk1, hk2⟩ := hk
  subst hk2
  simp only [nl_st] at E
  split at E
  · rename_i x S'
    cases hq : Nat.blt ((k : Nat) + 1) L.length with
    | true =>
      simp only [hq, cond_true] at E
      intro H locs ls hW hS hL hV
      exact lv_lstore_n X.1 X.2.1 hd rfl hL.1 hk1 rfl (fun ls' hs => hgo _ _ _ _ E H locs ls' hW hS (nl_lh_s2 (vL x) hL hs trivial) (nl_okt hV))
    | false =>
      simp only [hq, cond_false] at E
      cases E
  · cases E
theorem ns_astore (X : nl_Cx p l e R s m args c cells slots cc nL ci n G) {k : Nat} (hd : decode cc pc = .ok (.astore k, len)) (hk : nl_ok ci nL (pc, .astore k, len, a, b, c') = true) (hgo : ∀ pc' L' S' h', go pc' L' S' h' = some res → nl_Go p l e R s m args below meth c cells slots Q G nL pc' L' S' h')
    (E : nl_st (gL G) den ret pc L S h (.astore k) len a b c' go = some res) : nl_Go p l e R s m args below meth c cells slots Q G nL pc L S h := by
  simp only [nl_ok, Bool.and_eq_true, beq_iff_eq, Nat.blt_eq] at hk
  obtain ⟨hk1, hk2⟩ := hk
  subst hk2
  simp only [nl_st] at E
  split at E
  · rename_i r S'
    intro H locs ls hW hS hL hV
    have hv := nl_okh hV
    obtain ⟨rc, ro, rk⟩ := r
    cases rk with
    | none => exact lv_astore X.1 X.2.1 hd  hL.1 hk1 rfl (fun ls' hs => hgo _ _ _ _ E H locs ls' hW hS (nl_lh_s1 (vO rc ro) hL hs hv) (nl_okt hV))
    | some k9 => exact lv_astore X.1 X.2.1 hd  hL.1 hk1 rfl (fun ls' hs => hgo _ _ _ _ E H locs ls' hW hS (nl_lh_s1 (vA rc ro k9) hL hs hv) (nl_okt hV))
  · cases E
theorem ns_astore_n (X : nl_Cx p l e R s m args c cells slots cc nL ci n G) {k : Fin 4} (hd : decode cc pc = .ok (.astore_n k, len)) (hk : nl_ok ci nL (pc, .astore_n k, len, a, b, c') = true) (hgo : ∀ pc' L' S' h', go pc' L' S' h' = some res → nl_Go p l e R s m args below meth c cells slots Q G nL pc' L' S' h')
    (E : nl_st (gL G) den ret pc L S h (.astore_n k) len a b c' go = some res) : nl_Go p l e R s m args below meth c cells slots Q G nL pc L S h := by
  simp only [nl_ok, Bool.and_eq_true, beq_iff_eq, Nat.blt_eq] at hk
  obtain ⟨hk1, hk2⟩ := hk
  subst hk2
  simp only [nl_st] at E
  split at E
  · rename_i r S'
    intro H locs ls hW hS hL hV
    have hv := nl_okh hV
    obtain ⟨rc, ro, rk⟩ := r
    cases rk with
    | none => exact lv_astore_n X.1 X.2.1 hd rfl hL.1 hk1 rfl (fun ls' hs => hgo _ _ _ _ E H locs ls' hW hS (nl_lh_s1 (vO rc ro) hL hs hv) (nl_okt hV))
    | some k9 => exact lv_astore_n X.1 X.2.1 hd rfl hL.1 hk1 rfl (fun ls' hs => hgo _ _ _ _ E H locs ls' hW hS (nl_lh_s1 (vA rc ro k9) hL hs hv) (nl_okt hV))
  · cases E
theorem ns_iinc (X : nl_Cx p l e R s m args c cells slots cc nL ci n G) {k : Nat} {d : Int} (hd : decode cc pc = .ok (.iinc k d, len)) (hk : nl_ok ci nL (pc, .iinc k d, len, a, b, c') = true) (hgo : ∀ pc' L' S' h', go pc' L' S' h' = some res → nl_Go p l e R s m args below meth c cells slots Q G nL pc' L' S' h')
    (E : nl_st (gL G) den ret pc L S h (.iinc k d) len a b c' go = some res) : nl_Go p l e R s m args below meth c cells slots Q G nL pc L S h := by
  simp only [nl_ok, Bool.and_eq_true, beq_iff_eq, Nat.blt_eq] at hk
  obtain ⟨hk1, hk2⟩ := hk
  subst hk2
  simp only [nl_st] at E
  split at E
  · rename_i x e1
    intro H locs ls hW hS hL hV
    have hm := nl_tl_mem (G := G) L k 0 e1
    rw [Nat.zero_add] at hm
    obtain ⟨k9, hk9⟩ := List.getElem?_of_mem hm
    exact lv_iinc (v := Int32.ofInt (x + d)) X.1 X.2.1 hd hL.1 hk9 (by rw [Int32.ofInt_add]) hk1 rfl (fun ls' hs => hgo _ _ _ _ E H locs ls' hW hS (nl_lh_s1 (vI (x + d)) hL hs trivial) hV)
  · cases E
theorem ns_iadd (X : nl_Cx p l e R s m args c cells slots cc nL ci n G) (hd : decode cc pc = .ok (.iadd, len)) (hk : nl_ok ci nL (pc, .iadd, len, a, b, c') = true) (hgo : ∀ pc' L' S' h', go pc' L' S' h' = some res → nl_Go p l e R s m args below meth c cells slots Q G nL pc' L' S' h')
    (E : nl_st (gL G) den ret pc L S h (.iadd) len a b c' go = some res) : nl_Go p l e R s m args below meth c cells slots Q G nL pc L S h := by
  simp only [nl_ok, beq_iff_eq] at hk
  subst hk
  simp only [nl_st] at E
  split at E
  · rename_i y x S'
    intro H locs ls hW hS hL hV
    refine lv_iadd X.1 X.2.1 hd ?_
    rw [← Int32.ofInt_add]
    exact hgo _ _ _ _ E H locs ls hW hS hL (nl_ok1 trivial (nl_okt (nl_okt hV)))
  · cases E
theorem ns_isub (X : nl_Cx p l e R s m args c cells slots cc nL ci n G) (hd : decode cc pc = .ok (.isub, len)) (hk : nl_ok ci nL (pc, .isub, len, a, b, c') = true) (hgo : ∀ pc' L' S' h', go pc' L' S' h' = some res → nl_Go p l e R s m args below meth c cells slots Q G nL pc' L' S' h')
    (E : nl_st (gL G) den ret pc L S h (.isub) len a b c' go = some res) : nl_Go p l e R s m args below meth c cells slots Q G nL pc L S h := by
  simp only [nl_ok, beq_iff_eq] at hk
  subst hk
  simp only [nl_st] at E
  split at E
  · rename_i y x S'
    intro H locs ls hW hS hL hV
    refine lv_isub X.1 X.2.1 hd ?_
    rw [← Int32.ofInt_sub]
    exact hgo _ _ _ _ E H locs ls hW hS hL (nl_ok1 trivial (nl_okt (nl_okt hV)))
  · cases E
theorem ns_imul (X : nl_Cx p l e R s m args c cells slots cc nL ci n G) (hd : decode cc pc = .ok (.imul, len)) (hk : nl_ok ci nL (pc, .imul, len, a, b, c') = true) (hgo : ∀ pc' L' S' h', go pc' L' S' h' = some res → nl_Go p l e R s m args below meth c cells slots Q G nL pc' L' S' h')
    (E : nl_st (gL G) den ret pc L S h (.imul) len a b c' go = some res) : nl_Go p l e R s m args below meth c cells slots Q G nL pc L S h := by
  simp only [nl_ok, beq_iff_eq] at hk
  subst hk
  simp only [nl_st] at E
  split at E
  · rename_i y x S'
    intro H locs ls hW hS hL hV
    refine lv_imul X.1 X.2.1 hd ?_
    rw [← Int32.ofInt_mul]
    exact hgo _ _ _ _ E H locs ls hW hS hL (nl_ok1 trivial (nl_okt (nl_okt hV)))
  · cases E
theorem ns_ladd (X : nl_Cx p l e R s m args c cells slots cc nL ci n G) (hd : decode cc pc = .ok (.ladd, len)) (hk : nl_ok ci nL (pc, .ladd, len, a, b, c') = true) (hgo : ∀ pc' L' S' h', go pc' L' S' h' = some res → nl_Go p l e R s m args below meth c cells slots Q G nL pc' L' S' h')
    (E : nl_st (gL G) den ret pc L S h (.ladd) len a b c' go = some res) : nl_Go p l e R s m args below meth c cells slots Q G nL pc L S h := by
  simp only [nl_ok, beq_iff_eq] at hk
  subst hk
  simp only [nl_st] at E
  split at E
  · rename_i y x S'
    intro H locs ls hW hS hL hV
    refine lv_ladd X.1 X.2.1 hd ?_
    rw [← Int64.ofInt_add]
    exact hgo _ _ _ _ E H locs ls hW hS hL (nl_ok1 trivial (nl_okt (nl_okt hV)))
  · cases E
theorem ns_lmul (X : nl_Cx p l e R s m args c cells slots cc nL ci n G) (hd : decode cc pc = .ok (.lmul, len)) (hk : nl_ok ci nL (pc, .lmul, len, a, b, c') = true) (hgo : ∀ pc' L' S' h', go pc' L' S' h' = some res → nl_Go p l e R s m args below meth c cells slots Q G nL pc' L' S' h')
    (E : nl_st (gL G) den ret pc L S h (.lmul) len a b c' go = some res) : nl_Go p l e R s m args below meth c cells slots Q G nL pc L S h := by
  simp only [nl_ok, beq_iff_eq] at hk
  subst hk
  simp only [nl_st] at E
  split at E
  · rename_i y x S'
    intro H locs ls hW hS hL hV
    refine lv_lmul X.1 X.2.1 hd ?_
    rw [← Int64.ofInt_mul]
    exact hgo _ _ _ _ E H locs ls hW hS hL (nl_ok1 trivial (nl_okt (nl_okt hV)))
  · cases E
theorem ns_lcmp (X : nl_Cx p l e R s m args c cells slots cc nL ci n G) (hd : decode cc pc = .ok (.lcmp, len)) (hk : nl_ok ci nL (pc, .lcmp, len, a, b, c') = true) (hgo : ∀ pc' L' S' h', go pc' L' S' h' = some res → nl_Go p l e R s m args below meth c cells slots Q G nL pc' L' S' h')
    (E : nl_st (gL G) den ret pc L S h (.lcmp) len a b c' go = some res) : nl_Go p l e R s m args below meth c cells slots Q G nL pc L S h := by
  simp only [nl_ok, beq_iff_eq] at hk
  subst hk
  simp only [nl_st] at E
  split at E
  · rename_i y x S'
    intro H locs ls hW hS hL hV
    refine W.lcmp X.1 X.2.1 hd ?_
    rw [nx_cmp]
    exact hgo _ _ _ _ E H locs ls hW hS hL (nl_ok1 trivial (nl_okt (nl_okt hV)))
  · cases E
theorem ns_ineg (X : nl_Cx p l e R s m args c cells slots cc nL ci n G) (hd : decode cc pc = .ok (.ineg, len)) (hk : nl_ok ci nL (pc, .ineg, len, a, b, c') = true) (hgo : ∀ pc' L' S' h', go pc' L' S' h' = some res → nl_Go p l e R s m args below meth c cells slots Q G nL pc' L' S' h')
    (E : nl_st (gL G) den ret pc L S h (.ineg) len a b c' go = some res) : nl_Go p l e R s m args below meth c cells slots Q G nL pc L S h := by
  simp only [nl_ok, beq_iff_eq] at hk
  subst hk
  simp only [nl_st] at E
  split at E
  · rename_i x S'
    intro H locs ls hW hS hL hV
    refine lv_ineg X.1 X.2.1 hd ?_
    rw [← Int32.ofInt_neg]
    exact hgo _ _ _ _ E H locs ls hW hS hL (nl_ok1 trivial (nl_okt hV))
  · cases E
theorem ns_idiv (X : nl_Cx p l e R s m args c cells slots cc nL ci n G) (hd : decode cc pc = .ok (.idiv, len)) (hk : nl_ok ci nL (pc, .idiv, len, a, b, c') = true) (hgo : ∀ pc' L' S' h', go pc' L' S' h' = some res → nl_Go p l e R s m args below meth c cells slots Q G nL pc' L' S' h')
    (E : nl_st (gL G) den ret pc L S h (.idiv) len a b c' go = some res) : nl_Go p l e R s m args below meth c cells slots Q G nL pc L S h := by
  simp only [nl_ok, beq_iff_eq] at hk
  subst hk
  simp only [nl_st] at E
  split at E
  · rename_i y x S'
    split at E
    · cases E
    · rename_i hy
      intro H locs ls hW hS hL hV
      refine lv_idiv X.1 X.2.1 hd (fun q => hy ((nx_eq0 _).mp q)) ?_
      rw [nx_div]
      exact hgo _ _ _ _ E H locs ls hW hS hL (nl_ok1 trivial (nl_okt (nl_okt hV)))
  · cases E
theorem ns_irem (X : nl_Cx p l e R s m args c cells slots cc nL ci n G) (hd : decode cc pc = .ok (.irem, len)) (hk : nl_ok ci nL (pc, .irem, len, a, b, c') = true) (hgo : ∀ pc' L' S' h', go pc' L' S' h' = some res → nl_Go p l e R s m args below meth c cells slots Q G nL pc' L' S' h')
    (E : nl_st (gL G) den ret pc L S h (.irem) len a b c' go = some res) : nl_Go p l e R s m args below meth c cells slots Q G nL pc L S h := by
  simp only [nl_ok, beq_iff_eq] at hk
  subst hk
  simp only [nl_st] at E
  split at E
  · rename_i y x S'
    split at E
    · cases E
    · rename_i hy
      intro H locs ls hW hS hL hV
      refine lv_irem X.1 X.2.1 hd (fun q => hy ((nx_eq0 _).mp q)) ?_
      rw [nx_rem]
      exact hgo _ _ _ _ E H locs ls hW hS hL (nl_ok1 trivial (nl_okt (nl_okt hV)))
  · cases E
theorem ns_ldiv (X : nl_Cx p l e R s m args c cells slots cc nL ci n G) (hd : decode cc pc = .ok (.ldiv, len)) (hk : nl_ok ci nL (pc, .ldiv, len, a, b, c') = true) (hgo : ∀ pc' L' S' h', go pc' L' S' h' = some res → nl_Go p l e R s m args below meth c cells slots Q G nL pc' L' S' h')
    (E : nl_st (gL G) den ret pc L S h (.ldiv) len a b c' go = some res) : nl_Go p l e R s m args below meth c cells slots Q G nL pc L S h := by
  simp only [nl_ok, beq_iff_eq] at hk
  subst hk
  simp only [nl_st] at E
  split at E
  · rename_i y x S'
    split at E
    · cases E
    · rename_i hy
      intro H locs ls hW hS hL hV
      refine lv_ldiv X.1 X.2.1 hd (fun q => hy ((nx_eq0L _).mp q)) ?_
      rw [nx_divL]
      exact hgo _ _ _ _ E H locs ls hW hS hL (nl_ok1 trivial (nl_okt (nl_okt hV)))
  · cases E
theorem ns_lrem (X : nl_Cx p l e R s m args c cells slots cc nL ci n G) (hd : decode cc pc = .ok (.lrem, len)) (hk : nl_ok ci nL (pc, .lrem, len, a, b, c') = true) (hgo : ∀ pc' L' S' h', go pc' L' S' h' = some res → nl_Go p l e R s m args below meth c cells slots Q G nL pc' L' S' h')
    (E : nl_st (gL G) den ret pc L S h (.lrem) len a b c' go = some res) : nl_Go p l e R s m args below meth c cells slots Q G nL pc L S h := by
  simp only [nl_ok, beq_iff_eq] at hk
  subst hk
  simp only [nl_st] at E
  split at E
  · rename_i y x S'
    split at E
    · cases E
    · rename_i hy
      intro H locs ls hW hS hL hV
      refine lv_lrem X.1 X.2.1 hd (fun q => hy ((nx_eq0L _).mp q)) ?_
      rw [nx_remL]
      exact hgo _ _ _ _ E H locs ls hW hS hL (nl_ok1 trivial (nl_okt (nl_okt hV)))
  · cases E
theorem ns_ishl (X : nl_Cx p l e R s m args c cells slots cc nL ci n G) (hd : decode cc pc = .ok (.ishl, len)) (hk : nl_ok ci nL (pc, .ishl, len, a, b, c') = true) (hgo : ∀ pc' L' S' h', go pc' L' S' h' = some res → nl_Go p l e R s m args below meth c cells slots Q G nL pc' L' S' h')
    (E : nl_st (gL G) den ret pc L S h (.ishl) len a b c' go = some res) : nl_Go p l e R s m args below meth c cells slots Q G nL pc L S h := by
  simp only [nl_ok, beq_iff_eq] at hk
  subst hk
  simp only [nl_st] at E
  split at E
  · rename_i y x S'
    split at E
    · rename_i hy
      intro H locs ls hW hS hL hV
      refine lv_ishl X.1 X.2.1 hd ?_
      rw [nx_shl hy]
      exact hgo _ _ _ _ E H locs ls hW hS hL (nl_ok1 trivial (nl_okt (nl_okt hV)))
    · cases E
  · cases E
theorem ns_ishr (X : nl_Cx p l e R s m args c cells slots cc nL ci n G) (hd : decode cc pc = .ok (.ishr, len)) (hk : nl_ok ci nL (pc, .ishr, len, a, b, c') = true) (hgo : ∀ pc' L' S' h', go pc' L' S' h' = some res → nl_Go p l e R s m args below meth c cells slots Q G nL pc' L' S' h')
    (E : nl_st (gL G) den ret pc L S h (.ishr) len a b c' go = some res) : nl_Go p l e R s m args below meth c cells slots Q G nL pc L S h := by
  simp only [nl_ok, beq_iff_eq] at hk
  subst hk
  simp only [nl_st] at E
  split at E
  · rename_i y x S'
    split at E
    · rename_i hy
      intro H locs ls hW hS hL hV
      refine lv_ishr X.1 X.2.1 hd ?_
      rw [nx_shr hy]
      exact hgo _ _ _ _ E H locs ls hW hS hL (nl_ok1 trivial (nl_okt (nl_okt hV)))
    · cases E
  · cases E
theorem ns_iushr (X : nl_Cx p l e R s m args c cells slots cc nL ci n G) (hd : decode cc pc = .ok (.iushr, len)) (hk : nl_ok ci nL (pc, .iushr, len, a, b, c') = true) (hgo : ∀ pc' L' S' h', go pc' L' S' h' = some res → nl_Go p l e R s m args below meth c cells slots Q G nL pc' L' S' h')
    (E : nl_st (gL G) den ret pc L S h (.iushr) len a b c' go = some res) : nl_Go p l e R s m args below meth c cells slots Q G nL pc L S h := by
  simp only [nl_ok, beq_iff_eq] at hk
  subst hk
  simp only [nl_st] at E
  split at E
  · rename_i y x S'
    split at E
    · rename_i hy
      intro H locs ls hW hS hL hV
      refine lv_iushr X.1 X.2.1 hd (nx_ushr hy.1 hy.2) ?_
      exact hgo _ _ _ _ E H locs ls hW hS hL (nl_ok1 trivial (nl_okt (nl_okt hV)))
    · cases E
  · cases E
theorem ns_iand (X : nl_Cx p l e R s m args c cells slots cc nL ci n G) (hd : decode cc pc = .ok (.iand, len)) (hk : nl_ok ci nL (pc, .iand, len, a, b, c') = true) (hgo : ∀ pc' L' S' h', go pc' L' S' h' = some res → nl_Go p l e R s m args below meth c cells slots Q G nL pc' L' S' h')
    (E : nl_st (gL G) den ret pc L S h (.iand) len a b c' go = some res) : nl_Go p l e R s m args below meth c cells slots Q G nL pc L S h := by
  simp only [nl_ok, beq_iff_eq] at hk
  subst hk
  simp only [nl_st] at E
  split at E
  · rename_i y x S'
    split at E
    · rename_i hy
      intro H locs ls hW hS hL hV
      refine lv_iand X.1 X.2.1 hd ?_
      rw [nx_and hy.1 hy.2]
      exact hgo _ _ _ _ E H locs ls hW hS hL (nl_ok1 trivial (nl_okt (nl_okt hV)))
    · cases E
  · cases E
theorem ns_ior (X : nl_Cx p l e R s m args c cells slots cc nL ci n G) (hd : decode cc pc = .ok (.ior, len)) (hk : nl_ok ci nL (pc, .ior, len, a, b, c') = true) (hgo : ∀ pc' L' S' h', go pc' L' S' h' = some res → nl_Go p l e R s m args below meth c cells slots Q G nL pc' L' S' h')
    (E : nl_st (gL G) den ret pc L S h (.ior) len a b c' go = some res) : nl_Go p l e R s m args below meth c cells slots Q G nL pc L S h := by
  simp only [nl_ok, beq_iff_eq] at hk
  subst hk
  simp only [nl_st] at E
  split at E
  · rename_i y x S'
    split at E
    · rename_i hy
      intro H locs ls hW hS hL hV
      refine lv_ior X.1 X.2.1 hd ?_
      rw [nx_or hy.1 hy.2]
      exact hgo _ _ _ _ E H locs ls hW hS hL (nl_ok1 trivial (nl_okt (nl_okt hV)))
    · cases E
  · cases E
theorem ns_i2l (X : nl_Cx p l e R s m args c cells slots cc nL ci n G) (hd : decode cc pc = .ok (.i2l, len)) (hk : nl_ok ci nL (pc, .i2l, len, a, b, c') = true) (hgo : ∀ pc' L' S' h', go pc' L' S' h' = some res → nl_Go p l e R s m args below meth c cells slots Q G nL pc' L' S' h')
    (E : nl_st (gL G) den ret pc L S h (.i2l) len a b c' go = some res) : nl_Go p l e R s m args below meth c cells slots Q G nL pc L S h := by
  simp only [nl_ok, beq_iff_eq] at hk
  subst hk
  simp only [nl_st] at E
  split at E
  · rename_i x S'
    intro H locs ls hW hS hL hV
    exact lv_i2l X.1 X.2.1 hd (nx_i2l x) (hgo _ _ _ _ E H locs ls hW hS hL (nl_ok1 trivial (nl_okt hV)))
  · cases E
theorem ns_l2i (X : nl_Cx p l e R s m args c cells slots cc nL ci n G) (hd : decode cc pc = .ok (.l2i, len)) (hk : nl_ok ci nL (pc, .l2i, len, a, b, c') = true) (hgo : ∀ pc' L' S' h', go pc' L' S' h' = some res → nl_Go p l e R s m args below meth c cells slots Q G nL pc' L' S' h')
    (E : nl_st (gL G) den ret pc L S h (.l2i) len a b c' go = some res) : nl_Go p l e R s m args below meth c cells slots Q G nL pc L S h := by
  simp only [nl_ok, beq_iff_eq] at hk
  subst hk
  simp only [nl_st] at E
  split at E
  · rename_i x S'
    intro H locs ls hW hS hL hV
    exact lv_l2i X.1 X.2.1 hd (nx_l2i x) (hgo _ _ _ _ E H locs ls hW hS hL (nl_ok1 trivial (nl_okt hV)))
  · cases E
theorem ns_dup (X : nl_Cx p l e R s m args c cells slots cc nL ci n G) (hd : decode cc pc = .ok (.dup, len)) (hk : nl_ok ci nL (pc, .dup, len, a, b, c') = true) (hgo : ∀ pc' L' S' h', go pc' L' S' h' = some res → nl_Go p l e R s m args below meth c cells slots Q G nL pc' L' S' h')
    (E : nl_st (gL G) den ret pc L S h (.dup) len a b c' go = some res) : nl_Go p l e R s m args below meth c cells slots Q G nL pc L S h := by
  simp only [nl_ok, beq_iff_eq] at hk
  subst hk
  simp only [nl_st] at E
  split at E
  · rename_i v S'
    cases hv : nl_isL v with
    | true => simp only [hv, cond_true] at E; cases E
    | false =>
      simp only [hv, cond_false] at E
      intro H locs ls hW hS hL hV
      exact lv_dup X.1 X.2.1 hd (by rw [nl_cat, hv]; rfl) (hgo _ _ _ _ E H locs ls hW hS hL (nl_ok1 (nl_okh hV) hV))
  · cases E
theorem ns_dup2 (X : nl_Cx p l e R s m args c cells slots cc nL ci n G) (hd : decode cc pc = .ok (.dup2, len)) (hk : nl_ok ci nL (pc, .dup2, len, a, b, c') = true) (hgo : ∀ pc' L' S' h', go pc' L' S' h' = some res → nl_Go p l e R s m args below meth c cells slots Q G nL pc' L' S' h')
    (E : nl_st (gL G) den ret pc L S h (.dup2) len a b c' go = some res) : nl_Go p l e R s m args below meth c cells slots Q G nL pc L S h := by
  simp only [nl_ok, beq_iff_eq] at hk
  subst hk
  simp only [nl_st] at E
  split at E
  · rename_i v w S'
    cases hv : nl_isL v with
    | true => simp only [hv, Bool.true_or, cond_true] at E; cases E
    | false =>
      cases hw : nl_isL w with
      | true => simp only [hv, hw, Bool.false_or, cond_true] at E; cases E
      | false =>
        simp only [hv, hw, Bool.false_or, cond_false] at E
        intro H locs ls hW hS hL hV
        exact lv_dup2_11 X.1 X.2.1 hd (by rw [nl_cat, hv]; rfl) (by rw [nl_cat, hw]; rfl) (hgo _ _ _ _ E H locs ls hW hS hL (nl_ok1 (nl_okh hV) (nl_ok1 (nl_okh (nl_okt hV)) hV)))
  · cases E
theorem ns_pop (X : nl_Cx p l e R s m args c cells slots cc nL ci n G) (hd : decode cc pc = .ok (.pop, len)) (hk : nl_ok ci nL (pc, .pop, len, a, b, c') = true) (hgo : ∀ pc' L' S' h', go pc' L' S' h' = some res → nl_Go p l e R s m args below meth c cells slots Q G nL pc' L' S' h')
    (E : nl_st (gL G) den ret pc L S h (.pop) len a b c' go = some res) : nl_Go p l e R s m args below meth c cells slots Q G nL pc L S h := by
  simp only [nl_ok, beq_iff_eq] at hk
  subst hk
  simp only [nl_st] at E
  split at E
  · rename_i v S'
    cases hv : nl_isL v with
    | true => simp only [hv, cond_true] at E; cases E
    | false =>
      simp only [hv, cond_false] at E
      intro H locs ls hW hS hL hV
      exact lv_pop X.1 X.2.1 hd (by rw [nl_cat, hv]; rfl) (hgo _ _ _ _ E H locs ls hW hS hL (nl_okt hV))
  · cases E
theorem ns_goto (X : nl_Cx p l e R s m args c cells slots cc nL ci n G) {off : Int} (hd : decode cc pc = .ok (.goto off, len)) (hk : nl_ok ci nL (pc, .goto off, len, a, b, c') = true) (hgo : ∀ pc' L' S' h', go pc' L' S' h' = some res → nl_Go p l e R s m args below meth c cells slots Q G nL pc' L' S' h')
    (E : nl_st (gL G) den ret pc L S h (.goto off) len a b c' go = some res) : nl_Go p l e R s m args below meth c cells slots Q G nL pc L S h := by
  simp only [nl_ok, Bool.and_eq_true, beq_iff_eq, decide_eq_true_eq] at hk
  obtain ⟨hk1, hk2⟩ := hk
  subst hk2
  simp only [nl_st] at E
  intro H locs ls hW hS hL hV
  exact lv_goto X.1 X.2.1 hd hk1 (hgo _ _ _ _ E H locs ls hW hS hL hV)
theorem ns_if_icmp (X : nl_Cx p l e R s m args c cells slots cc nL ci n G) {op : ClassFile.Cond} {off : Int} (hd : decode cc pc = .ok (.if_icmp op off, len)) (hk : nl_ok ci nL (pc, .if_icmp op off, len, a, b, c') = true) (hgo : ∀ pc' L' S' h', go pc' L' S' h' = some res → nl_Go p l e R s m args below meth c cells slots Q G nL pc' L' S' h')
    (E : nl_st (gL G) den ret pc L S h (.if_icmp op off) len a b c' go = some res) : nl_Go p l e R s m args below meth c cells slots Q G nL pc L S h := by
  simp only [nl_ok, Bool.and_eq_true, beq_iff_eq, decide_eq_true_eq] at hk
  obtain ⟨hk1, hk2⟩ := hk
  subst hk2
  simp only [nl_st] at E
  split at E
  · rename_i y x S'
    intro H locs ls hW hS hL hV
    cases op with
    | eq =>
      simp only [nl_br] at E
      refine lv_icmp_eq X.1 X.2.1 hd hk1 (fun q => ?_) (fun q => ?_)
      · rw [if_pos ((nx_eq _ _).mp q)] at E
        exact hgo _ _ _ _ E H locs ls hW hS hL (nl_okt (nl_okt hV))
      · rw [if_neg (fun z => q ((nx_eq _ _).mpr z))] at E
        exact hgo _ _ _ _ E H locs ls hW hS hL (nl_okt (nl_okt hV))
    | lt =>
      simp only [nl_br] at E
      refine lv_icmp_lt X.1 X.2.1 hd hk1 (fun q => ?_) (fun q => ?_)
      · rw [if_pos ((nx_lt _ _).mp q)] at E
        exact hgo _ _ _ _ E H locs ls hW hS hL (nl_okt (nl_okt hV))
      · rw [if_neg (fun z => q ((nx_lt _ _).mpr z))] at E
        exact hgo _ _ _ _ E H locs ls hW hS hL (nl_okt (nl_okt hV))
    | ge =>
      simp only [nl_br] at E
      refine lv_icmp_ge X.1 X.2.1 hd hk1 (fun q => ?_) (fun q => ?_)
      · rw [if_pos ((nx_le _ _).mp q)] at E
        exact hgo _ _ _ _ E H locs ls hW hS hL (nl_okt (nl_okt hV))
      · rw [if_neg (fun z => q ((nx_le _ _).mpr z))] at E
        exact hgo _ _ _ _ E H locs ls hW hS hL (nl_okt (nl_okt hV))
    | gt =>
      simp only [nl_br] at E
      refine lv_icmp_gt X.1 X.2.1 hd hk1 (fun q => ?_) (fun q => ?_)
      · rw [if_pos ((nx_lt _ _).mp q)] at E
        exact hgo _ _ _ _ E H locs ls hW hS hL (nl_okt (nl_okt hV))
      · rw [if_neg (fun z => q ((nx_lt _ _).mpr z))] at E
        exact hgo _ _ _ _ E H locs ls hW hS hL (nl_okt (nl_okt hV))
    | le =>
      simp only [nl_br] at E
      refine lv_icmp_le X.1 X.2.1 hd hk1 (fun q => ?_) (fun q => ?_)
      · rw [if_pos ((nx_le _ _).mp q)] at E
        exact hgo _ _ _ _ E H locs ls hW hS hL (nl_okt (nl_okt hV))
      · rw [if_neg (fun z => q ((nx_le _ _).mpr z))] at E
        exact hgo _ _ _ _ E H locs ls hW hS hL (nl_okt (nl_okt hV))
    | ne =>
      simp only [nl_br] at E
      refine lv_icmp_ne X.1 X.2.1 hd hk1 (fun q => ?_) (fun q => ?_)
      · rw [if_neg (fun z => q ((nx_eq _ _).mpr z))] at E
        exact hgo _ _ _ _ E H locs ls hW hS hL (nl_okt (nl_okt hV))
      · rw [if_pos ((nx_eq _ _).mp q)] at E
        exact hgo _ _ _ _ E H locs ls hW hS hL (nl_okt (nl_okt hV))
  · cases E
theorem ns_ifCond (X : nl_Cx p l e R s m args c cells slots cc nL ci n G) {op : ClassFile.Cond} {off : Int} (hd : decode cc pc = .ok (.ifCond op off, len)) (hk : nl_ok ci nL (pc, .ifCond op off, len, a, b, c') = true) (hgo : ∀ pc' L' S' h', go pc' L' S' h' = some res → nl_Go p l e R s m args below meth c cells slots Q G nL pc' L' S' h')
    (E : nl_st (gL G) den ret pc L S h (.ifCond op off) len a b c' go = some res) : nl_Go p l e R s m args below meth c cells slots Q G nL pc L S h := by
  simp only [nl_ok, Bool.and_eq_true, beq_iff_eq, decide_eq_true_eq] at hk
  obtain ⟨hk1, hk2⟩ := hk
  subst hk2
  simp only [nl_st] at E
  split at E
  · rename_i x S'
    intro H locs ls hW hS hL hV
    cases op with
    | eq =>
      simp only [nl_br] at E
      refine lv_if_eq X.1 X.2.1 hd hk1 (fun q => ?_) (fun q => ?_)
      · rw [if_pos ((nx_eq0 _).mp q)] at E
        exact hgo _ _ _ _ E H locs ls hW hS hL (nl_okt hV)
      · rw [if_neg (fun z => q ((nx_eq0 _).mpr z))] at E
        exact hgo _ _ _ _ E H locs ls hW hS hL (nl_okt hV)
    | lt =>
      simp only [nl_br] at E
      refine lv_if_lt X.1 X.2.1 hd hk1 (fun q => ?_) (fun q => ?_)
      · rw [if_pos ((nx_lt0 _).mp q)] at E
        exact hgo _ _ _ _ E H locs ls hW hS hL (nl_okt hV)
      · rw [if_neg (fun z => q ((nx_lt0 _).mpr z))] at E
        exact hgo _ _ _ _ E H locs ls hW hS hL (nl_okt hV)
    | ge =>
      simp only [nl_br] at E
      refine lv_if_ge X.1 X.2.1 hd hk1 (fun q => ?_) (fun q => ?_)
      · rw [if_pos ((nx_0le _).mp q)] at E
        exact hgo _ _ _ _ E H locs ls hW hS hL (nl_okt hV)
      · rw [if_neg (fun z => q ((nx_0le _).mpr z))] at E
        exact hgo _ _ _ _ E H locs ls hW hS hL (nl_okt hV)
    | gt =>
      simp only [nl_br] at E
      refine lv_if_gt X.1 X.2.1 hd hk1 (fun q => ?_) (fun q => ?_)
      · rw [if_pos ((nx_0lt _).mp q)] at E
        exact hgo _ _ _ _ E H locs ls hW hS hL (nl_okt hV)
      · rw [if_neg (fun z => q ((nx_0lt _).mpr z))] at E
        exact hgo _ _ _ _ E H locs ls hW hS hL (nl_okt hV)
    | le =>
      simp only [nl_br] at E
      refine lv_if_le X.1 X.2.1 hd hk1 (fun q => ?_) (fun q => ?_)
      · rw [if_pos ((nx_le0 _).mp q)] at E
        exact hgo _ _ _ _ E H locs ls hW hS hL (nl_okt hV)
      · rw [if_neg (fun z => q ((nx_le0 _).mpr z))] at E
        exact hgo _ _ _ _ E H locs ls hW hS hL (nl_okt hV)
    | ne =>
      simp only [nl_br] at E
      refine lv_if_ne X.1 X.2.1 hd hk1 (fun q => ?_) (fun q => ?_)
      · rw [if_neg (fun z => q ((nx_eq0 _).mpr z))] at E
        exact hgo _ _ _ _ E H locs ls hW hS hL (nl_okt hV)
      · rw [if_pos ((nx_eq0 _).mp q)] at E
        exact hgo _ _ _ _ E H locs ls hW hS hL (nl_okt hV)
  · cases E
end NLROWS
