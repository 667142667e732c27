/-! NightLotsModel(): whole. -/
def nm_0 : nl_O := fun _ _ => 0
def nm_1 : nl_O := vu (vu (vu (vu (vu nm_0 4 0 0) 5 0 14) 6 0 10) 3 0 4) 0 0 1
def nm_2 : nl_O := vu (vu (vu (vu (vu nm_1 4 1 1) 5 1 9) 6 1 22) 3 1 7) 0 0 2
def nm_3 : nl_O := vu (vu (vu (vu (vu nm_2 4 2 2) 5 2 20) 6 2 35) 3 2 12) 0 0 3
def nm_4 : nl_O := vu (vu (vu (vu (vu nm_3 4 3 3) 5 3 12) 6 3 41) 3 3 9) 0 0 4
def nm_5 : nl_O := vu (vu (vu (vu (vu nm_4 4 4 0) 5 4 8) 6 4 60) 3 4 5) 0 0 5
def nk_P6 (D : va_G) (Y : Nat → ClassId) (B M b : Nat) (L : Int) (h : nl_H) : Array Value → State → Prop := va_Pc [.ref M] (fun U => U.heap.size = M + 1 ∧ t_OB M (D.1 6) (nl_N 6) (D.2 6) U.heap (fun k => defaultValue (nl_tyf 6 k)) ∧ nl_K (nk_G D Y B M b L 0 0) U ∧ nl_Wd (nk_G D Y B M b L 0 0) h U U.heap)
def nk_Q6 (D : va_G) (Y : Nat → ClassId) (B M b : Nat) (L : Int) (h : nl_H) : Array Value → State → Outcome → State → Prop := fun _ st oc t => oc = .returned none ∧ (∃ V, bg V nm_5 ∧ nl_Wd (nk_G D Y B M b L 1 0) (sm h V) t t.heap) ∧ va_F (fun a => B ≤ a) st t
set_option maxHeartbeats 4000000 in
theorem nk_X6 (l : Launch) (D : va_G) (Y : Nat → ClassId) (B M b : Nat) (L : Int) (h : nl_H) (h0 : h 6 0 = fun _ _ => 0) (hM : B + 130 ≤ M) (hAp : nl_Ap (nk_G D Y B M b L 1 0)) : Met l yX6_init (nk_ws yX6_init cX6_init 1) { frames := 25, cells := 19, slots := 1227, locals := 2200 } (nk_P6 D Y B M b L h) (nk_Q6 D Y B M b L h) 19 1227 (fun a => B ≤ a) := by
  refine Met.ofW (cc := cX6_init) (maxL := 1) (ret := none) nl_pn6.1 rfl ?_
  intro p e s m args below meth c s₁ Bd hml hv
  obtain ⟨rfl, hz, hO, hK, hW0⟩ := hv
  have hx := Bd.exec
  have hb := Bd.bytes
  have hr := Bd.returns
  have hlocks := Bd.notSynchronized
  have hin : meth.name = "<init>" := (name_of_methodNamed Bd.named Bd.method).1
  have hown : s.vm.findClass (nl_R 6) = some m.cls := findClass_of_methodNamed Bd.named
  have hts0 := atoms_spec (ws := nk_ws yX6_init cX6_init 1) Bd.pre
  have hts : ∀ w ∈ nl_WL, w.before ([Value.ref M] : List Value).toArray s = true := fun w hw => hts0 w (List.mem_cons_of_mem _ hw)
  have X : nk_Cx p s m ([Value.ref M] : List Value).toArray c cX6_init 1 6 (nk_G D Y B M b L 1 0) := ⟨hx, hb, hml, hown, hts, hK⟩
  have hl := lv_entry ([.ref M]) (n := 1) (Nat.le_of_ble_eq_true rfl)
  rw [lg_entry_eq]
  generalize (lg_sl ([.ref M]) ++ List.replicate (1 - (lg_sl ([.ref M])).length) Slot.unset).toArray = ls at hl ⊢
  have hl : lv_has ls 1 [(0, .ref M)] := hl
  refine nk_alloc6 (R := { frames := 25, cells := 19, slots := 1227, locals := 2200 }) X hin hl hz hO (by decide) (by decide) (Nat.le_of_ble_eq_true rfl) (Nat.le_of_ble_eq_true rfl) (fun H locs z1 z2 z3 hS0 => ?_)
  have hW0 := nk_Wd.kept (H1 := H) (fun q hq => hS0.2.1 q (by omega) (fun z => by rcases z with z | z <;> omega)) hW0
  have hW := nk_Wd6 h0 z2 z3 hW0
  have hS : va_S (fun a => B ≤ a) s.heap H locs := ⟨hS0.1, fun q h1 h2 => hS0.2.1 q h1 (fun z => h2 (by rcases z with z | z <;> (show B ≤ q) <;> omega)), fun q hq => by rcases hS0.2.2 q hq with z | z <;> (show B ≤ q.base) <;> omega⟩
  have e0 : h = sm h nm_0 := by
    have := sm_self h
    rw [h0] at this
    exact this.symm
  rw [e0] at hW
  clear z1 z2 z3 hS0 hW0 hO
  refine lv_aload_n hx hb kX6_159 rfl (lv_at hl 0 rfl) ?_
  refine lv_iconst (v := Int32.ofInt 0) hx hb kX6_160 (by decide) ?_
  refine lv_bipush (v := Int32.ofInt 14) hx hb kX6_161 (by decide) ?_
  refine lv_bipush (v := Int32.ofInt 10) hx hb kX6_163 (by decide) ?_
  refine lv_iconst (v := Int32.ofInt 4) hx hb kX6_165 (by decide) ?_
  refine nk_vcall (l := l) X hAp (as := [vI 0, vI 14, vI 10, vI 4]) (o := 0) (c9 := 6) (n := 20) (rest := []) (sq_firstHouse (LS := L) (n := 20) (V := nm_0) (i := 0) (a := 0) (b := 14) (c := 10) (d := 4) (by omega) rfl (by omega)) rfl (nl_w3 121 rfl rfl) rfl rfl rfl (by decide) (show 0 < 1 by decide) (fun v hv => by simp only [List.mem_cons, List.not_mem_nil, or_false] at hv; rcases hv with rfl | rfl | rfl | rfl <;> trivial) (Nat.le_of_ble_eq_true rfl) (Nat.le_of_ble_eq_true rfl) ⟨Nat.le_of_ble_eq_true rfl, Nat.le_of_ble_eq_true rfl⟩ hW hS hl.1 (Nat.le_of_ble_eq_true rfl) kX6_166 (fun H0 locs0 hW hS => ?_)
  have hW : nl_Wd (nk_G D Y B M b L 1 0) (sm h nm_1) s H0 := hW
  refine W.eq (g2 := F0 m 169 ls []) rfl ?_
  refine lv_aload_n hx hb kX6_169 rfl (lv_at hl 0 rfl) ?_
  refine lv_iconst (v := Int32.ofInt 1) hx hb kX6_170 (by decide) ?_
  refine lv_bipush (v := Int32.ofInt 9) hx hb kX6_171 (by decide) ?_
  refine lv_bipush (v := Int32.ofInt 22) hx hb kX6_173 (by decide) ?_
  refine lv_bipush (v := Int32.ofInt 7) hx hb kX6_175 (by decide) ?_
  refine nk_vcall (l := l) X hAp (as := [vI 1, vI 9, vI 22, vI 7]) (o := 0) (c9 := 6) (n := 20) (rest := []) (sq_firstHouse (LS := L) (n := 20) (V := nm_1) (i := 1) (a := 1) (b := 9) (c := 22) (d := 7) (by omega) rfl (by omega)) rfl (nl_w3 121 rfl rfl) rfl rfl rfl (by decide) (show 0 < 1 by decide) (fun v hv => by simp only [List.mem_cons, List.not_mem_nil, or_false] at hv; rcases hv with rfl | rfl | rfl | rfl <;> trivial) (Nat.le_of_ble_eq_true rfl) (Nat.le_of_ble_eq_true rfl) ⟨Nat.le_of_ble_eq_true rfl, Nat.le_of_ble_eq_true rfl⟩ hW hS hl.1 (Nat.le_of_ble_eq_true rfl) kX6_177 (fun H1 locs1 hW hS => ?_)
  have hW : nl_Wd (nk_G D Y B M b L 1 0) (sm h nm_2) s H1 := hW
  refine W.eq (g2 := F0 m 180 ls []) rfl ?_
  refine lv_aload_n hx hb kX6_180 rfl (lv_at hl 0 rfl) ?_
  refine lv_iconst (v := Int32.ofInt 2) hx hb kX6_181 (by decide) ?_
  refine lv_bipush (v := Int32.ofInt 20) hx hb kX6_182 (by decide) ?_
  refine lv_bipush (v := Int32.ofInt 35) hx hb kX6_184 (by decide) ?_
  refine lv_bipush (v := Int32.ofInt 12) hx hb kX6_186 (by decide) ?_
  refine nk_vcall (l := l) X hAp (as := [vI 2, vI 20, vI 35, vI 12]) (o := 0) (c9 := 6) (n := 20) (rest := []) (sq_firstHouse (LS := L) (n := 20) (V := nm_2) (i := 2) (a := 2) (b := 20) (c := 35) (d := 12) (by omega) rfl (by omega)) rfl (nl_w3 121 rfl rfl) rfl rfl rfl (by decide) (show 0 < 1 by decide) (fun v hv => by simp only [List.mem_cons, List.not_mem_nil, or_false] at hv; rcases hv with rfl | rfl | rfl | rfl <;> trivial) (Nat.le_of_ble_eq_true rfl) (Nat.le_of_ble_eq_true rfl) ⟨Nat.le_of_ble_eq_true rfl, Nat.le_of_ble_eq_true rfl⟩ hW hS hl.1 (Nat.le_of_ble_eq_true rfl) kX6_188 (fun H2 locs2 hW hS => ?_)
  have hW : nl_Wd (nk_G D Y B M b L 1 0) (sm h nm_3) s H2 := hW
  refine W.eq (g2 := F0 m 191 ls []) rfl ?_
  refine lv_aload_n hx hb kX6_191 rfl (lv_at hl 0 rfl) ?_
  refine lv_iconst (v := Int32.ofInt 3) hx hb kX6_192 (by decide) ?_
  refine lv_bipush (v := Int32.ofInt 12) hx hb kX6_193 (by decide) ?_
  refine lv_bipush (v := Int32.ofInt 41) hx hb kX6_195 (by decide) ?_
  refine lv_bipush (v := Int32.ofInt 9) hx hb kX6_197 (by decide) ?_
  refine nk_vcall (l := l) X hAp (as := [vI 3, vI 12, vI 41, vI 9]) (o := 0) (c9 := 6) (n := 20) (rest := []) (sq_firstHouse (LS := L) (n := 20) (V := nm_3) (i := 3) (a := 3) (b := 12) (c := 41) (d := 9) (by omega) rfl (by omega)) rfl (nl_w3 121 rfl rfl) rfl rfl rfl (by decide) (show 0 < 1 by decide) (fun v hv => by simp only [List.mem_cons, List.not_mem_nil, or_false] at hv; rcases hv with rfl | rfl | rfl | rfl <;> trivial) (Nat.le_of_ble_eq_true rfl) (Nat.le_of_ble_eq_true rfl) ⟨Nat.le_of_ble_eq_true rfl, Nat.le_of_ble_eq_true rfl⟩ hW hS hl.1 (Nat.le_of_ble_eq_true rfl) kX6_199 (fun H3 locs3 hW hS => ?_)
  have hW : nl_Wd (nk_G D Y B M b L 1 0) (sm h nm_4) s H3 := hW
  refine W.eq (g2 := F0 m 202 ls []) rfl ?_
  refine lv_aload_n hx hb kX6_202 rfl (lv_at hl 0 rfl) ?_
  refine lv_iconst (v := Int32.ofInt 0) hx hb kX6_203 (by decide) ?_
  refine lv_bipush (v := Int32.ofInt 8) hx hb kX6_204 (by decide) ?_
  refine lv_bipush (v := Int32.ofInt 60) hx hb kX6_206 (by decide) ?_
  refine lv_iconst (v := Int32.ofInt 5) hx hb kX6_208 (by decide) ?_
  refine nk_vcall (l := l) X hAp (as := [vI 0, vI 8, vI 60, vI 5]) (o := 0) (c9 := 6) (n := 20) (rest := []) (sq_firstHouse (LS := L) (n := 20) (V := nm_4) (i := 4) (a := 0) (b := 8) (c := 60) (d := 5) (by omega) rfl (by omega)) rfl (nl_w3 121 rfl rfl) rfl rfl rfl (by decide) (show 0 < 1 by decide) (fun v hv => by simp only [List.mem_cons, List.not_mem_nil, or_false] at hv; rcases hv with rfl | rfl | rfl | rfl <;> trivial) (Nat.le_of_ble_eq_true rfl) (Nat.le_of_ble_eq_true rfl) ⟨Nat.le_of_ble_eq_true rfl, Nat.le_of_ble_eq_true rfl⟩ hW hS hl.1 (Nat.le_of_ble_eq_true rfl) kX6_209 (fun H4 locs4 hW hS => ?_)
  have hW : nl_Wd (nk_G D Y B M b L 1 0) (sm h nm_5) s H4 := hW
  refine W.eq (g2 := F0 m 212 ls []) rfl ?_
  obtain ⟨V, c9, hV⟩ := sq_begin (LS := L) (n := 20) (h := h) (V := nm_5) (by omega)
  refine lv_aload_n hx hb kX6_212 rfl (lv_at hl 0 rfl) ?_
  refine nk_vcall (l := l) X hAp (as := []) (o := 0) (c9 := 6) (n := 20) (rest := []) c9 rfl (nl_w3 125 rfl rfl) rfl rfl rfl (by decide) (show 0 < 1 by decide) (fun v hv => by cases hv) (Nat.le_of_ble_eq_true rfl) (Nat.le_of_ble_eq_true rfl) ⟨Nat.le_of_ble_eq_true rfl, Nat.le_of_ble_eq_true rfl⟩ hW hS hl.1 (Nat.le_of_ble_eq_true rfl) kX6_213 (fun H9 locs9 hW9 hS9 => ?_)
  refine W.eq (g2 := F0 m 216 ls []) rfl ?_
  exact W.vret hx hb hr (fun t ht hWt => ⟨rfl, ⟨V, hV, by rw [ht]; exact hW9.moved hWt.alike⟩, hS9.F ht⟩) hS9.2.2 kX6_216
