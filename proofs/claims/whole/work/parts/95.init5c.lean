/-! NightLots(): its contract. -/
def nk_P5 (G : nl_G) (B q d : Nat) (V0 : Nat → Value) : Array Value → State → Prop := va_Pc [.ref B] (fun U => U.heap.size = B + 1 ∧ t_OB B ((gD G).1 5) (nl_N 5) ((gD G).2 5) U.heap V0 ∧ nk_K G U ∧ nj_Z (fun a => B ≤ a) q d U U.heap ∧ vk_R RX5 60 nt_t q U)
def nk_Q5 (G : nl_G) (B : Nat) : Array Value → State → Outcome → State → Prop := fun _ st oc t => oc = .returned none ∧ (∃ P, pEq7 P (tP (nt_h 59) 59) ∧ nl_Wd G (nt_f P) t t.heap) ∧ B + 130 ≤ t.heap.size ∧ va_F (fun a => B ≤ a) st t
set_option maxHeartbeats 4000000 in
theorem nk_X5 (l : Launch) (D : va_G) (Y : Nat → ClassId) (B M b : Nat) (L : Int) (q d : Nat) (V0 : Nat → Value) (hAp : nl_Ap (nk_G D Y B M b L 0 0)) : Met l yX5_init (nk_ws yX5_init cX5_init 2) { frames := 30, cells := 129, slots := 1787, locals := 2600 } (nk_P5 (nk_G D Y B M b L 0 0) B q d V0) (nk_Q5 (nk_G D Y B M b L 0 0) B) 129 1787 (fun a => B ≤ a) := by
  refine Met.ofW (cc := cX5_init) (maxL := 2) (ret := none) nl_pn5.1 rfl ?_
  intro p e s m args below meth c s₁ Bd hml hv
  obtain ⟨rfl, hz, hO, hK, hZ, hR⟩ := hv
  have hx := Bd.exec
  have hb := Bd.bytes
  have hr := Bd.returns
  have hlocks := Bd.notSynchronized
  have hin : meth.name = "<init>" := (name_of_methodNamed Bd.named Bd.method).1
  have hown : s.vm.findClass (nl_R 5) = some m.cls := findClass_of_methodNamed Bd.named
  have hts0 := atoms_spec (ws := nk_ws yX5_init cX5_init 2) Bd.pre
  have hts : ∀ w ∈ nl_WL, w.before ([Value.ref B] : List Value).toArray s = true := fun w hw => hts0 w (List.mem_cons_of_mem _ hw)
  have X : nk_Cx p s m ([Value.ref B] : List Value).toArray c cX5_init 2 5 (nk_G D Y B M b L 0 0) := ⟨hx, hb, hml, hown, hts, hK.1⟩
  have hl := lv_entry ([.ref B]) (n := 2) (Nat.le_of_ble_eq_true rfl)
  rw [lg_entry_eq]
  generalize (lg_sl ([.ref B]) ++ List.replicate (2 - (lg_sl ([.ref B])).length) Slot.unset).toArray = ls at hl ⊢
  have hl : lv_has ls 2 [(0, .ref B)] := hl
  refine nk_alloc5 (R := { frames := 30, cells := 129, slots := 1787, locals := 2600 }) X hK hin hl hz hO (by decide) (by decide) (Nat.le_of_ble_eq_true rfl) (Nat.le_of_ble_eq_true rfl) (fun H locs hF hS => ?_)
  have hW := nk_Wd0 (s := s) hF
  have hH : B + 130 ≤ H.size := Nat.le_of_eq hF.1.symm
  refine lv_iconst (v := 0) hx hb kX5_98 (by decide) ?_
  refine lv_istore_n hx hb kX5_99 rfl hl (by decide) rfl (fun ls' hl' => ?_)
  have e0 : nk_h0 = nt_h 0 := by unfold nt_h; rw [nt_0, so_self]
  rw [e0] at hW
  have hsz9 : ∀ (H9 : Heap) (h9 : nl_H), nl_Wd (nk_G D Y B M b L 0 0) h9 s H9 → B + 130 ≤ H9.size := fun H9 h9 w => by
    have w1 := w.2.1 0 0 4 (by decide) (show 0 < 1 by decide) (by decide) (by decide)
    have w2 : nk_a B M b 0 0 4 < H9.size := (Array.getElem?_eq_some_iff.mp w1).1
    have w3 : B + 125 + 4 < H9.size := w2
    omega
  refine nk_loop5 (R := { frames := 30, cells := 129, slots := 1787, locals := 2600 }) (l := l) X hAp hZ hR (by decide) (Nat.le_of_ble_eq_true rfl) (Nat.le_of_ble_eq_true rfl) (Nat.le_of_ble_eq_true rfl) (fun H locs ls w hW hS hl => ?_) 59 0 H locs ls' rfl hW hS hl'
  have t9 := nt_lay
  obtain ⟨P, hP, c1⟩ := pu_lay1 (LS := L) (n := 20) (by omega) (h := nt_h 59) (L := 59) rfl nt_tok (by rw [t9.2.1.1]; decide) ⟨t9.1, by rw [t9.2.1.1]; decide, by rw [t9.2.1.1, t9.2.1.2]⟩
  refine lv_aload_n hx hb kX5_126 rfl (lv_at hl 1 rfl) ?_
  refine nk_vcall (l := l) X hAp (as := []) (o := 0) (c9 := 5) (n := 20) (rest := []) c1 rfl (nl_w1 237 rfl rfl) rfl rfl rfl (by decide) (show 0 < 1 by decide) (fun v hv => by cases hv) (Nat.le_of_ble_eq_true rfl) (Nat.le_of_ble_eq_true rfl) ⟨Nat.le_of_ble_eq_true rfl, Nat.le_of_ble_eq_true rfl⟩ hW hS hl.1 (Nat.le_of_ble_eq_true rfl) kX5_127 (fun H1 locs1 hW1 hS1 => ?_)
  refine W.eq (g2 := F0 m 130 ls [.int (Int32.ofInt (tP (nt_h 59) 59 6 0))]) rfl ?_
  refine lv_pop hx hb kX5_130 rfl ?_
  refine lv_aload_n hx hb kX5_131 rfl (lv_at hl 1 rfl) ?_
  refine nk_vcall (l := l) X hAp (as := []) (o := 0) (c9 := 5) (n := 20) (rest := []) (pu_wipe (LS := L) (n := 20) (by omega)) rfl (nl_w2 41 rfl rfl) rfl rfl rfl (by decide) (show 0 < 1 by decide) (fun v hv => by cases hv) (Nat.le_of_ble_eq_true rfl) (Nat.le_of_ble_eq_true rfl) ⟨Nat.le_of_ble_eq_true rfl, Nat.le_of_ble_eq_true rfl⟩ hW1 hS1 hl.1 (Nat.le_of_ble_eq_true rfl) kX5_132 (fun H2 locs2 hW2 hS2 => ?_)
  refine W.eq (g2 := F0 m 135 ls [.int (Int32.ofInt (hLay (nt_h 59) P 5 0 1 0))]) rfl ?_
  refine lv_pop hx hb kX5_135 rfl ?_
  exact W.vret hx hb hr (fun t ht hWt => ⟨rfl, ⟨P, hP, by rw [ht]; exact hW2.moved hWt.alike⟩, by rw [ht]; exact hsz9 H2 _ hW2, hS2.F ht⟩) hS2.2.2 kX5_136
