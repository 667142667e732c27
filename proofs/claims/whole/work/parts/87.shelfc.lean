/-! Shelf(int): whole. -/
set_option maxHeartbeats 4000000 in
theorem nk_X2 (l : Launch) (G : nl_G) (a sz : Nat) (V0 : Nat → Value) (N : Nat) (nv : Int32) (hn0 : ¬ nv < 0) (hn1 : ¬ nv < 1) (hN : nv.toNatClampNeg = N) (hN8 : N ≤ 8) : Met l yX2_init (nk_ws yX2_init cX2_init 3) { frames := 3, cells := 1 + 9 * N, slots := N + 109 * N, locals := 70 } (nk_Pk G 2 a sz [.int nv] V0) (nk_Qc a sz (nk_S G a sz N N)) (1 + 9 * N) (N + 109 * N) (nk_A a sz) := by
  refine Met.ofW (cc := cX2_init) (maxL := 3) (ret := none) nl_pn2.1 rfl ?_
  intro p e s m args below meth c s₁ B hml hv
  obtain ⟨rfl, hsz, hO, hK, ha⟩ := hv
  have hx := B.exec
  have hb := B.bytes
  have hr := B.returns
  have hlocks := B.notSynchronized
  have hin : meth.name = "<init>" := (name_of_methodNamed B.named B.method).1
  have hown : s.vm.findClass (nl_R 2) = some m.cls := findClass_of_methodNamed B.named
  have hts0 := atoms_spec (ws := nk_ws yX2_init cX2_init 3) B.pre
  have hts : ∀ w ∈ nl_WL, w.before ([Value.ref a, .int nv] : List Value).toArray s = true := fun w hw => hts0 w (List.mem_cons_of_mem _ hw)
  have X : nk_Cx p s m ([Value.ref a, .int nv] : List Value).toArray c cX2_init 3 2 G := ⟨hx, hb, hml, hown, hts, hK.1⟩
  have hl := lv_entry ([.ref a, .int nv]) (n := 3) (Nat.le_of_ble_eq_true rfl)
  rw [lg_entry_eq]
  generalize (lg_sl ([.ref a, .int nv]) ++ List.replicate (3 - (lg_sl ([.ref a, .int nv])).length) Slot.unset).toArray = ls at hl ⊢
  have hl : lv_has ls 3 [(0, .ref a), (1, .int nv)] := hl
  have hS : va_S (nk_A a sz) s.heap s.heap [] := va_S.rf
  refine lv_aload_n hx hb kX2_0 rfl (lv_at hl 0 rfl) ?_
  refine W.objInit hx hb hown (hts _ (nl_w1 118 rfl rfl)) (hts _ (nl_w1 20 rfl rfl)) (hts _ (nl_w1 21 rfl rfl)) rfl (by rw [hml]; exact hl.1) rfl kX2_1 (Nat.le_of_ble_eq_true rfl) (Nat.le_of_ble_eq_true rfl) ?_
  refine W.eq (g2 := F0 m 4 ls []) rfl ?_
  refine lv_aload_n hx hb kX2_4 rfl (lv_at hl 0 rfl) ?_
  refine lv_iconst (v := 0) hx hb kX2_5 (by decide) ?_
  refine nk_put0 X hin (k := 1) (idx := 7) (by decide) (by decide) (by decide) rfl (ty := .int) (by decide +kernel) rfl rfl kX2_6 hO hS (Or.inl rfl) fun H1 locs1 hO1 z1 o1 hS1 => ?_
  refine lv_aload_n hx hb kX2_9 rfl (lv_at hl 0 rfl) ?_
  refine lv_iload_n hx hb kX2_10 rfl (lv_at hl 1 rfl) ?_
  refine lv_iconst (v := 1) hx hb kX2_11 (by decide) ?_
  refine va_mmax hx hb (hml.trans hl.1.symm) hown (hts _ (nl_w1 119 rfl rfl)) (hts _ nl_ma3.1) (hts _ nl_mi) (hts _ nl_ma3.2) (Nat.le_of_ble_eq_true rfl) (Nat.le_of_ble_eq_true rfl) (Nat.zero_le _) (Nat.zero_le _) kX2_12 ?_
  rw [if_neg hn1]
  refine W.anew (C := RX4) hx hb hown (hts _ (nl_w1 122 rfl rfl)) (va_AO.use hK.2.2.2.2.2.2) rfl kX2_15 rfl hn0 (by omega) (by show 0 + 1 ≤ 1 + 9 * N; omega) (by show 0 + _ ≤ N + 109 * N; omega) fun cA kA comp f1 f2 f3 f4 => ?_
  have hcA : cA = gY G 2 := by
    obtain ⟨_, _, _, _, _, g4⟩ := (hK.1.1.2 2 _ rfl).2
    exact Option.some.inj (f1.symm.trans g4)
  generalize hH2 : H1.push ({ cls := cA, slots := Array.replicate nv.toNatClampNeg .null, vm := .none } : Cell) = H2
  have z2 : H2.size = H1.size + 1 := by rw [← hH2, Array.size_push]
  have e2 : H2[H1.size]? = some (arrV cA N (fun _ => .null)) := by rw [← hH2, Array.getElem?_push_size, ← arrV_new, hN]
  have o2 : ∀ q : Nat, q < H1.size → H2[q]? = H1[q]? := fun q hq => by rw [← hH2, Array.getElem?_push, if_neg (Nat.ne_of_lt hq)]
  have hS2 : va_S (nk_A a sz) s.heap H2 locs1 := ⟨by have := hS1.1; omega, fun q h1 h2 => (o2 q (Nat.lt_of_lt_of_le h1 hS1.1)).trans (hS1.2.1 q h1 h2), hS1.2.2⟩
  have hO2 := hO1.kept (o2 a (by omega))
  rw [hN]
  refine W.eq (g2 := F0 m 18 ls [.ref H1.size, .ref a]) rfl ?_
  refine nk_put0 X hin (k := 0) (idx := 21) (by decide) (by decide) (by decide) rfl (ty := .array (.object RX4)) (by decide +kernel) rfl rfl kX2_18 hO2 hS2 (Or.inl rfl) fun H3 locs3 hO3 z3 o3 hS3 => ?_
  have o3 : ∀ q : Nat, q ≠ a → H3[q]? = H2[q]? := o3
  refine lv_iconst (v := 0) hx hb kX2_21 (by decide) ?_
  refine lv_istore_n hx hb kX2_22 rfl hl (by decide) rfl (fun ls' hl' => ?_)
  have hz1 : H1.size = sz := z1.trans hsz
  rw [show 0 + N = N + 109 * 0 by omega]
  refine nk_shl (R := { frames := 3, cells := 1 + 9 * N, slots := N + 109 * N, locals := 70 }) (N := N) (H0 := s.heap) X hK hin ha hsz hN8 (Nat.le_of_ble_eq_true rfl) (Nat.le_of_ble_eq_true rfl) (Nat.le_refl _) (Nat.le_refl _) (fun H locs ls hJ hS => ?_) N 0 H3 locs3 ls' nv (by omega) ⟨by omega, ?_, ?_, fun j hj => absurd hj (by omega)⟩ hS3 hl'
  · exact W.vret hx hb hr (fun t ht hW => ⟨rfl, by rw [ht]; exact hJ, hS.F ht⟩) hS.2.2 kX2_51
  · rw [hz1] at hO3
    refine hO3.to fun k hk => ?_
    match k, hk with
    | 0, _ => rfl
    | 1, _ => rfl
    | n + 2, h => exact absurd (show n + 2 < 2 from h) (by omega)
  · rw [o3 sz (by omega), ← hz1, e2, hcA]
    congr 1
