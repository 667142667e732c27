/-! The constructors that only make arrays and set fields. -/
def nk_ws (y : MethodName) (cc : ByteArray) (n : Nat) : List Jvm.Cond := Cond.code y cc n none :: nl_WL
def nk_Pc (G : nl_G) (c a sz : Nat) (ex : List Value) (V0 : Nat → Value) : Array Value → State → Prop := va_Pc (.ref a :: ex) (fun U => U.heap.size = sz ∧ t_OB a ((gD G).1 c) (nl_N c) ((gD G).2 c) U.heap V0 ∧ nl_K G U ∧ a < sz)
def nk_Y (G : nl_G) (c a sz : Nat) (ar : List (Nat × Nat)) (V : Nat → Value) (H : Heap) : Prop := H.size = sz + ar.length ∧ t_OB a ((gD G).1 c) (nl_N c) ((gD G).2 c) H V ∧ nk_ar G ar sz H
def nk_Qc (a sz : Nat) (Y : Heap → Prop) : Array Value → State → Outcome → State → Prop := fun _ st oc t => oc = .returned none ∧ Y t.heap ∧ va_F (nk_A a sz) st t
theorem nk_cI {G : nl_G} {s : State} (hK : nl_K G s) : s.vm.findClass ("[" ++ (newarray.typeOf ArrayType.int).toString) = some (gY G 0) := (hK.1.2 0 _ rfl).2
theorem nk_cZ {G : nl_G} {s : State} (hK : nl_K G s) : s.vm.findClass ("[" ++ (newarray.typeOf ArrayType.boolean).toString) = some (gY G 1) := (hK.1.2 1 _ rfl).2
theorem kX4_0 : decode cX4_init 0 = .ok (.aload_n 0, 1) := by decide +kernel
theorem kX4_1 : decode cX4_init 1 = .ok (.invokespecial 3, 3) := by decide +kernel
theorem kX4_4 : decode cX4_init 4 = .ok (.aload_n 0, 1) := by decide +kernel
theorem kX4_5 : decode cX4_init 5 = .ok (.iconst 0, 1) := by decide +kernel
theorem kX4_6 : decode cX4_init 6 = .ok (.putfield 9, 3) := by decide +kernel
theorem kX4_9 : decode cX4_init 9 = .ok (.aload_n 0, 1) := by decide +kernel
theorem kX4_10 : decode cX4_init 10 = .ok (.iconst 0, 1) := by decide +kernel
theorem kX4_11 : decode cX4_init 11 = .ok (.putfield 15, 3) := by decide +kernel
theorem kX4_14 : decode cX4_init 14 = .ok (.aload_n 0, 1) := by decide +kernel
theorem kX4_15 : decode cX4_init 15 = .ok (.iconst 0, 1) := by decide +kernel
theorem kX4_16 : decode cX4_init 16 = .ok (.putfield 18, 3) := by decide +kernel
theorem kX4_19 : decode cX4_init 19 = .ok (.aload_n 0, 1) := by decide +kernel
theorem kX4_20 : decode cX4_init 20 = .ok (.bipush 7, 2) := by decide +kernel
theorem kX4_22 : decode cX4_init 22 = .ok (.newarray .int, 2) := by decide +kernel
theorem kX4_24 : decode cX4_init 24 = .ok (.putfield 21, 3) := by decide +kernel
theorem kX4_27 : decode cX4_init 27 = .ok (.aload_n 0, 1) := by decide +kernel
theorem kX4_28 : decode cX4_init 28 = .ok (.bipush 7, 2) := by decide +kernel
theorem kX4_30 : decode cX4_init 30 = .ok (.newarray .int, 2) := by decide +kernel
theorem kX4_32 : decode cX4_init 32 = .ok (.putfield 25, 3) := by decide +kernel
theorem kX4_35 : decode cX4_init 35 = .ok (.aload_n 0, 1) := by decide +kernel
theorem kX4_36 : decode cX4_init 36 = .ok (.bipush 7, 2) := by decide +kernel
theorem kX4_38 : decode cX4_init 38 = .ok (.newarray .int, 2) := by decide +kernel
theorem kX4_40 : decode cX4_init 40 = .ok (.putfield 28, 3) := by decide +kernel
theorem kX4_43 : decode cX4_init 43 = .ok (.aload_n 0, 1) := by decide +kernel
theorem kX4_44 : decode cX4_init 44 = .ok (.bipush 7, 2) := by decide +kernel
theorem kX4_46 : decode cX4_init 46 = .ok (.newarray .int, 2) := by decide +kernel
theorem kX4_48 : decode cX4_init 48 = .ok (.putfield 31, 3) := by decide +kernel
theorem kX4_51 : decode cX4_init 51 = .ok (.aload_n 0, 1) := by decide +kernel
theorem kX4_52 : decode cX4_init 52 = .ok (.bipush 7, 2) := by decide +kernel
theorem kX4_54 : decode cX4_init 54 = .ok (.newarray .int, 2) := by decide +kernel
theorem kX4_56 : decode cX4_init 56 = .ok (.putfield 34, 3) := by decide +kernel
theorem kX4_59 : decode cX4_init 59 = .ok (.aload_n 0, 1) := by decide +kernel
theorem kX4_60 : decode cX4_init 60 = .ok (.bipush 7, 2) := by decide +kernel
theorem kX4_62 : decode cX4_init 62 = .ok (.newarray .int, 2) := by decide +kernel
theorem kX4_64 : decode cX4_init 64 = .ok (.putfield 37, 3) := by decide +kernel
theorem kX4_67 : decode cX4_init 67 = .ok (.aload_n 0, 1) := by decide +kernel
theorem kX4_68 : decode cX4_init 68 = .ok (.bipush 7, 2) := by decide +kernel
theorem kX4_70 : decode cX4_init 70 = .ok (.newarray .int, 2) := by decide +kernel
theorem kX4_72 : decode cX4_init 72 = .ok (.putfield 40, 3) := by decide +kernel
theorem kX4_75 : decode cX4_init 75 = .ok (.aload_n 0, 1) := by decide +kernel
theorem kX4_76 : decode cX4_init 76 = .ok (.bipush 49, 2) := by decide +kernel
theorem kX4_78 : decode cX4_init 78 = .ok (.newarray .int, 2) := by decide +kernel
theorem kX4_80 : decode cX4_init 80 = .ok (.putfield 43, 3) := by decide +kernel
theorem kX4_83 : decode cX4_init 83 = .ok (.return_, 1) := by decide +kernel
def nk_V4 (sz : Nat) : Nat → Value := fun k => match k with
  | 0 => .int 0
  | 1 => .int 0
  | 2 => .int 0
  | 3 => .ref (sz + 0)
  | 4 => .ref (sz + 1)
  | 5 => .ref (sz + 2)
  | 6 => .ref (sz + 3)
  | 7 => .ref (sz + 4)
  | 8 => .ref (sz + 5)
  | 9 => .ref (sz + 6)
  | _ => .ref (sz + 7)
def nk_a4 : List (Nat × Nat) := [(0, 7), (0, 7), (0, 7), (0, 7), (0, 7), (0, 7), (0, 7), (0, 49)]
set_option maxHeartbeats 4000000 in
set_option maxRecDepth 100000 in
theorem nk_X4 (l : Launch) (G : nl_G) (a sz : Nat) (V0 : Nat → Value) : Met l yX4_init (nk_ws yX4_init cX4_init 1) { frames := 1, cells := 8, slots := 98, locals := 30 } (nk_Pc G 4 a sz [] V0) (nk_Qc a sz (nk_Y G 4 a sz nk_a4 (nk_V4 sz))) 8 98 (nk_A a sz) := by
  refine Met.ofW (cc := cX4_init) (maxL := 1) (ret := none) nl_pn4.1 rfl ?_
  intro p e s m args below meth c s₁ B hml hv
  obtain ⟨rfl, hsz, hO, hK, ha⟩ := hv
  have hx := B.exec
  have hb := B.bytes
  have hr := B.returns
  have hlocks := B.notSynchronized
  have hin : meth.name = "<init>" := (name_of_methodNamed B.named B.method).1
  have hown : s.vm.findClass (nl_R 4) = some m.cls := findClass_of_methodNamed B.named
  have hts0 := atoms_spec (ws := nk_ws yX4_init cX4_init 1) B.pre
  have hts : ∀ w ∈ nl_WL, w.before ([Value.ref a] : List Value).toArray s = true := fun w hw => hts0 w (List.mem_cons_of_mem _ hw)
  have X : nk_Cx p s m ([Value.ref a] : List Value).toArray c cX4_init 1 4 G := ⟨hx, hb, hml, hown, hts, hK⟩
  have hl := lv_entry ([.ref a]) (n := 1) (Nat.le_of_ble_eq_true rfl)
  rw [lg_entry_eq]
  generalize (lg_sl ([.ref a]) ++ List.replicate (1 - (lg_sl ([.ref a])).length) Slot.unset).toArray = ls at hl ⊢
  have hl : lv_has ls 1 [(0, .ref a)] := hl
  have hY0 := nk_cI hK
  have hY1 := nk_cZ hK
  have J : nk_J G 4 a sz [] V0 s.heap s.heap [] := ⟨hsz, hO, fun j q h => (by cases h), va_S.rf, ha, hsz⟩
  clear hO
  refine lv_aload_n hx hb kX4_0 rfl (lv_at hl 0 rfl) ?_
  refine W.objInit hx hb hown (hts _ (nl_w1 65 rfl rfl)) (hts _ (nl_w1 20 rfl rfl)) (hts _ (nl_w1 21 rfl rfl)) rfl (by rw [hml]; exact hl.1) rfl kX4_1 (Nat.le_of_ble_eq_true rfl) (Nat.le_of_ble_eq_true rfl) ?_
  refine W.eq (g2 := F0 m 4 ls []) rfl ?_
  refine lv_aload_n hx hb kX4_4 rfl (lv_at hl 0 rfl) ?_
  refine lv_iconst (v := 0) hx hb kX4_5 (by decide) ?_
  refine nk_put X hin (k := 0) (idx := 9) (by decide) (by decide) (by decide) rfl (ty := .int) (by decide +kernel) rfl rfl kX4_6 J fun H locs J => ?_
  refine lv_aload_n hx hb kX4_9 rfl (lv_at hl 0 rfl) ?_
  refine lv_iconst (v := 0) hx hb kX4_10 (by decide) ?_
  refine nk_put X hin (k := 1) (idx := 15) (by decide) (by decide) (by decide) rfl (ty := .int) (by decide +kernel) rfl rfl kX4_11 J fun H locs J => ?_
  refine lv_aload_n hx hb kX4_14 rfl (lv_at hl 0 rfl) ?_
  refine lv_iconst (v := 0) hx hb kX4_15 (by decide) ?_
  refine nk_put X hin (k := 2) (idx := 18) (by decide) (by decide) (by decide) rfl (ty := .int) (by decide +kernel) rfl rfl kX4_16 J fun H locs J => ?_
  refine lv_aload_n hx hb kX4_19 rfl (lv_at hl 0 rfl) ?_
  refine lv_bipush (v := 7) hx hb kX4_20 (by decide) ?_
  refine nk_newa X 0 (N := 7) (nl_w1 59 rfl rfl) hY0 rfl (by decide) (by decide) (by decide) (Nat.le_of_ble_eq_true rfl) (Nat.le_of_ble_eq_true rfl) kX4_22 J fun H J => ?_
  have J : nk_J G 4 a sz [(0, 7)] (updV (updV (updV V0 0 (.int 0)) 1 (.int 0)) 2 (.int 0)) s.heap H _ := J
  refine W.eq (cells := 1) (slots := 7) (g2 := F0 m 24 ls [.ref (sz + 0), .ref a]) rfl ?_
  refine nk_put X hin (k := 3) (idx := 21) (by decide) (by decide) (by decide) rfl (ty := .array .int) (by decide +kernel) rfl rfl kX4_24 J fun H locs J => ?_
  refine lv_aload_n hx hb kX4_27 rfl (lv_at hl 0 rfl) ?_
  refine lv_bipush (v := 7) hx hb kX4_28 (by decide) ?_
  refine nk_newa X 0 (N := 7) (nl_w1 59 rfl rfl) hY0 rfl (by decide) (by decide) (by decide) (Nat.le_of_ble_eq_true rfl) (Nat.le_of_ble_eq_true rfl) kX4_30 J fun H J => ?_
  have J : nk_J G 4 a sz [(0, 7), (0, 7)] (updV (updV (updV (updV V0 0 (.int 0)) 1 (.int 0)) 2 (.int 0)) 3 (.ref (sz + 0))) s.heap H _ := J
  refine W.eq (cells := 2) (slots := 14) (g2 := F0 m 32 ls [.ref (sz + 1), .ref a]) rfl ?_
  refine nk_put X hin (k := 4) (idx := 25) (by decide) (by decide) (by decide) rfl (ty := .array .int) (by decide +kernel) rfl rfl kX4_32 J fun H locs J => ?_
  refine lv_aload_n hx hb kX4_35 rfl (lv_at hl 0 rfl) ?_
  refine lv_bipush (v := 7) hx hb kX4_36 (by decide) ?_
  refine nk_newa X 0 (N := 7) (nl_w1 59 rfl rfl) hY0 rfl (by decide) (by decide) (by decide) (Nat.le_of_ble_eq_true rfl) (Nat.le_of_ble_eq_true rfl) kX4_38 J fun H J => ?_
  have J : nk_J G 4 a sz [(0, 7), (0, 7), (0, 7)] (updV (updV (updV (updV (updV V0 0 (.int 0)) 1 (.int 0)) 2 (.int 0)) 3 (.ref (sz + 0))) 4 (.ref (sz + 1))) s.heap H _ := J
  refine W.eq (cells := 3) (slots := 21) (g2 := F0 m 40 ls [.ref (sz + 2), .ref a]) rfl ?_
  refine nk_put X hin (k := 5) (idx := 28) (by decide) (by decide) (by decide) rfl (ty := .array .int) (by decide +kernel) rfl rfl kX4_40 J fun H locs J => ?_
  refine lv_aload_n hx hb kX4_43 rfl (lv_at hl 0 rfl) ?_
  refine lv_bipush (v := 7) hx hb kX4_44 (by decide) ?_
  refine nk_newa X 0 (N := 7) (nl_w1 59 rfl rfl) hY0 rfl (by decide) (by decide) (by decide) (Nat.le_of_ble_eq_true rfl) (Nat.le_of_ble_eq_true rfl) kX4_46 J fun H J => ?_
  have J : nk_J G 4 a sz [(0, 7), (0, 7), (0, 7), (0, 7)] (updV (updV (updV (updV (updV (updV V0 0 (.int 0)) 1 (.int 0)) 2 (.int 0)) 3 (.ref (sz + 0))) 4 (.ref (sz + 1))) 5 (.ref (sz + 2))) s.heap H _ := J
  refine W.eq (cells := 4) (slots := 28) (g2 := F0 m 48 ls [.ref (sz + 3), .ref a]) rfl ?_
  refine nk_put X hin (k := 6) (idx := 31) (by decide) (by decide) (by decide) rfl (ty := .array .int) (by decide +kernel) rfl rfl kX4_48 J fun H locs J => ?_
  refine lv_aload_n hx hb kX4_51 rfl (lv_at hl 0 rfl) ?_
  refine lv_bipush (v := 7) hx hb kX4_52 (by decide) ?_
  refine nk_newa X 0 (N := 7) (nl_w1 59 rfl rfl) hY0 rfl (by decide) (by decide) (by decide) (Nat.le_of_ble_eq_true rfl) (Nat.le_of_ble_eq_true rfl) kX4_54 J fun H J => ?_
  have J : nk_J G 4 a sz [(0, 7), (0, 7), (0, 7), (0, 7), (0, 7)] (updV (updV (updV (updV (updV (updV (updV V0 0 (.int 0)) 1 (.int 0)) 2 (.int 0)) 3 (.ref (sz + 0))) 4 (.ref (sz + 1))) 5 (.ref (sz + 2))) 6 (.ref (sz + 3))) s.heap H _ := J
  refine W.eq (cells := 5) (slots := 35) (g2 := F0 m 56 ls [.ref (sz + 4), .ref a]) rfl ?_
  refine nk_put X hin (k := 7) (idx := 34) (by decide) (by decide) (by decide) rfl (ty := .array .int) (by decide +kernel) rfl rfl kX4_56 J fun H locs J => ?_
  refine lv_aload_n hx hb kX4_59 rfl (lv_at hl 0 rfl) ?_
  refine lv_bipush (v := 7) hx hb kX4_60 (by decide) ?_
  refine nk_newa X 0 (N := 7) (nl_w1 59 rfl rfl) hY0 rfl (by decide) (by decide) (by decide) (Nat.le_of_ble_eq_true rfl) (Nat.le_of_ble_eq_true rfl) kX4_62 J fun H J => ?_
  have J : nk_J G 4 a sz [(0, 7), (0, 7), (0, 7), (0, 7), (0, 7), (0, 7)] (updV (updV (updV (updV (updV (updV (updV (updV V0 0 (.int 0)) 1 (.int 0)) 2 (.int 0)) 3 (.ref (sz + 0))) 4 (.ref (sz + 1))) 5 (.ref (sz + 2))) 6 (.ref (sz + 3))) 7 (.ref (sz + 4))) s.heap H _ := J
  refine W.eq (cells := 6) (slots := 42) (g2 := F0 m 64 ls [.ref (sz + 5), .ref a]) rfl ?_
  refine nk_put X hin (k := 8) (idx := 37) (by decide) (by decide) (by decide) rfl (ty := .array .int) (by decide +kernel) rfl rfl kX4_64 J fun H locs J => ?_
  refine lv_aload_n hx hb kX4_67 rfl (lv_at hl 0 rfl) ?_
  refine lv_bipush (v := 7) hx hb kX4_68 (by decide) ?_
  refine nk_newa X 0 (N := 7) (nl_w1 59 rfl rfl) hY0 rfl (by decide) (by decide) (by decide) (Nat.le_of_ble_eq_true rfl) (Nat.le_of_ble_eq_true rfl) kX4_70 J fun H J => ?_
  have J : nk_J G 4 a sz [(0, 7), (0, 7), (0, 7), (0, 7), (0, 7), (0, 7), (0, 7)] (updV (updV (updV (updV (updV (updV (updV (updV (updV V0 0 (.int 0)) 1 (.int 0)) 2 (.int 0)) 3 (.ref (sz + 0))) 4 (.ref (sz + 1))) 5 (.ref (sz + 2))) 6 (.ref (sz + 3))) 7 (.ref (sz + 4))) 8 (.ref (sz + 5))) s.heap H _ := J
  refine W.eq (cells := 7) (slots := 49) (g2 := F0 m 72 ls [.ref (sz + 6), .ref a]) rfl ?_
  refine nk_put X hin (k := 9) (idx := 40) (by decide) (by decide) (by decide) rfl (ty := .array .int) (by decide +kernel) rfl rfl kX4_72 J fun H locs J => ?_
  refine lv_aload_n hx hb kX4_75 rfl (lv_at hl 0 rfl) ?_
  refine lv_bipush (v := 49) hx hb kX4_76 (by decide) ?_
  refine nk_newa X 0 (N := 49) (nl_w1 59 rfl rfl) hY0 rfl (by decide) (by decide) (by decide) (Nat.le_of_ble_eq_true rfl) (Nat.le_of_ble_eq_true rfl) kX4_78 J fun H J => ?_
  have J : nk_J G 4 a sz [(0, 7), (0, 7), (0, 7), (0, 7), (0, 7), (0, 7), (0, 7), (0, 49)] (updV (updV (updV (updV (updV (updV (updV (updV (updV (updV V0 0 (.int 0)) 1 (.int 0)) 2 (.int 0)) 3 (.ref (sz + 0))) 4 (.ref (sz + 1))) 5 (.ref (sz + 2))) 6 (.ref (sz + 3))) 7 (.ref (sz + 4))) 8 (.ref (sz + 5))) 9 (.ref (sz + 6))) s.heap H _ := J
  refine W.eq (cells := 8) (slots := 98) (g2 := F0 m 80 ls [.ref (sz + 7), .ref a]) rfl ?_
  refine nk_put X hin (k := 10) (idx := 43) (by decide) (by decide) (by decide) rfl (ty := .array .int) (by decide +kernel) rfl rfl kX4_80 J fun H locs J => ?_
  obtain ⟨z1, z2, z3, z4, -, -⟩ := J
  have z5 : t_OB a ((gD G).1 4) (nl_N 4) ((gD G).2 4) H (nk_V4 sz) := z2.to fun k hk => by
    match k, hk with
    | 0, _ => rfl
    | 1, _ => rfl
    | 2, _ => rfl
    | 3, _ => rfl
    | 4, _ => rfl
    | 5, _ => rfl
    | 6, _ => rfl
    | 7, _ => rfl
    | 8, _ => rfl
    | 9, _ => rfl
    | 10, _ => rfl
    | n + 11, h => exact absurd (show n + 11 < 11 from h) (by omega)
  exact W.vret hx hb hr (fun t ht hW => ⟨rfl, ⟨by rw [ht]; exact z1, by rw [ht]; exact z5, by rw [ht]; exact z3⟩, z4.F ht⟩) z4.2.2 kX4_83
theorem kX1_0 : decode cX1_init 0 = .ok (.aload_n 0, 1) := by decide +kernel
theorem kX1_1 : decode cX1_init 1 = .ok (.invokespecial 3, 3) := by decide +kernel
theorem kX1_4 : decode cX1_init 4 = .ok (.aload_n 0, 1) := by decide +kernel
theorem kX1_5 : decode cX1_init 5 = .ok (.bipush 7, 2) := by decide +kernel
theorem kX1_7 : decode cX1_init 7 = .ok (.newarray .int, 2) := by decide +kernel
theorem kX1_9 : decode cX1_init 9 = .ok (.putfield 9, 3) := by decide +kernel
theorem kX1_12 : decode cX1_init 12 = .ok (.aload_n 0, 1) := by decide +kernel
theorem kX1_13 : decode cX1_init 13 = .ok (.bipush 7, 2) := by decide +kernel
theorem kX1_15 : decode cX1_init 15 = .ok (.newarray .int, 2) := by decide +kernel
theorem kX1_17 : decode cX1_init 17 = .ok (.putfield 15, 3) := by decide +kernel
theorem kX1_20 : decode cX1_init 20 = .ok (.aload_n 0, 1) := by decide +kernel
theorem kX1_21 : decode cX1_init 21 = .ok (.bipush 7, 2) := by decide +kernel
theorem kX1_23 : decode cX1_init 23 = .ok (.newarray .int, 2) := by decide +kernel
theorem kX1_25 : decode cX1_init 25 = .ok (.putfield 18, 3) := by decide +kernel
theorem kX1_28 : decode cX1_init 28 = .ok (.aload_n 0, 1) := by decide +kernel
theorem kX1_29 : decode cX1_init 29 = .ok (.bipush 7, 2) := by decide +kernel
theorem kX1_31 : decode cX1_init 31 = .ok (.newarray .int, 2) := by decide +kernel
theorem kX1_33 : decode cX1_init 33 = .ok (.putfield 21, 3) := by decide +kernel
theorem kX1_36 : decode cX1_init 36 = .ok (.aload_n 0, 1) := by decide +kernel
theorem kX1_37 : decode cX1_init 37 = .ok (.iconst 3, 1) := by decide +kernel
theorem kX1_38 : decode cX1_init 38 = .ok (.newarray .int, 2) := by decide +kernel
theorem kX1_40 : decode cX1_init 40 = .ok (.putfield 24, 3) := by decide +kernel
theorem kX1_43 : decode cX1_init 43 = .ok (.aload_n 0, 1) := by decide +kernel
theorem kX1_44 : decode cX1_init 44 = .ok (.iconst 0, 1) := by decide +kernel
theorem kX1_45 : decode cX1_init 45 = .ok (.putfield 27, 3) := by decide +kernel
theorem kX1_48 : decode cX1_init 48 = .ok (.aload_n 0, 1) := by decide +kernel
theorem kX1_49 : decode cX1_init 49 = .ok (.iconst 0, 1) := by decide +kernel
theorem kX1_50 : decode cX1_init 50 = .ok (.putfield 31, 3) := by decide +kernel
theorem kX1_53 : decode cX1_init 53 = .ok (.aload_n 0, 1) := by decide +kernel
theorem kX1_54 : decode cX1_init 54 = .ok (.iconst (-1), 1) := by decide +kernel
theorem kX1_55 : decode cX1_init 55 = .ok (.putfield 34, 3) := by decide +kernel
theorem kX1_58 : decode cX1_init 58 = .ok (.return_, 1) := by decide +kernel
def nk_V1 (sz : Nat) : Nat → Value := fun k => match k with
  | 0 => .ref (sz + 0)
  | 1 => .ref (sz + 1)
  | 2 => .ref (sz + 2)
  | 3 => .ref (sz + 3)
  | 4 => .ref (sz + 4)
  | 5 => .int 0
  | 6 => .int 0
  | _ => .int (-1)
def nk_a1 : List (Nat × Nat) := [(0, 7), (0, 7), (0, 7), (0, 7), (0, 3)]
set_option maxHeartbeats 4000000 in
set_option maxRecDepth 100000 in
theorem nk_X1 (l : Launch) (G : nl_G) (a sz : Nat) (V0 : Nat → Value) : Met l yX1_init (nk_ws yX1_init cX1_init 1) { frames := 1, cells := 5, slots := 31, locals := 30 } (nk_Pc G 1 a sz [] V0) (nk_Qc a sz (nk_Y G 1 a sz nk_a1 (nk_V1 sz))) 5 31 (nk_A a sz) := by
  refine Met.ofW (cc := cX1_init) (maxL := 1) (ret := none) nl_pn1.1 rfl ?_
  intro p e s m args below meth c s₁ B hml hv
  obtain ⟨rfl, hsz, hO, hK, ha⟩ := hv
  have hx := B.exec
  have hb := B.bytes
  have hr := B.returns
  have hlocks := B.notSynchronized
  have hin : meth.name = "<init>" := (name_of_methodNamed B.named B.method).1
  have hown : s.vm.findClass (nl_R 1) = some m.cls := findClass_of_methodNamed B.named
  have hts0 := atoms_spec (ws := nk_ws yX1_init cX1_init 1) B.pre
  have hts : ∀ w ∈ nl_WL, w.before ([Value.ref a] : List Value).toArray s = true := fun w hw => hts0 w (List.mem_cons_of_mem _ hw)
  have X : nk_Cx p s m ([Value.ref a] : List Value).toArray c cX1_init 1 1 G := ⟨hx, hb, hml, hown, hts, hK⟩
  have hl := lv_entry ([.ref a]) (n := 1) (Nat.le_of_ble_eq_true rfl)
  rw [lg_entry_eq]
  generalize (lg_sl ([.ref a]) ++ List.replicate (1 - (lg_sl ([.ref a])).length) Slot.unset).toArray = ls at hl ⊢
  have hl : lv_has ls 1 [(0, .ref a)] := hl
  have hY0 := nk_cI hK
  have hY1 := nk_cZ hK
  have J : nk_J G 1 a sz [] V0 s.heap s.heap [] := ⟨hsz, hO, fun j q h => (by cases h), va_S.rf, ha, hsz⟩
  clear hO
  refine lv_aload_n hx hb kX1_0 rfl (lv_at hl 0 rfl) ?_
  refine W.objInit hx hb hown (hts _ (nl_w1 27 rfl rfl)) (hts _ (nl_w1 20 rfl rfl)) (hts _ (nl_w1 21 rfl rfl)) rfl (by rw [hml]; exact hl.1) rfl kX1_1 (Nat.le_of_ble_eq_true rfl) (Nat.le_of_ble_eq_true rfl) ?_
  refine W.eq (g2 := F0 m 4 ls []) rfl ?_
  refine lv_aload_n hx hb kX1_4 rfl (lv_at hl 0 rfl) ?_
  refine lv_bipush (v := 7) hx hb kX1_5 (by decide) ?_
  refine nk_newa X 0 (N := 7) (nl_w1 59 rfl rfl) hY0 rfl (by decide) (by decide) (by decide) (Nat.le_of_ble_eq_true rfl) (Nat.le_of_ble_eq_true rfl) kX1_7 J fun H J => ?_
  have J : nk_J G 1 a sz [(0, 7)] V0 s.heap H _ := J
  refine W.eq (cells := 1) (slots := 7) (g2 := F0 m 9 ls [.ref (sz + 0), .ref a]) rfl ?_
  refine nk_put X hin (k := 0) (idx := 9) (by decide) (by decide) (by decide) rfl (ty := .array .int) (by decide +kernel) rfl rfl kX1_9 J fun H locs J => ?_
  refine lv_aload_n hx hb kX1_12 rfl (lv_at hl 0 rfl) ?_
  refine lv_bipush (v := 7) hx hb kX1_13 (by decide) ?_
  refine nk_newa X 0 (N := 7) (nl_w1 59 rfl rfl) hY0 rfl (by decide) (by decide) (by decide) (Nat.le_of_ble_eq_true rfl) (Nat.le_of_ble_eq_true rfl) kX1_15 J fun H J => ?_
  have J : nk_J G 1 a sz [(0, 7), (0, 7)] (updV V0 0 (.ref (sz + 0))) s.heap H _ := J
  refine W.eq (cells := 2) (slots := 14) (g2 := F0 m 17 ls [.ref (sz + 1), .ref a]) rfl ?_
  refine nk_put X hin (k := 1) (idx := 15) (by decide) (by decide) (by decide) rfl (ty := .array .int) (by decide +kernel) rfl rfl kX1_17 J fun H locs J => ?_
  refine lv_aload_n hx hb kX1_20 rfl (lv_at hl 0 rfl) ?_
  refine lv_bipush (v := 7) hx hb kX1_21 (by decide) ?_
  refine nk_newa X 0 (N := 7) (nl_w1 59 rfl rfl) hY0 rfl (by decide) (by decide) (by decide) (Nat.le_of_ble_eq_true rfl) (Nat.le_of_ble_eq_true rfl) kX1_23 J fun H J => ?_
  have J : nk_J G 1 a sz [(0, 7), (0, 7), (0, 7)] (updV (updV V0 0 (.ref (sz + 0))) 1 (.ref (sz + 1))) s.heap H _ := J
  refine W.eq (cells := 3) (slots := 21) (g2 := F0 m 25 ls [.ref (sz + 2), .ref a]) rfl ?_
  refine nk_put X hin (k := 2) (idx := 18) (by decide) (by decide) (by decide) rfl (ty := .array .int) (by decide +kernel) rfl rfl kX1_25 J fun H locs J => ?_
  refine lv_aload_n hx hb kX1_28 rfl (lv_at hl 0 rfl) ?_
  refine lv_bipush (v := 7) hx hb kX1_29 (by decide) ?_
  refine nk_newa X 0 (N := 7) (nl_w1 59 rfl rfl) hY0 rfl (by decide) (by decide) (by decide) (Nat.le_of_ble_eq_true rfl) (Nat.le_of_ble_eq_true rfl) kX1_31 J fun H J => ?_
  have J : nk_J G 1 a sz [(0, 7), (0, 7), (0, 7), (0, 7)] (updV (updV (updV V0 0 (.ref (sz + 0))) 1 (.ref (sz + 1))) 2 (.ref (sz + 2))) s.heap H _ := J
  refine W.eq (cells := 4) (slots := 28) (g2 := F0 m 33 ls [.ref (sz + 3), .ref a]) rfl ?_
  refine nk_put X hin (k := 3) (idx := 21) (by decide) (by decide) (by decide) rfl (ty := .array .int) (by decide +kernel) rfl rfl kX1_33 J fun H locs J => ?_
  refine lv_aload_n hx hb kX1_36 rfl (lv_at hl 0 rfl) ?_
  refine lv_iconst (v := 3) hx hb kX1_37 (by decide) ?_
  refine nk_newa X 0 (N := 3) (nl_w1 59 rfl rfl) hY0 rfl (by decide) (by decide) (by decide) (Nat.le_of_ble_eq_true rfl) (Nat.le_of_ble_eq_true rfl) kX1_38 J fun H J => ?_
  have J : nk_J G 1 a sz [(0, 7), (0, 7), (0, 7), (0, 7), (0, 3)] (updV (updV (updV (updV V0 0 (.ref (sz + 0))) 1 (.ref (sz + 1))) 2 (.ref (sz + 2))) 3 (.ref (sz + 3))) s.heap H _ := J
  refine W.eq (cells := 5) (slots := 31) (g2 := F0 m 40 ls [.ref (sz + 4), .ref a]) rfl ?_
  refine nk_put X hin (k := 4) (idx := 24) (by decide) (by decide) (by decide) rfl (ty := .array .int) (by decide +kernel) rfl rfl kX1_40 J fun H locs J => ?_
  refine lv_aload_n hx hb kX1_43 rfl (lv_at hl 0 rfl) ?_
  refine lv_iconst (v := 0) hx hb kX1_44 (by decide) ?_
  refine nk_put X hin (k := 5) (idx := 27) (by decide) (by decide) (by decide) rfl (ty := .int) (by decide +kernel) rfl rfl kX1_45 J fun H locs J => ?_
  refine lv_aload_n hx hb kX1_48 rfl (lv_at hl 0 rfl) ?_
  refine lv_iconst (v := 0) hx hb kX1_49 (by decide) ?_
  refine nk_put X hin (k := 6) (idx := 31) (by decide) (by decide) (by decide) rfl (ty := .int) (by decide +kernel) rfl rfl kX1_50 J fun H locs J => ?_
  refine lv_aload_n hx hb kX1_53 rfl (lv_at hl 0 rfl) ?_
  refine lv_iconst (v := (-1)) hx hb kX1_54 (by decide) ?_
  refine nk_put X hin (k := 7) (idx := 34) (by decide) (by decide) (by decide) rfl (ty := .int) (by decide +kernel) rfl rfl kX1_55 J fun H locs J => ?_
  obtain ⟨z1, z2, z3, z4, -, -⟩ := J
  have z5 : t_OB a ((gD G).1 1) (nl_N 1) ((gD G).2 1) H (nk_V1 sz) := z2.to fun k hk => by
    match k, hk with
    | 0, _ => rfl
    | 1, _ => rfl
    | 2, _ => rfl
    | 3, _ => rfl
    | 4, _ => rfl
    | 5, _ => rfl
    | 6, _ => rfl
    | 7, _ => rfl
    | n + 8, h => exact absurd (show n + 8 < 8 from h) (by omega)
  exact W.vret hx hb hr (fun t ht hW => ⟨rfl, ⟨by rw [ht]; exact z1, by rw [ht]; exact z5, by rw [ht]; exact z3⟩, z4.F ht⟩) z4.2.2 kX1_58
theorem kX0_0 : decode cX0_init 0 = .ok (.aload_n 0, 1) := by decide +kernel
theorem kX0_1 : decode cX0_init 1 = .ok (.invokespecial 5, 3) := by decide +kernel
theorem kX0_4 : decode cX0_init 4 = .ok (.aload_n 0, 1) := by decide +kernel
theorem kX0_5 : decode cX0_init 5 = .ok (.bipush 49, 2) := by decide +kernel
theorem kX0_7 : decode cX0_init 7 = .ok (.newarray .int, 2) := by decide +kernel
theorem kX0_9 : decode cX0_init 9 = .ok (.putfield 11, 3) := by decide +kernel
theorem kX0_12 : decode cX0_init 12 = .ok (.aload_n 0, 1) := by decide +kernel
theorem kX0_13 : decode cX0_init 13 = .ok (.sipush 128, 3) := by decide +kernel
theorem kX0_16 : decode cX0_init 16 = .ok (.newarray .int, 2) := by decide +kernel
theorem kX0_18 : decode cX0_init 18 = .ok (.putfield 15, 3) := by decide +kernel
theorem kX0_21 : decode cX0_init 21 = .ok (.aload_n 0, 1) := by decide +kernel
theorem kX0_22 : decode cX0_init 22 = .ok (.bipush 7, 2) := by decide +kernel
theorem kX0_24 : decode cX0_init 24 = .ok (.newarray .int, 2) := by decide +kernel
theorem kX0_26 : decode cX0_init 26 = .ok (.putfield 18, 3) := by decide +kernel
theorem kX0_29 : decode cX0_init 29 = .ok (.aload_n 0, 1) := by decide +kernel
theorem kX0_30 : decode cX0_init 30 = .ok (.bipush 7, 2) := by decide +kernel
theorem kX0_32 : decode cX0_init 32 = .ok (.newarray .int, 2) := by decide +kernel
theorem kX0_34 : decode cX0_init 34 = .ok (.putfield 21, 3) := by decide +kernel
theorem kX0_37 : decode cX0_init 37 = .ok (.aload_n 0, 1) := by decide +kernel
theorem kX0_38 : decode cX0_init 38 = .ok (.bipush 7, 2) := by decide +kernel
theorem kX0_40 : decode cX0_init 40 = .ok (.newarray .int, 2) := by decide +kernel
theorem kX0_42 : decode cX0_init 42 = .ok (.putfield 24, 3) := by decide +kernel
theorem kX0_45 : decode cX0_init 45 = .ok (.aload_n 0, 1) := by decide +kernel
theorem kX0_46 : decode cX0_init 46 = .ok (.iconst 0, 1) := by decide +kernel
theorem kX0_47 : decode cX0_init 47 = .ok (.putfield 27, 3) := by decide +kernel
theorem kX0_50 : decode cX0_init 50 = .ok (.return_, 1) := by decide +kernel
def nk_V0 (sz : Nat) : Nat → Value := fun k => match k with
  | 0 => .ref (sz + 0)
  | 1 => .ref (sz + 1)
  | 2 => .ref (sz + 2)
  | 3 => .ref (sz + 3)
  | 4 => .ref (sz + 4)
  | _ => .int 0
def nk_a0 : List (Nat × Nat) := [(0, 49), (0, 128), (0, 7), (0, 7), (0, 7)]
set_option maxHeartbeats 4000000 in
set_option maxRecDepth 100000 in
theorem nk_X0 (l : Launch) (G : nl_G) (a sz : Nat) (V0 : Nat → Value) : Met l yX0_init (nk_ws yX0_init cX0_init 1) { frames := 1, cells := 5, slots := 198, locals := 30 } (nk_Pc G 0 a sz [] V0) (nk_Qc a sz (nk_Y G 0 a sz nk_a0 (nk_V0 sz))) 5 198 (nk_A a sz) := by
  refine Met.ofW (cc := cX0_init) (maxL := 1) (ret := none) nl_pn0.1 rfl ?_
  intro p e s m args below meth c s₁ B hml hv
  obtain ⟨rfl, hsz, hO, hK, ha⟩ := hv
  have hx := B.exec
  have hb := B.bytes
  have hr := B.returns
  have hlocks := B.notSynchronized
  have hin : meth.name = "<init>" := (name_of_methodNamed B.named B.method).1
  have hown : s.vm.findClass (nl_R 0) = some m.cls := findClass_of_methodNamed B.named
  have hts0 := atoms_spec (ws := nk_ws yX0_init cX0_init 1) B.pre
  have hts : ∀ w ∈ nl_WL, w.before ([Value.ref a] : List Value).toArray s = true := fun w hw => hts0 w (List.mem_cons_of_mem _ hw)
  have X : nk_Cx p s m ([Value.ref a] : List Value).toArray c cX0_init 1 0 G := ⟨hx, hb, hml, hown, hts, hK⟩
  have hl := lv_entry ([.ref a]) (n := 1) (Nat.le_of_ble_eq_true rfl)
  rw [lg_entry_eq]
  generalize (lg_sl ([.ref a]) ++ List.replicate (1 - (lg_sl ([.ref a])).length) Slot.unset).toArray = ls at hl ⊢
  have hl : lv_has ls 1 [(0, .ref a)] := hl
  have hY0 := nk_cI hK
  have hY1 := nk_cZ hK
  have J : nk_J G 0 a sz [] V0 s.heap s.heap [] := ⟨hsz, hO, fun j q h => (by cases h), va_S.rf, ha, hsz⟩
  clear hO
  refine lv_aload_n hx hb kX0_0 rfl (lv_at hl 0 rfl) ?_
  refine W.objInit hx hb hown (hts _ (nl_w1 159 rfl rfl)) (hts _ (nl_w1 20 rfl rfl)) (hts _ (nl_w1 21 rfl rfl)) rfl (by rw [hml]; exact hl.1) rfl kX0_1 (Nat.le_of_ble_eq_true rfl) (Nat.le_of_ble_eq_true rfl) ?_
  refine W.eq (g2 := F0 m 4 ls []) rfl ?_
  refine lv_aload_n hx hb kX0_4 rfl (lv_at hl 0 rfl) ?_
  refine lv_bipush (v := 49) hx hb kX0_5 (by decide) ?_
  refine nk_newa X 0 (N := 49) (nl_w1 59 rfl rfl) hY0 rfl (by decide) (by decide) (by decide) (Nat.le_of_ble_eq_true rfl) (Nat.le_of_ble_eq_true rfl) kX0_7 J fun H J => ?_
  have J : nk_J G 0 a sz [(0, 49)] V0 s.heap H _ := J
  refine W.eq (cells := 1) (slots := 49) (g2 := F0 m 9 ls [.ref (sz + 0), .ref a]) rfl ?_
  refine nk_put X hin (k := 0) (idx := 11) (by decide) (by decide) (by decide) rfl (ty := .array .int) (by decide +kernel) rfl rfl kX0_9 J fun H locs J => ?_
  refine lv_aload_n hx hb kX0_12 rfl (lv_at hl 0 rfl) ?_
  refine lv_sipush (v := 128) hx hb kX0_13 (by decide) ?_
  refine nk_newa X 0 (N := 128) (nl_w1 59 rfl rfl) hY0 rfl (by decide) (by decide) (by decide) (Nat.le_of_ble_eq_true rfl) (Nat.le_of_ble_eq_true rfl) kX0_16 J fun H J => ?_
  have J : nk_J G 0 a sz [(0, 49), (0, 128)] (updV V0 0 (.ref (sz + 0))) s.heap H _ := J
  refine W.eq (cells := 2) (slots := 177) (g2 := F0 m 18 ls [.ref (sz + 1), .ref a]) rfl ?_
  refine nk_put X hin (k := 1) (idx := 15) (by decide) (by decide) (by decide) rfl (ty := .array .int) (by decide +kernel) rfl rfl kX0_18 J fun H locs J => ?_
  refine lv_aload_n hx hb kX0_21 rfl (lv_at hl 0 rfl) ?_
  refine lv_bipush (v := 7) hx hb kX0_22 (by decide) ?_
  refine nk_newa X 0 (N := 7) (nl_w1 59 rfl rfl) hY0 rfl (by decide) (by decide) (by decide) (Nat.le_of_ble_eq_true rfl) (Nat.le_of_ble_eq_true rfl) kX0_24 J fun H J => ?_
  have J : nk_J G 0 a sz [(0, 49), (0, 128), (0, 7)] (updV (updV V0 0 (.ref (sz + 0))) 1 (.ref (sz + 1))) s.heap H _ := J
  refine W.eq (cells := 3) (slots := 184) (g2 := F0 m 26 ls [.ref (sz + 2), .ref a]) rfl ?_
  refine nk_put X hin (k := 2) (idx := 18) (by decide) (by decide) (by decide) rfl (ty := .array .int) (by decide +kernel) rfl rfl kX0_26 J fun H locs J => ?_
  refine lv_aload_n hx hb kX0_29 rfl (lv_at hl 0 rfl) ?_
  refine lv_bipush (v := 7) hx hb kX0_30 (by decide) ?_
  refine nk_newa X 0 (N := 7) (nl_w1 59 rfl rfl) hY0 rfl (by decide) (by decide) (by decide) (Nat.le_of_ble_eq_true rfl) (Nat.le_of_ble_eq_true rfl) kX0_32 J fun H J => ?_
  have J : nk_J G 0 a sz [(0, 49), (0, 128), (0, 7), (0, 7)] (updV (updV (updV V0 0 (.ref (sz + 0))) 1 (.ref (sz + 1))) 2 (.ref (sz + 2))) s.heap H _ := J
  refine W.eq (cells := 4) (slots := 191) (g2 := F0 m 34 ls [.ref (sz + 3), .ref a]) rfl ?_
  refine nk_put X hin (k := 3) (idx := 21) (by decide) (by decide) (by decide) rfl (ty := .array .int) (by decide +kernel) rfl rfl kX0_34 J fun H locs J => ?_
  refine lv_aload_n hx hb kX0_37 rfl (lv_at hl 0 rfl) ?_
  refine lv_bipush (v := 7) hx hb kX0_38 (by decide) ?_
  refine nk_newa X 0 (N := 7) (nl_w1 59 rfl rfl) hY0 rfl (by decide) (by decide) (by decide) (Nat.le_of_ble_eq_true rfl) (Nat.le_of_ble_eq_true rfl) kX0_40 J fun H J => ?_
  have J : nk_J G 0 a sz [(0, 49), (0, 128), (0, 7), (0, 7), (0, 7)] (updV (updV (updV (updV V0 0 (.ref (sz + 0))) 1 (.ref (sz + 1))) 2 (.ref (sz + 2))) 3 (.ref (sz + 3))) s.heap H _ := J
  refine W.eq (cells := 5) (slots := 198) (g2 := F0 m 42 ls [.ref (sz + 4), .ref a]) rfl ?_
  refine nk_put X hin (k := 4) (idx := 24) (by decide) (by decide) (by decide) rfl (ty := .array .int) (by decide +kernel) rfl rfl kX0_42 J fun H locs J => ?_
  refine lv_aload_n hx hb kX0_45 rfl (lv_at hl 0 rfl) ?_
  refine lv_iconst (v := 0) hx hb kX0_46 (by decide) ?_
  refine nk_put X hin (k := 5) (idx := 27) (by decide) (by decide) (by decide) rfl (ty := .int) (by decide +kernel) rfl rfl kX0_47 J fun H locs J => ?_
  obtain ⟨z1, z2, z3, z4, -, -⟩ := J
  have z5 : t_OB a ((gD G).1 0) (nl_N 0) ((gD G).2 0) H (nk_V0 sz) := z2.to fun k hk => by
    match k, hk with
    | 0, _ => rfl
    | 1, _ => rfl
    | 2, _ => rfl
    | 3, _ => rfl
    | 4, _ => rfl
    | 5, _ => rfl
    | n + 6, h => exact absurd (show n + 6 < 6 from h) (by omega)
  exact W.vret hx hb hr (fun t ht hW => ⟨rfl, ⟨by rw [ht]; exact z1, by rw [ht]; exact z5, by rw [ht]; exact z3⟩, z4.F ht⟩) z4.2.2 kX0_50
theorem kX3_0 : decode cX3_init 0 = .ok (.aload_n 0, 1) := by decide +kernel
theorem kX3_1 : decode cX3_init 1 = .ok (.invokespecial 3, 3) := by decide +kernel
theorem kX3_4 : decode cX3_init 4 = .ok (.aload_n 0, 1) := by decide +kernel
theorem kX3_5 : decode cX3_init 5 = .ok (.bipush 6, 2) := by decide +kernel
theorem kX3_7 : decode cX3_init 7 = .ok (.newarray .int, 2) := by decide +kernel
theorem kX3_9 : decode cX3_init 9 = .ok (.putfield 9, 3) := by decide +kernel
theorem kX3_12 : decode cX3_init 12 = .ok (.aload_n 0, 1) := by decide +kernel
theorem kX3_13 : decode cX3_init 13 = .ok (.bipush 6, 2) := by decide +kernel
theorem kX3_15 : decode cX3_init 15 = .ok (.newarray .int, 2) := by decide +kernel
theorem kX3_17 : decode cX3_init 17 = .ok (.putfield 15, 3) := by decide +kernel
theorem kX3_20 : decode cX3_init 20 = .ok (.aload_n 0, 1) := by decide +kernel
theorem kX3_21 : decode cX3_init 21 = .ok (.bipush 6, 2) := by decide +kernel
theorem kX3_23 : decode cX3_init 23 = .ok (.newarray .boolean, 2) := by decide +kernel
theorem kX3_25 : decode cX3_init 25 = .ok (.putfield 18, 3) := by decide +kernel
theorem kX3_28 : decode cX3_init 28 = .ok (.aload_n 0, 1) := by decide +kernel
theorem kX3_29 : decode cX3_init 29 = .ok (.iconst 0, 1) := by decide +kernel
theorem kX3_30 : decode cX3_init 30 = .ok (.putfield 22, 3) := by decide +kernel
theorem kX3_33 : decode cX3_init 33 = .ok (.return_, 1) := by decide +kernel
def nk_V3 (sz : Nat) : Nat → Value := fun k => match k with
  | 0 => .ref (sz + 0)
  | 1 => .ref (sz + 1)
  | 2 => .ref (sz + 2)
  | _ => .int 0
def nk_a3 : List (Nat × Nat) := [(0, 6), (0, 6), (1, 6)]
set_option maxHeartbeats 4000000 in
set_option maxRecDepth 100000 in
theorem nk_X3 (l : Launch) (G : nl_G) (a sz : Nat) (V0 : Nat → Value) : Met l yX3_init (nk_ws yX3_init cX3_init 1) { frames := 1, cells := 3, slots := 18, locals := 30 } (nk_Pc G 3 a sz [] V0) (nk_Qc a sz (nk_Y G 3 a sz nk_a3 (nk_V3 sz))) 3 18 (nk_A a sz) := by
  refine Met.ofW (cc := cX3_init) (maxL := 1) (ret := none) nl_pn3.1 rfl ?_
  intro p e s m args below meth c s₁ B hml hv
  obtain ⟨rfl, hsz, hO, hK, ha⟩ := hv
  have hx := B.exec
  have hb := B.bytes
  have hr := B.returns
  have hlocks := B.notSynchronized
  have hin : meth.name = "<init>" := (name_of_methodNamed B.named B.method).1
  have hown : s.vm.findClass (nl_R 3) = some m.cls := findClass_of_methodNamed B.named
  have hts0 := atoms_spec (ws := nk_ws yX3_init cX3_init 1) B.pre
  have hts : ∀ w ∈ nl_WL, w.before ([Value.ref a] : List Value).toArray s = true := fun w hw => hts0 w (List.mem_cons_of_mem _ hw)
  have X : nk_Cx p s m ([Value.ref a] : List Value).toArray c cX3_init 1 3 G := ⟨hx, hb, hml, hown, hts, hK⟩
  have hl := lv_entry ([.ref a]) (n := 1) (Nat.le_of_ble_eq_true rfl)
  rw [lg_entry_eq]
  generalize (lg_sl ([.ref a]) ++ List.replicate (1 - (lg_sl ([.ref a])).length) Slot.unset).toArray = ls at hl ⊢
  have hl : lv_has ls 1 [(0, .ref a)] := hl
  have hY0 := nk_cI hK
  have hY1 := nk_cZ hK
  have J : nk_J G 3 a sz [] V0 s.heap s.heap [] := ⟨hsz, hO, fun j q h => (by cases h), va_S.rf, ha, hsz⟩
  clear hO
  refine lv_aload_n hx hb kX3_0 rfl (lv_at hl 0 rfl) ?_
  refine W.objInit hx hb hown (hts _ (nl_w1 138 rfl rfl)) (hts _ (nl_w1 20 rfl rfl)) (hts _ (nl_w1 21 rfl rfl)) rfl (by rw [hml]; exact hl.1) rfl kX3_1 (Nat.le_of_ble_eq_true rfl) (Nat.le_of_ble_eq_true rfl) ?_
  refine W.eq (g2 := F0 m 4 ls []) rfl ?_
  refine lv_aload_n hx hb kX3_4 rfl (lv_at hl 0 rfl) ?_
  refine lv_bipush (v := 6) hx hb kX3_5 (by decide) ?_
  refine nk_newa X 0 (N := 6) (nl_w1 59 rfl rfl) hY0 rfl (by decide) (by decide) (by decide) (Nat.le_of_ble_eq_true rfl) (Nat.le_of_ble_eq_true rfl) kX3_7 J fun H J => ?_
  have J : nk_J G 3 a sz [(0, 6)] V0 s.heap H _ := J
  refine W.eq (cells := 1) (slots := 6) (g2 := F0 m 9 ls [.ref (sz + 0), .ref a]) rfl ?_
  refine nk_put X hin (k := 0) (idx := 9) (by decide) (by decide) (by decide) rfl (ty := .array .int) (by decide +kernel) rfl rfl kX3_9 J fun H locs J => ?_
  refine lv_aload_n hx hb kX3_12 rfl (lv_at hl 0 rfl) ?_
  refine lv_bipush (v := 6) hx hb kX3_13 (by decide) ?_
  refine nk_newa X 0 (N := 6) (nl_w1 59 rfl rfl) hY0 rfl (by decide) (by decide) (by decide) (Nat.le_of_ble_eq_true rfl) (Nat.le_of_ble_eq_true rfl) kX3_15 J fun H J => ?_
  have J : nk_J G 3 a sz [(0, 6), (0, 6)] (updV V0 0 (.ref (sz + 0))) s.heap H _ := J
  refine W.eq (cells := 2) (slots := 12) (g2 := F0 m 17 ls [.ref (sz + 1), .ref a]) rfl ?_
  refine nk_put X hin (k := 1) (idx := 15) (by decide) (by decide) (by decide) rfl (ty := .array .int) (by decide +kernel) rfl rfl kX3_17 J fun H locs J => ?_
  refine lv_aload_n hx hb kX3_20 rfl (lv_at hl 0 rfl) ?_
  refine lv_bipush (v := 6) hx hb kX3_21 (by decide) ?_
  refine nk_newa X 1 (N := 6) (nl_w1 153 rfl rfl) hY1 rfl (by decide) (by decide) (by decide) (Nat.le_of_ble_eq_true rfl) (Nat.le_of_ble_eq_true rfl) kX3_23 J fun H J => ?_
  have J : nk_J G 3 a sz [(0, 6), (0, 6), (1, 6)] (updV (updV V0 0 (.ref (sz + 0))) 1 (.ref (sz + 1))) s.heap H _ := J
  refine W.eq (cells := 3) (slots := 18) (g2 := F0 m 25 ls [.ref (sz + 2), .ref a]) rfl ?_
  refine nk_put X hin (k := 2) (idx := 18) (by decide) (by decide) (by decide) rfl (ty := .array .boolean) (by decide +kernel) rfl rfl kX3_25 J fun H locs J => ?_
  refine lv_aload_n hx hb kX3_28 rfl (lv_at hl 0 rfl) ?_
  refine lv_iconst (v := 0) hx hb kX3_29 (by decide) ?_
  refine nk_put X hin (k := 3) (idx := 22) (by decide) (by decide) (by decide) rfl (ty := .int) (by decide +kernel) rfl rfl kX3_30 J fun H locs J => ?_
  obtain ⟨z1, z2, z3, z4, -, -⟩ := J
  have z5 : t_OB a ((gD G).1 3) (nl_N 3) ((gD G).2 3) H (nk_V3 sz) := z2.to fun k hk => by
    match k, hk with
    | 0, _ => rfl
    | 1, _ => rfl
    | 2, _ => rfl
    | 3, _ => rfl
    | n + 4, h => exact absurd (show n + 4 < 4 from h) (by omega)
  exact W.vret hx hb hr (fun t ht hW => ⟨rfl, ⟨by rw [ht]; exact z1, by rw [ht]; exact z5, by rw [ht]; exact z3⟩, z4.F ht⟩) z4.2.2 kX3_33
