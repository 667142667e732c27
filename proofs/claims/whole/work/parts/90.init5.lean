/-! NightLots(): its objects. -/
theorem kX5_0 : decode cX5_init 0 = .ok (.aload_n 0, 1) := by decide +kernel
theorem kX5_1 : decode cX5_init 1 = .ok (.invokespecial 1, 3) := by decide +kernel
theorem kX5_4 : decode cX5_init 4 = .ok (.aload_n 0, 1) := by decide +kernel
theorem kX5_5 : decode cX5_init 5 = .ok (.sipush 200, 3) := by decide +kernel
theorem kX5_8 : decode cX5_init 8 = .ok (.newarray .int, 2) := by decide +kernel
theorem kX5_10 : decode cX5_init 10 = .ok (.putfield 9, 3) := by decide +kernel
theorem kX5_13 : decode cX5_init 13 = .ok (.aload_n 0, 1) := by decide +kernel
theorem kX5_14 : decode cX5_init 14 = .ok (.iconst 0, 1) := by decide +kernel
theorem kX5_15 : decode cX5_init 15 = .ok (.putfield 13, 3) := by decide +kernel
theorem kX5_18 : decode cX5_init 18 = .ok (.aload_n 0, 1) := by decide +kernel
theorem kX5_19 : decode cX5_init 19 = .ok (.new 17, 3) := by decide +kernel
theorem kX5_22 : decode cX5_init 22 = .ok (.dup, 1) := by decide +kernel
theorem kX5_23 : decode cX5_init 23 = .ok (.invokespecial 19, 3) := by decide +kernel
theorem kX5_26 : decode cX5_init 26 = .ok (.putfield 20, 3) := by decide +kernel
theorem kX5_29 : decode cX5_init 29 = .ok (.aload_n 0, 1) := by decide +kernel
theorem kX5_30 : decode cX5_init 30 = .ok (.new 24, 3) := by decide +kernel
theorem kX5_33 : decode cX5_init 33 = .ok (.dup, 1) := by decide +kernel
theorem kX5_34 : decode cX5_init 34 = .ok (.invokespecial 26, 3) := by decide +kernel
theorem kX5_37 : decode cX5_init 37 = .ok (.putfield 27, 3) := by decide +kernel
theorem kX5_40 : decode cX5_init 40 = .ok (.aload_n 0, 1) := by decide +kernel
theorem kX5_41 : decode cX5_init 41 = .ok (.new 24, 3) := by decide +kernel
theorem kX5_44 : decode cX5_init 44 = .ok (.dup, 1) := by decide +kernel
theorem kX5_45 : decode cX5_init 45 = .ok (.invokespecial 26, 3) := by decide +kernel
theorem kX5_48 : decode cX5_init 48 = .ok (.putfield 31, 3) := by decide +kernel
theorem kX5_51 : decode cX5_init 51 = .ok (.aload_n 0, 1) := by decide +kernel
theorem kX5_52 : decode cX5_init 52 = .ok (.new 34, 3) := by decide +kernel
theorem kX5_55 : decode cX5_init 55 = .ok (.dup, 1) := by decide +kernel
theorem kX5_56 : decode cX5_init 56 = .ok (.bipush 8, 2) := by decide +kernel
theorem kX5_58 : decode cX5_init 58 = .ok (.invokespecial 36, 3) := by decide +kernel
theorem kX5_61 : decode cX5_init 61 = .ok (.putfield 39, 3) := by decide +kernel
theorem kX5_64 : decode cX5_init 64 = .ok (.aload_n 0, 1) := by decide +kernel
theorem kX5_65 : decode cX5_init 65 = .ok (.new 34, 3) := by decide +kernel
theorem kX5_68 : decode cX5_init 68 = .ok (.dup, 1) := by decide +kernel
theorem kX5_69 : decode cX5_init 69 = .ok (.iconst 2, 1) := by decide +kernel
theorem kX5_70 : decode cX5_init 70 = .ok (.invokespecial 36, 3) := by decide +kernel
theorem kX5_73 : decode cX5_init 73 = .ok (.putfield 43, 3) := by decide +kernel
theorem kX5_76 : decode cX5_init 76 = .ok (.aload_n 0, 1) := by decide +kernel
theorem kX5_77 : decode cX5_init 77 = .ok (.new 46, 3) := by decide +kernel
theorem kX5_80 : decode cX5_init 80 = .ok (.dup, 1) := by decide +kernel
theorem kX5_81 : decode cX5_init 81 = .ok (.invokespecial 48, 3) := by decide +kernel
theorem kX5_84 : decode cX5_init 84 = .ok (.putfield 49, 3) := by decide +kernel
theorem kX5_87 : decode cX5_init 87 = .ok (.aload_n 0, 1) := by decide +kernel
theorem kX5_88 : decode cX5_init 88 = .ok (.new 53, 3) := by decide +kernel
theorem kX5_91 : decode cX5_init 91 = .ok (.dup, 1) := by decide +kernel
theorem kX5_92 : decode cX5_init 92 = .ok (.invokespecial 55, 3) := by decide +kernel
theorem kX5_95 : decode cX5_init 95 = .ok (.putfield 56, 3) := by decide +kernel
theorem kX5_98 : decode cX5_init 98 = .ok (.iconst 0, 1) := by decide +kernel
theorem kX5_99 : decode cX5_init 99 = .ok (.istore_n 1, 1) := by decide +kernel
theorem kX5_100 : decode cX5_init 100 = .ok (.iload_n 1, 1) := by decide +kernel
theorem kX5_101 : decode cX5_init 101 = .ok (.ldc 60, 2) := by decide +kernel
theorem kX5_103 : decode cX5_init 103 = .ok (.invokevirtual 62, 3) := by decide +kernel
theorem kX5_106 : decode cX5_init 106 = .ok (.if_icmp .ge 20, 3) := by decide +kernel
theorem kX5_109 : decode cX5_init 109 = .ok (.aload_n 0, 1) := by decide +kernel
theorem kX5_110 : decode cX5_init 110 = .ok (.ldc 60, 2) := by decide +kernel
theorem kX5_112 : decode cX5_init 112 = .ok (.iload_n 1, 1) := by decide +kernel
theorem kX5_113 : decode cX5_init 113 = .ok (.invokevirtual 68, 3) := by decide +kernel
theorem kX5_116 : decode cX5_init 116 = .ok (.invokevirtual 72, 3) := by decide +kernel
theorem kX5_119 : decode cX5_init 119 = .ok (.pop, 1) := by decide +kernel
theorem kX5_120 : decode cX5_init 120 = .ok (.iinc 1 1, 3) := by decide +kernel
theorem kX5_123 : decode cX5_init 123 = .ok (.goto (-23), 3) := by decide +kernel
theorem kX5_126 : decode cX5_init 126 = .ok (.aload_n 0, 1) := by decide +kernel
theorem kX5_127 : decode cX5_init 127 = .ok (.invokevirtual 76, 3) := by decide +kernel
theorem kX5_130 : decode cX5_init 130 = .ok (.pop, 1) := by decide +kernel
theorem kX5_131 : decode cX5_init 131 = .ok (.aload_n 0, 1) := by decide +kernel
theorem kX5_132 : decode cX5_init 132 = .ok (.invokevirtual 79, 3) := by decide +kernel
theorem kX5_135 : decode cX5_init 135 = .ok (.pop, 1) := by decide +kernel
theorem kX5_136 : decode cX5_init 136 = .ok (.return_, 1) := by decide +kernel
def nk_pl (G : nl_G) (c a : Nat) (ar : List (Nat × Nat)) (V : Nat → Nat → Value) (H : Heap) : Prop := t_OB a ((gD G).1 c) (nl_N c) ((gD G).2 c) H (V (a + 1)) ∧ nk_ar G ar (a + 1) H
theorem nk_pl.kept {G : nl_G} {c a : Nat} {ar : List (Nat × Nat)} {V : Nat → Nat → Value} {H H1 : Heap} (h : nk_pl G c a ar V H) (hq : ∀ q, a ≤ q → q < a + 1 + ar.length → H1[q]? = H[q]?) : nk_pl G c a ar V H1 :=
  ⟨h.1.kept (hq a (by omega) (by omega)), h.2.kept fun q h1 h2 => hq q (by omega) h2⟩
def nk_Sh (G : nl_G) (a N : Nat) (H : Heap) : Prop :=
  t_OB a ((gD G).1 2) (nl_N 2) ((gD G).2 2) H (nk_V2 (a + 1)) ∧ H[a + 1]? = some (arrV (gY G 2) N (fun j => .ref (a + 2 + 9 * j))) ∧ ∀ j, j < N → nk_val G (a + 2 + 9 * j) H
theorem nk_Sh.kept {G : nl_G} {a N : Nat} {H H1 : Heap} (h : nk_Sh G a N H) (hq : ∀ q, a ≤ q → q < a + 2 + 9 * N → H1[q]? = H[q]?) : nk_Sh G a N H1 :=
  ⟨h.1.kept (hq a (by omega) (by omega)), by rw [hq (a + 1) (by omega) (by omega)]; exact h.2.1, fun j hj => (h.2.2 j hj).kept fun q h1 h2 => hq q (by omega) (by omega)⟩
theorem nk_Sh.of {G : nl_G} {a N : Nat} {H : Heap} (h : nk_S G a (a + 1) N N H) : nk_Sh G a N H := by
  obtain ⟨-, h2, h3, h4⟩ := h
  refine ⟨h2, ?_, fun j hj => ?_⟩
  · rw [h3]
    congr 1
    refine nk_arrV fun j hj => ?_
    rw [if_pos hj]
  · have := h4 j hj
    rw [show a + 2 + 9 * j = a + 1 + 1 + 9 * j by omega]
    exact this
def nk_V5 (B : Nat) : Nat → Value := fun k => match k with
  | 0 => .ref (B + 1)
  | 1 => .int 0
  | 2 => .ref (B + 2)
  | 3 => .ref (B + 8)
  | 4 => .ref (B + 17)
  | 5 => .ref (B + 26)
  | 6 => .ref (B + 100)
  | 7 => .ref (B + 120)
  | _ => .ref (B + 124)
def nk_F (G : nl_G) (B : Nat) (H : Heap) : Prop := H.size = B + 130 ∧ t_OB B ((gD G).1 5) (nl_N 5) ((gD G).2 5) H (nk_V5 B) ∧ nk_ar G [(0, 200)] (B + 1) H ∧ nk_pl G 1 (B + 2) nk_a1 nk_V1 H ∧ nk_pl G 4 (B + 8) nk_a4 nk_V4 H ∧ nk_pl G 4 (B + 17) nk_a4 nk_V4 H ∧ nk_Sh G (B + 26) 8 H ∧ nk_Sh G (B + 100) 2 H ∧ nk_pl G 3 (B + 120) nk_a3 nk_V3 H ∧ nk_pl G 0 (B + 124) nk_a0 nk_V0 H
section NK5
variable {p : Program} {l : Launch} {e : Env} {R : Room} {s : State} {m : MethodId} {args : Array Value} {below : List Frame} {meth : Method} {c : Code} {Q : State → Prop} {G : nl_G} {ls : Array Slot}
set_option maxHeartbeats 4000000 in
theorem nk_sub0 {B : Nat} {V : Nat → Value} {H0 : Heap} {locs0 : List Loc} (X : nk_Cx p s m args c cX5_init 2 5 G) (hK : nk_K G s) (hin : meth.name = "<init>") (hl : lv_has ls 2 [(0, .ref B)]) (hRf : 5 ≤ R.frames) (hRl : 200 ≤ R.locals) (hRc : 129 ≤ R.cells) (hRs : 1787 ≤ R.slots) (zH0 : H0.size = B + 2) (hO0 : t_OB B ((gD G).1 5) (nl_N 5) ((gD G).2 5) H0 V) (hS0 : va_S (fun q => B ≤ q) s.heap H0 locs0)
    (kk : ∀ (H' : Heap) (locs' : List Loc), H'.size = B + 8 → t_OB B ((gD G).1 5) (nl_N 5) ((gD G).2 5) H' (updV V 2 (.ref (B + 2))) → (∀ q, q < B + 2 → q ≠ B → H'[q]? = H0[q]?) → nk_pl G 1 (B + 2) nk_a1 nk_V1 H' → va_S (fun q => B ≤ q) s.heap H' locs' → W p l e R s m args below meth c H' locs' 7 239 Q (F0 m 29 ls [])) : W p l e R s m args below meth c H0 locs0 1 200 Q (F0 m 18 ls []) := by
  obtain ⟨hx, hb, hml, hown, hts, hKl⟩ := X
  have X : nk_Cx p s m args c cX5_init 2 5 G := ⟨hx, hb, hml, hown, hts, hKl⟩
  refine lv_aload_n hx hb kX5_18 rfl (lv_at hl 0 rfl) ?_
  refine nk_new X (c2 := 1) (idx := 17) (N := 8) (by decide) (nl_w1 22 rfl rfl) (nl_w1 23 rfl rfl) (nl_w1 2 rfl rfl) (by omega) (by omega) kX5_19 hS0 (fun Ha0 za0 oa0 ba0 hSa0 => ?_)
  rw [zH0] at za0 oa0 ba0 ⊢
  refine W.eq (cells := 2) (slots := 208) (g2 := F0 m 22 ls [.ref (B + 2), .ref B]) rfl ?_
  refine lv_dup hx hb kX5_22 rfl ?_
  refine nk_call (b := B + 2) (mc := 5) (ms := 31) (Y := nk_Y G 1 (B + 2) Ha0.size nk_a1 (nk_V1 Ha0.size)) (rest := [.ref (B + 2), .ref B]) (nk_runN X (idx := 19) (y := yX1_init) (bytes := cX1_init) (maxL := 1) (ex := []) (nk_X1 l G (B + 2) Ha0.size _) (nk_Pc_pre rfl ba0 hK.1 (by omega)) (nl_w1 26 rfl rfl) (nl_w1 2 rfl rfl) (nl_w1 25 rfl rfl) rfl ⟨nl_pn1.2.1, nl_pn1.2.2, by decide +kernel⟩ rfl rfl hK.2.1 ⟨by show 1 + 1 ≤ _; omega, by show 8 + (1 + 11) + 30 ≤ _; omega⟩ hl.1 (Nat.le_of_ble_eq_true rfl) kX5_23 ⟨by omega, by omega⟩) hSa0 (fun q z => by rcases z with z | z <;> (show B ≤ q) <;> omega) (fun Hb0 locsb0 hY0 ob0 hSb0 => ?_)
  rw [za0] at hY0 ob0
  refine W.eq (cells := 7) (slots := 239) (g2 := F0 m 26 ls [.ref (B + 2), .ref B]) rfl ?_
  refine nk_put0 X hin (k := 2) (idx := 20) (by decide) (by decide) (by decide) rfl (ty := .object RX1) (by decide +kernel) rfl rfl kX5_26 (hO0.kept (by rw [ob0 B (by omega) (by omega), oa0 B (by omega)])) hSb0 (Nat.le_refl B) (fun H1 locs1 hO1 zc0 oc0 hS1 => ?_)
  have oc0 : ∀ q : Nat, q ≠ B → H1[q]? = Hb0[q]? := oc0
  have o0 : ∀ q, q < B + 2 → q ≠ B → H1[q]? = H0[q]? := fun q h1 h2 => by rw [oc0 q h2, ob0 q (by omega) (by omega), oa0 q (by omega)]
  have zH1 : H1.size = B + 8 := by have h8 : nk_a1.length = 5 := rfl; have := hY0.1; omega
  have Fx0 : nk_pl G 1 (B + 2) nk_a1 nk_V1 H1 := nk_pl.kept (H := Hb0) ⟨hY0.2.1, hY0.2.2⟩ (fun q h1 h2 => oc0 q (by omega))
  exact kk H1 locs1 zH1 hO1 o0 Fx0 hS1
set_option maxHeartbeats 4000000 in
theorem nk_sub1 {B : Nat} {V : Nat → Value} {H1 : Heap} {locs1 : List Loc} (X : nk_Cx p s m args c cX5_init 2 5 G) (hK : nk_K G s) (hin : meth.name = "<init>") (hl : lv_has ls 2 [(0, .ref B)]) (hRf : 5 ≤ R.frames) (hRl : 200 ≤ R.locals) (hRc : 129 ≤ R.cells) (hRs : 1787 ≤ R.slots) (zH1 : H1.size = B + 8) (hO1 : t_OB B ((gD G).1 5) (nl_N 5) ((gD G).2 5) H1 V) (hS1 : va_S (fun q => B ≤ q) s.heap H1 locs1)
    (kk : ∀ (H' : Heap) (locs' : List Loc), H'.size = B + 17 → t_OB B ((gD G).1 5) (nl_N 5) ((gD G).2 5) H' (updV V 3 (.ref (B + 8))) → (∀ q, q < B + 8 → q ≠ B → H'[q]? = H1[q]?) → nk_pl G 4 (B + 8) nk_a4 nk_V4 H' → va_S (fun q => B ≤ q) s.heap H' locs' → W p l e R s m args below meth c H' locs' 16 348 Q (F0 m 40 ls [])) : W p l e R s m args below meth c H1 locs1 7 239 Q (F0 m 29 ls []) := by
  obtain ⟨hx, hb, hml, hown, hts, hKl⟩ := X
  have X : nk_Cx p s m args c cX5_init 2 5 G := ⟨hx, hb, hml, hown, hts, hKl⟩
  refine lv_aload_n hx hb kX5_29 rfl (lv_at hl 0 rfl) ?_
  refine nk_new X (c2 := 4) (idx := 24) (N := 11) (by decide) (nl_w1 60 rfl rfl) (nl_w1 61 rfl rfl) (nl_w1 3 rfl rfl) (by omega) (by omega) kX5_30 hS1 (fun Ha1 za1 oa1 ba1 hSa1 => ?_)
  rw [zH1] at za1 oa1 ba1 ⊢
  refine W.eq (cells := 8) (slots := 250) (g2 := F0 m 33 ls [.ref (B + 8), .ref B]) rfl ?_
  refine lv_dup hx hb kX5_33 rfl ?_
  refine nk_call (b := B + 8) (mc := 8) (ms := 98) (Y := nk_Y G 4 (B + 8) Ha1.size nk_a4 (nk_V4 Ha1.size)) (rest := [.ref (B + 8), .ref B]) (nk_runN X (idx := 26) (y := yX4_init) (bytes := cX4_init) (maxL := 1) (ex := []) (nk_X4 l G (B + 8) Ha1.size _) (nk_Pc_pre rfl ba1 hK.1 (by omega)) (nl_w1 64 rfl rfl) (nl_w1 3 rfl rfl) (nl_w1 63 rfl rfl) rfl ⟨nl_pn4.2.1, nl_pn4.2.2, by decide +kernel⟩ rfl rfl hK.2.2.1 ⟨by show 1 + 1 ≤ _; omega, by show 8 + (1 + 11) + 30 ≤ _; omega⟩ hl.1 (Nat.le_of_ble_eq_true rfl) kX5_34 ⟨by omega, by omega⟩) hSa1 (fun q z => by rcases z with z | z <;> (show B ≤ q) <;> omega) (fun Hb1 locsb1 hY1 ob1 hSb1 => ?_)
  rw [za1] at hY1 ob1
  refine W.eq (cells := 16) (slots := 348) (g2 := F0 m 37 ls [.ref (B + 8), .ref B]) rfl ?_
  refine nk_put0 X hin (k := 3) (idx := 27) (by decide) (by decide) (by decide) rfl (ty := .object RX4) (by decide +kernel) rfl rfl kX5_37 (hO1.kept (by rw [ob1 B (by omega) (by omega), oa1 B (by omega)])) hSb1 (Nat.le_refl B) (fun H2 locs2 hO2 zc1 oc1 hS2 => ?_)
  have oc1 : ∀ q : Nat, q ≠ B → H2[q]? = Hb1[q]? := oc1
  have o1 : ∀ q, q < B + 8 → q ≠ B → H2[q]? = H1[q]? := fun q h1 h2 => by rw [oc1 q h2, ob1 q (by omega) (by omega), oa1 q (by omega)]
  have zH2 : H2.size = B + 17 := by have h8 : nk_a4.length = 8 := rfl; have := hY1.1; omega
  have Fx1 : nk_pl G 4 (B + 8) nk_a4 nk_V4 H2 := nk_pl.kept (H := Hb1) ⟨hY1.2.1, hY1.2.2⟩ (fun q h1 h2 => oc1 q (by omega))
  exact kk H2 locs2 zH2 hO2 o1 Fx1 hS2
set_option maxHeartbeats 4000000 in
theorem nk_sub2 {B : Nat} {V : Nat → Value} {H2 : Heap} {locs2 : List Loc} (X : nk_Cx p s m args c cX5_init 2 5 G) (hK : nk_K G s) (hin : meth.name = "<init>") (hl : lv_has ls 2 [(0, .ref B)]) (hRf : 5 ≤ R.frames) (hRl : 200 ≤ R.locals) (hRc : 129 ≤ R.cells) (hRs : 1787 ≤ R.slots) (zH2 : H2.size = B + 17) (hO2 : t_OB B ((gD G).1 5) (nl_N 5) ((gD G).2 5) H2 V) (hS2 : va_S (fun q => B ≤ q) s.heap H2 locs2)
    (kk : ∀ (H' : Heap) (locs' : List Loc), H'.size = B + 26 → t_OB B ((gD G).1 5) (nl_N 5) ((gD G).2 5) H' (updV V 4 (.ref (B + 17))) → (∀ q, q < B + 17 → q ≠ B → H'[q]? = H2[q]?) → nk_pl G 4 (B + 17) nk_a4 nk_V4 H' → va_S (fun q => B ≤ q) s.heap H' locs' → W p l e R s m args below meth c H' locs' 25 457 Q (F0 m 51 ls [])) : W p l e R s m args below meth c H2 locs2 16 348 Q (F0 m 40 ls []) := by
  obtain ⟨hx, hb, hml, hown, hts, hKl⟩ := X
  have X : nk_Cx p s m args c cX5_init 2 5 G := ⟨hx, hb, hml, hown, hts, hKl⟩
  refine lv_aload_n hx hb kX5_40 rfl (lv_at hl 0 rfl) ?_
  refine nk_new X (c2 := 4) (idx := 24) (N := 11) (by decide) (nl_w1 60 rfl rfl) (nl_w1 61 rfl rfl) (nl_w1 3 rfl rfl) (by omega) (by omega) kX5_41 hS2 (fun Ha2 za2 oa2 ba2 hSa2 => ?_)
  rw [zH2] at za2 oa2 ba2 ⊢
  refine W.eq (cells := 17) (slots := 359) (g2 := F0 m 44 ls [.ref (B + 17), .ref B]) rfl ?_
  refine lv_dup hx hb kX5_44 rfl ?_
  refine nk_call (b := B + 17) (mc := 8) (ms := 98) (Y := nk_Y G 4 (B + 17) Ha2.size nk_a4 (nk_V4 Ha2.size)) (rest := [.ref (B + 17), .ref B]) (nk_runN X (idx := 26) (y := yX4_init) (bytes := cX4_init) (maxL := 1) (ex := []) (nk_X4 l G (B + 17) Ha2.size _) (nk_Pc_pre rfl ba2 hK.1 (by omega)) (nl_w1 64 rfl rfl) (nl_w1 3 rfl rfl) (nl_w1 63 rfl rfl) rfl ⟨nl_pn4.2.1, nl_pn4.2.2, by decide +kernel⟩ rfl rfl hK.2.2.1 ⟨by show 1 + 1 ≤ _; omega, by show 8 + (1 + 11) + 30 ≤ _; omega⟩ hl.1 (Nat.le_of_ble_eq_true rfl) kX5_45 ⟨by omega, by omega⟩) hSa2 (fun q z => by rcases z with z | z <;> (show B ≤ q) <;> omega) (fun Hb2 locsb2 hY2 ob2 hSb2 => ?_)
  rw [za2] at hY2 ob2
  refine W.eq (cells := 25) (slots := 457) (g2 := F0 m 48 ls [.ref (B + 17), .ref B]) rfl ?_
  refine nk_put0 X hin (k := 4) (idx := 31) (by decide) (by decide) (by decide) rfl (ty := .object RX4) (by decide +kernel) rfl rfl kX5_48 (hO2.kept (by rw [ob2 B (by omega) (by omega), oa2 B (by omega)])) hSb2 (Nat.le_refl B) (fun H3 locs3 hO3 zc2 oc2 hS3 => ?_)
  have oc2 : ∀ q : Nat, q ≠ B → H3[q]? = Hb2[q]? := oc2
  have o2 : ∀ q, q < B + 17 → q ≠ B → H3[q]? = H2[q]? := fun q h1 h2 => by rw [oc2 q h2, ob2 q (by omega) (by omega), oa2 q (by omega)]
  have zH3 : H3.size = B + 26 := by have h8 : nk_a4.length = 8 := rfl; have := hY2.1; omega
  have Fx2 : nk_pl G 4 (B + 17) nk_a4 nk_V4 H3 := nk_pl.kept (H := Hb2) ⟨hY2.2.1, hY2.2.2⟩ (fun q h1 h2 => oc2 q (by omega))
  exact kk H3 locs3 zH3 hO3 o2 Fx2 hS3
set_option maxHeartbeats 4000000 in
theorem nk_sub3 {B : Nat} {V : Nat → Value} {H3 : Heap} {locs3 : List Loc} (X : nk_Cx p s m args c cX5_init 2 5 G) (hK : nk_K G s) (hin : meth.name = "<init>") (hl : lv_has ls 2 [(0, .ref B)]) (hRf : 5 ≤ R.frames) (hRl : 200 ≤ R.locals) (hRc : 129 ≤ R.cells) (hRs : 1787 ≤ R.slots) (zH3 : H3.size = B + 26) (hO3 : t_OB B ((gD G).1 5) (nl_N 5) ((gD G).2 5) H3 V) (hS3 : va_S (fun q => B ≤ q) s.heap H3 locs3)
    (kk : ∀ (H' : Heap) (locs' : List Loc), H'.size = B + 100 → t_OB B ((gD G).1 5) (nl_N 5) ((gD G).2 5) H' (updV V 5 (.ref (B + 26))) → (∀ q, q < B + 26 → q ≠ B → H'[q]? = H3[q]?) → nk_Sh G (B + 26) 8 H' → va_S (fun q => B ≤ q) s.heap H' locs' → W p l e R s m args below meth c H' locs' 99 1339 Q (F0 m 64 ls [])) : W p l e R s m args below meth c H3 locs3 25 457 Q (F0 m 51 ls []) := by
  obtain ⟨hx, hb, hml, hown, hts, hKl⟩ := X
  have X : nk_Cx p s m args c cX5_init 2 5 G := ⟨hx, hb, hml, hown, hts, hKl⟩
  refine lv_aload_n hx hb kX5_51 rfl (lv_at hl 0 rfl) ?_
  refine nk_new X (c2 := 2) (idx := 34) (N := 2) (by decide) (nl_w1 113 rfl rfl) (nl_w1 114 rfl rfl) (nl_w1 4 rfl rfl) (by omega) (by omega) kX5_52 hS3 (fun Ha3 za3 oa3 ba3 hSa3 => ?_)
  rw [zH3] at za3 oa3 ba3 ⊢
  refine W.eq (cells := 26) (slots := 459) (g2 := F0 m 55 ls [.ref (B + 26), .ref B]) rfl ?_
  refine lv_dup hx hb kX5_55 rfl ?_
  refine lv_bipush (v := 8) hx hb kX5_56 (by decide) ?_
  refine nk_call (b := B + 26) (mc := 73) (ms := 880) (Y := nk_S G (B + 26) Ha3.size 8 8) (rest := [.ref (B + 26), .ref B]) (nk_runI X (idx := 36) (mc := 73) (ms := 880) (y := yX2_init) (bytes := cX2_init) (maxL := 3) (ex := [.int 8]) (nk_X2 l G (B + 26) Ha3.size _ 8 8 (by decide) (by decide) (by decide) (by decide)) (nk_Pk_pre rfl ba3 hK (by omega)) (nl_w1 117 rfl rfl) (nl_w1 4 rfl rfl) (nl_w1 116 rfl rfl) rfl ⟨nl_pn2.2.1, nl_pn2.2.2, by show _ = some 1; decide +kernel⟩ rfl rfl (nl_w1 115 rfl rfl) ⟨by show 3 + 1 ≤ _; omega, by show 8 + (3 + 11) + 70 ≤ _; omega⟩ hl.1 (Nat.le_of_ble_eq_true rfl) kX5_58 ⟨by omega, by omega⟩) hSa3 (fun q z => by rcases z with z | z <;> (show B ≤ q) <;> omega) (fun Hb3 locsb3 hY3 ob3 hSb3 => ?_)
  rw [za3] at hY3 ob3
  refine W.eq (cells := 99) (slots := 1339) (g2 := F0 m 61 ls [.ref (B + 26), .ref B]) rfl ?_
  refine nk_put0 X hin (k := 5) (idx := 39) (by decide) (by decide) (by decide) rfl (ty := .object RX2) (by decide +kernel) rfl rfl kX5_61 (hO3.kept (by rw [ob3 B (by omega) (by omega), oa3 B (by omega)])) hSb3 (Nat.le_refl B) (fun H4 locs4 hO4 zc3 oc3 hS4 => ?_)
  have oc3 : ∀ q : Nat, q ≠ B → H4[q]? = Hb3[q]? := oc3
  have o3 : ∀ q, q < B + 26 → q ≠ B → H4[q]? = H3[q]? := fun q h1 h2 => by rw [oc3 q h2, ob3 q (by omega) (by omega), oa3 q (by omega)]
  have zH4 : H4.size = B + 100 := by have := hY3.1; omega
  have Fx3 : nk_Sh G (B + 26) 8 H4 := nk_Sh.kept (nk_Sh.of hY3) (fun q h1 h2 => oc3 q (by omega))
  exact kk H4 locs4 zH4 hO4 o3 Fx3 hS4
set_option maxHeartbeats 4000000 in
theorem nk_sub4 {B : Nat} {V : Nat → Value} {H4 : Heap} {locs4 : List Loc} (X : nk_Cx p s m args c cX5_init 2 5 G) (hK : nk_K G s) (hin : meth.name = "<init>") (hl : lv_has ls 2 [(0, .ref B)]) (hRf : 5 ≤ R.frames) (hRl : 200 ≤ R.locals) (hRc : 129 ≤ R.cells) (hRs : 1787 ≤ R.slots) (zH4 : H4.size = B + 100) (hO4 : t_OB B ((gD G).1 5) (nl_N 5) ((gD G).2 5) H4 V) (hS4 : va_S (fun q => B ≤ q) s.heap H4 locs4)
    (kk : ∀ (H' : Heap) (locs' : List Loc), H'.size = B + 120 → t_OB B ((gD G).1 5) (nl_N 5) ((gD G).2 5) H' (updV V 6 (.ref (B + 100))) → (∀ q, q < B + 100 → q ≠ B → H'[q]? = H4[q]?) → nk_Sh G (B + 100) 2 H' → va_S (fun q => B ≤ q) s.heap H' locs' → W p l e R s m args below meth c H' locs' 119 1561 Q (F0 m 76 ls [])) : W p l e R s m args below meth c H4 locs4 99 1339 Q (F0 m 64 ls []) := by
  obtain ⟨hx, hb, hml, hown, hts, hKl⟩ := X
  have X : nk_Cx p s m args c cX5_init 2 5 G := ⟨hx, hb, hml, hown, hts, hKl⟩
  refine lv_aload_n hx hb kX5_64 rfl (lv_at hl 0 rfl) ?_
  refine nk_new X (c2 := 2) (idx := 34) (N := 2) (by decide) (nl_w1 113 rfl rfl) (nl_w1 114 rfl rfl) (nl_w1 4 rfl rfl) (by omega) (by omega) kX5_65 hS4 (fun Ha4 za4 oa4 ba4 hSa4 => ?_)
  rw [zH4] at za4 oa4 ba4 ⊢
  refine W.eq (cells := 100) (slots := 1341) (g2 := F0 m 68 ls [.ref (B + 100), .ref B]) rfl ?_
  refine lv_dup hx hb kX5_68 rfl ?_
  refine lv_iconst (v := 2) hx hb kX5_69 (by decide) ?_
  refine nk_call (b := B + 100) (mc := 19) (ms := 220) (Y := nk_S G (B + 100) Ha4.size 2 2) (rest := [.ref (B + 100), .ref B]) (nk_runI X (idx := 36) (mc := 19) (ms := 220) (y := yX2_init) (bytes := cX2_init) (maxL := 3) (ex := [.int 2]) (nk_X2 l G (B + 100) Ha4.size _ 2 2 (by decide) (by decide) (by decide) (by decide)) (nk_Pk_pre rfl ba4 hK (by omega)) (nl_w1 117 rfl rfl) (nl_w1 4 rfl rfl) (nl_w1 116 rfl rfl) rfl ⟨nl_pn2.2.1, nl_pn2.2.2, by show _ = some 1; decide +kernel⟩ rfl rfl (nl_w1 115 rfl rfl) ⟨by show 3 + 1 ≤ _; omega, by show 8 + (3 + 11) + 70 ≤ _; omega⟩ hl.1 (Nat.le_of_ble_eq_true rfl) kX5_70 ⟨by omega, by omega⟩) hSa4 (fun q z => by rcases z with z | z <;> (show B ≤ q) <;> omega) (fun Hb4 locsb4 hY4 ob4 hSb4 => ?_)
  rw [za4] at hY4 ob4
  refine W.eq (cells := 119) (slots := 1561) (g2 := F0 m 73 ls [.ref (B + 100), .ref B]) rfl ?_
  refine nk_put0 X hin (k := 6) (idx := 43) (by decide) (by decide) (by decide) rfl (ty := .object RX2) (by decide +kernel) rfl rfl kX5_73 (hO4.kept (by rw [ob4 B (by omega) (by omega), oa4 B (by omega)])) hSb4 (Nat.le_refl B) (fun H5 locs5 hO5 zc4 oc4 hS5 => ?_)
  have oc4 : ∀ q : Nat, q ≠ B → H5[q]? = Hb4[q]? := oc4
  have o4 : ∀ q, q < B + 100 → q ≠ B → H5[q]? = H4[q]? := fun q h1 h2 => by rw [oc4 q h2, ob4 q (by omega) (by omega), oa4 q (by omega)]
  have zH5 : H5.size = B + 120 := by have := hY4.1; omega
  have Fx4 : nk_Sh G (B + 100) 2 H5 := nk_Sh.kept (nk_Sh.of hY4) (fun q h1 h2 => oc4 q (by omega))
  exact kk H5 locs5 zH5 hO5 o4 Fx4 hS5
set_option maxHeartbeats 4000000 in
theorem nk_sub5 {B : Nat} {V : Nat → Value} {H5 : Heap} {locs5 : List Loc} (X : nk_Cx p s m args c cX5_init 2 5 G) (hK : nk_K G s) (hin : meth.name = "<init>") (hl : lv_has ls 2 [(0, .ref B)]) (hRf : 5 ≤ R.frames) (hRl : 200 ≤ R.locals) (hRc : 129 ≤ R.cells) (hRs : 1787 ≤ R.slots) (zH5 : H5.size = B + 120) (hO5 : t_OB B ((gD G).1 5) (nl_N 5) ((gD G).2 5) H5 V) (hS5 : va_S (fun q => B ≤ q) s.heap H5 locs5)
    (kk : ∀ (H' : Heap) (locs' : List Loc), H'.size = B + 124 → t_OB B ((gD G).1 5) (nl_N 5) ((gD G).2 5) H' (updV V 7 (.ref (B + 120))) → (∀ q, q < B + 120 → q ≠ B → H'[q]? = H5[q]?) → nk_pl G 3 (B + 120) nk_a3 nk_V3 H' → va_S (fun q => B ≤ q) s.heap H' locs' → W p l e R s m args below meth c H' locs' 123 1583 Q (F0 m 87 ls [])) : W p l e R s m args below meth c H5 locs5 119 1561 Q (F0 m 76 ls []) := by
  obtain ⟨hx, hb, hml, hown, hts, hKl⟩ := X
  have X : nk_Cx p s m args c cX5_init 2 5 G := ⟨hx, hb, hml, hown, hts, hKl⟩
  refine lv_aload_n hx hb kX5_76 rfl (lv_at hl 0 rfl) ?_
  refine nk_new X (c2 := 3) (idx := 46) (N := 4) (by decide) (nl_w1 133 rfl rfl) (nl_w1 134 rfl rfl) (nl_w1 6 rfl rfl) (by omega) (by omega) kX5_77 hS5 (fun Ha5 za5 oa5 ba5 hSa5 => ?_)
  rw [zH5] at za5 oa5 ba5 ⊢
  refine W.eq (cells := 120) (slots := 1565) (g2 := F0 m 80 ls [.ref (B + 120), .ref B]) rfl ?_
  refine lv_dup hx hb kX5_80 rfl ?_
  refine nk_call (b := B + 120) (mc := 3) (ms := 18) (Y := nk_Y G 3 (B + 120) Ha5.size nk_a3 (nk_V3 Ha5.size)) (rest := [.ref (B + 120), .ref B]) (nk_runN X (idx := 48) (y := yX3_init) (bytes := cX3_init) (maxL := 1) (ex := []) (nk_X3 l G (B + 120) Ha5.size _) (nk_Pc_pre rfl ba5 hK.1 (by omega)) (nl_w1 137 rfl rfl) (nl_w1 6 rfl rfl) (nl_w1 136 rfl rfl) rfl ⟨nl_pn3.2.1, nl_pn3.2.2, by decide +kernel⟩ rfl rfl hK.2.2.2.2.1 ⟨by show 1 + 1 ≤ _; omega, by show 8 + (1 + 11) + 30 ≤ _; omega⟩ hl.1 (Nat.le_of_ble_eq_true rfl) kX5_81 ⟨by omega, by omega⟩) hSa5 (fun q z => by rcases z with z | z <;> (show B ≤ q) <;> omega) (fun Hb5 locsb5 hY5 ob5 hSb5 => ?_)
  rw [za5] at hY5 ob5
  refine W.eq (cells := 123) (slots := 1583) (g2 := F0 m 84 ls [.ref (B + 120), .ref B]) rfl ?_
  refine nk_put0 X hin (k := 7) (idx := 49) (by decide) (by decide) (by decide) rfl (ty := .object RX3) (by decide +kernel) rfl rfl kX5_84 (hO5.kept (by rw [ob5 B (by omega) (by omega), oa5 B (by omega)])) hSb5 (Nat.le_refl B) (fun H6 locs6 hO6 zc5 oc5 hS6 => ?_)
  have oc5 : ∀ q : Nat, q ≠ B → H6[q]? = Hb5[q]? := oc5
  have o5 : ∀ q, q < B + 120 → q ≠ B → H6[q]? = H5[q]? := fun q h1 h2 => by rw [oc5 q h2, ob5 q (by omega) (by omega), oa5 q (by omega)]
  have zH6 : H6.size = B + 124 := by have h8 : nk_a3.length = 3 := rfl; have := hY5.1; omega
  have Fx5 : nk_pl G 3 (B + 120) nk_a3 nk_V3 H6 := nk_pl.kept (H := Hb5) ⟨hY5.2.1, hY5.2.2⟩ (fun q h1 h2 => oc5 q (by omega))
  exact kk H6 locs6 zH6 hO6 o5 Fx5 hS6
set_option maxHeartbeats 4000000 in
theorem nk_sub6 {B : Nat} {V : Nat → Value} {H6 : Heap} {locs6 : List Loc} (X : nk_Cx p s m args c cX5_init 2 5 G) (hK : nk_K G s) (hin : meth.name = "<init>") (hl : lv_has ls 2 [(0, .ref B)]) (hRf : 5 ≤ R.frames) (hRl : 200 ≤ R.locals) (hRc : 129 ≤ R.cells) (hRs : 1787 ≤ R.slots) (zH6 : H6.size = B + 124) (hO6 : t_OB B ((gD G).1 5) (nl_N 5) ((gD G).2 5) H6 V) (hS6 : va_S (fun q => B ≤ q) s.heap H6 locs6)
    (kk : ∀ (H' : Heap) (locs' : List Loc), H'.size = B + 130 → t_OB B ((gD G).1 5) (nl_N 5) ((gD G).2 5) H' (updV V 8 (.ref (B + 124))) → (∀ q, q < B + 124 → q ≠ B → H'[q]? = H6[q]?) → nk_pl G 0 (B + 124) nk_a0 nk_V0 H' → va_S (fun q => B ≤ q) s.heap H' locs' → W p l e R s m args below meth c H' locs' 129 1787 Q (F0 m 98 ls [])) : W p l e R s m args below meth c H6 locs6 123 1583 Q (F0 m 87 ls []) := by
  obtain ⟨hx, hb, hml, hown, hts, hKl⟩ := X
  have X : nk_Cx p s m args c cX5_init 2 5 G := ⟨hx, hb, hml, hown, hts, hKl⟩
  refine lv_aload_n hx hb kX5_87 rfl (lv_at hl 0 rfl) ?_
  refine nk_new X (c2 := 0) (idx := 53) (N := 6) (by decide) (nl_w1 154 rfl rfl) (nl_w1 155 rfl rfl) (nl_w1 7 rfl rfl) (by omega) (by omega) kX5_88 hS6 (fun Ha6 za6 oa6 ba6 hSa6 => ?_)
  rw [zH6] at za6 oa6 ba6 ⊢
  refine W.eq (cells := 124) (slots := 1589) (g2 := F0 m 91 ls [.ref (B + 124), .ref B]) rfl ?_
  refine lv_dup hx hb kX5_91 rfl ?_
  refine nk_call (b := B + 124) (mc := 5) (ms := 198) (Y := nk_Y G 0 (B + 124) Ha6.size nk_a0 (nk_V0 Ha6.size)) (rest := [.ref (B + 124), .ref B]) (nk_runN X (idx := 55) (y := yX0_init) (bytes := cX0_init) (maxL := 1) (ex := []) (nk_X0 l G (B + 124) Ha6.size _) (nk_Pc_pre rfl ba6 hK.1 (by omega)) (nl_w1 158 rfl rfl) (nl_w1 7 rfl rfl) (nl_w1 157 rfl rfl) rfl ⟨nl_pn0.2.1, nl_pn0.2.2, by decide +kernel⟩ rfl rfl hK.2.2.2.2.2.1 ⟨by show 1 + 1 ≤ _; omega, by show 8 + (1 + 11) + 30 ≤ _; omega⟩ hl.1 (Nat.le_of_ble_eq_true rfl) kX5_92 ⟨by omega, by omega⟩) hSa6 (fun q z => by rcases z with z | z <;> (show B ≤ q) <;> omega) (fun Hb6 locsb6 hY6 ob6 hSb6 => ?_)
  rw [za6] at hY6 ob6
  refine W.eq (cells := 129) (slots := 1787) (g2 := F0 m 95 ls [.ref (B + 124), .ref B]) rfl ?_
  refine nk_put0 X hin (k := 8) (idx := 56) (by decide) (by decide) (by decide) rfl (ty := .object RX0) (by decide +kernel) rfl rfl kX5_95 (hO6.kept (by rw [ob6 B (by omega) (by omega), oa6 B (by omega)])) hSb6 (Nat.le_refl B) (fun H7 locs7 hO7 zc6 oc6 hS7 => ?_)
  have oc6 : ∀ q : Nat, q ≠ B → H7[q]? = Hb6[q]? := oc6
  have o6 : ∀ q, q < B + 124 → q ≠ B → H7[q]? = H6[q]? := fun q h1 h2 => by rw [oc6 q h2, ob6 q (by omega) (by omega), oa6 q (by omega)]
  have zH7 : H7.size = B + 130 := by have h8 : nk_a0.length = 5 := rfl; have := hY6.1; omega
  have Fx6 : nk_pl G 0 (B + 124) nk_a0 nk_V0 H7 := nk_pl.kept (H := Hb6) ⟨hY6.2.1, hY6.2.2⟩ (fun q h1 h2 => oc6 q (by omega))
  exact kk H7 locs7 zH7 hO7 o6 Fx6 hS7
set_option maxHeartbeats 8000000 in
set_option maxRecDepth 100000 in
theorem nk_alloc5 {B : Nat} {V0 : Nat → Value} (X : nk_Cx p s m args c cX5_init 2 5 G) (hK : nk_K G s) (hin : meth.name = "<init>") (hl : lv_has ls 2 [(0, .ref B)]) (hz : s.heap.size = B + 1) (hO : t_OB B ((gD G).1 5) (nl_N 5) ((gD G).2 5) s.heap V0) (hRf : 5 ≤ R.frames) (hRl : 200 ≤ R.locals) (hRc : 129 ≤ R.cells) (hRs : 1787 ≤ R.slots)
    (kk : ∀ (H : Heap) (locs : List Loc), nk_F G B H → va_S (fun q => B ≤ q) s.heap H locs → W p l e R s m args below meth c H locs 129 1787 Q (F0 m 98 ls [])) : W p l e R s m args below meth c s.heap [] 0 0 Q (F0 m 0 ls []) := by
  obtain ⟨hx, hb, hml, hown, hts, hKl⟩ := X
  have X : nk_Cx p s m args c cX5_init 2 5 G := ⟨hx, hb, hml, hown, hts, hKl⟩
  have hY0 := nk_cI hKl
  have J : nk_J G 5 B (B + 1) [] V0 s.heap s.heap [] := ⟨hz, hO, fun j q h => (by cases h), va_S.rf, by omega, hz⟩
  refine lv_aload_n hx hb kX5_0 rfl (lv_at hl 0 rfl) ?_
  refine W.objInit hx hb hown (hts _ (nl_w1 19 rfl rfl)) (hts _ (nl_w1 20 rfl rfl)) (hts _ (nl_w1 21 rfl rfl)) rfl (by rw [hml]; exact hl.1) rfl kX5_1 (by omega) (by show 2 * 0 + 0 + 12 ≤ _; omega) ?_
  refine W.eq (g2 := F0 m 4 ls []) rfl ?_
  refine lv_aload_n hx hb kX5_4 rfl (lv_at hl 0 rfl) ?_
  refine lv_sipush (v := 200) hx hb kX5_5 (by decide) ?_
  refine nk_newa X 0 (N := 200) (nl_w1 59 rfl rfl) hY0 rfl (by decide) (by decide) (by decide) (by omega) (by omega) kX5_8 J fun H J => ?_
  have J : nk_J G 5 B (B + 1) [(0, 200)] V0 s.heap H _ := J
  refine W.eq (cells := 1) (slots := 200) (g2 := F0 m 10 ls [.ref (B + 1 + 0), .ref B]) rfl ?_
  refine nk_put X hin (k := 0) (idx := 9) (by decide) (by decide) (by decide) rfl (ty := .array .int) (by decide +kernel) rfl rfl kX5_10 J fun H locs J => ?_
  refine lv_aload_n hx hb kX5_13 rfl (lv_at hl 0 rfl) ?_
  refine lv_iconst (v := 0) hx hb kX5_14 (by decide) ?_
  refine nk_put X hin (k := 1) (idx := 13) (by decide) (by decide) (by decide) rfl (ty := .int) (by decide +kernel) rfl rfl kX5_15 J fun H locs J => ?_
  obtain ⟨zH0, hO0, ha0, hS0, -, -⟩ := J
  have zH0 : H.size = B + 2 := zH0
  generalize H = H0 at zH0 hO0 ha0 hS0 ⊢
  have hS0 : va_S (fun q => B ≤ q) s.heap H0 _ := ⟨hS0.1, fun q h1 h2 => hS0.2.1 q h1 (fun z => h2 (by rcases z with z | z <;> omega)), fun q hq => by rcases hS0.2.2 q hq with z | z <;> omega⟩
  have ha0 : nk_ar G [(0, 200)] (B + 1) H0 := ha0
  refine nk_sub0 X hK hin hl hRf hRl hRc hRs zH0 hO0 hS0 (fun H1 locs1 zH1 hO1 o0 Fx0 hS1 => ?_)
  refine nk_sub1 X hK hin hl hRf hRl hRc hRs zH1 hO1 hS1 (fun H2 locs2 zH2 hO2 o1 Fx1 hS2 => ?_)
  refine nk_sub2 X hK hin hl hRf hRl hRc hRs zH2 hO2 hS2 (fun H3 locs3 zH3 hO3 o2 Fx2 hS3 => ?_)
  refine nk_sub3 X hK hin hl hRf hRl hRc hRs zH3 hO3 hS3 (fun H4 locs4 zH4 hO4 o3 Fx3 hS4 => ?_)
  refine nk_sub4 X hK hin hl hRf hRl hRc hRs zH4 hO4 hS4 (fun H5 locs5 zH5 hO5 o4 Fx4 hS5 => ?_)
  refine nk_sub5 X hK hin hl hRf hRl hRc hRs zH5 hO5 hS5 (fun H6 locs6 zH6 hO6 o5 Fx5 hS6 => ?_)
  refine nk_sub6 X hK hin hl hRf hRl hRc hRs zH6 hO6 hS6 (fun H7 locs7 zH7 hO7 o6 Fx6 hS7 => ?_)
  have p7 : ∀ q, q < B + 130 → q ≠ B → H7[q]? = H7[q]? := fun q _ _ => rfl
  have p6 : ∀ q, q < B + 124 → q ≠ B → H7[q]? = H6[q]? := fun q h1 h2 => (p7 q (by omega) h2).trans (o6 q h1 h2)
  have p5 : ∀ q, q < B + 120 → q ≠ B → H7[q]? = H5[q]? := fun q h1 h2 => (p6 q (by omega) h2).trans (o5 q h1 h2)
  have p4 : ∀ q, q < B + 100 → q ≠ B → H7[q]? = H4[q]? := fun q h1 h2 => (p5 q (by omega) h2).trans (o4 q h1 h2)
  have p3 : ∀ q, q < B + 26 → q ≠ B → H7[q]? = H3[q]? := fun q h1 h2 => (p4 q (by omega) h2).trans (o3 q h1 h2)
  have p2 : ∀ q, q < B + 17 → q ≠ B → H7[q]? = H2[q]? := fun q h1 h2 => (p3 q (by omega) h2).trans (o2 q h1 h2)
  have p1 : ∀ q, q < B + 8 → q ≠ B → H7[q]? = H1[q]? := fun q h1 h2 => (p2 q (by omega) h2).trans (o1 q h1 h2)
  have p0 : ∀ q, q < B + 2 → q ≠ B → H7[q]? = H0[q]? := fun q h1 h2 => (p1 q (by omega) h2).trans (o0 q h1 h2)
  exact kk H7 locs7 ⟨zH7, hO7.to (V' := nk_V5 B) (fun k hk => by
    match k, hk with
    | 0, _ => rfl
    | 1, _ => rfl
    | 2, _ => rfl
    | 3, _ => rfl
    | 4, _ => rfl
    | 5, _ => rfl
    | 6, _ => rfl
    | 7, _ => rfl
    | 8, _ => rfl
    | n + 9, h => exact absurd (show n + 9 < 9 from h) (by omega)), ha0.kept (fun q h1 h2 => p0 q (by have h9 : [((0 : Nat), (200 : Nat))].length = 1 := rfl; omega) (by omega)), Fx0.kept (fun q h1 h2 => p1 q (by have h9 : nk_a1.length = 5 := rfl; omega) (by omega)), Fx1.kept (fun q h1 h2 => p2 q (by have h9 : nk_a4.length = 8 := rfl; omega) (by omega)), Fx2.kept (fun q h1 h2 => p3 q (by have h9 : nk_a4.length = 8 := rfl; omega) (by omega)), Fx3.kept (fun q h1 h2 => p4 q (by omega) (by omega)), Fx4.kept (fun q h1 h2 => p5 q (by omega) (by omega)), Fx5.kept (fun q h1 h2 => p6 q (by have h9 : nk_a3.length = 3 := rfl; omega) (by omega)), Fx6.kept (fun q h1 h2 => p7 q (by have h9 : nk_a0.length = 5 := rfl; omega) (by omega))⟩ hS7
end NK5
