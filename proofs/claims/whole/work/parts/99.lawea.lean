/-! The law from its start: its text, its walk. -/
def nw_tm : Term := .string "NightLots" 60
theorem nw_hel : ∀ j, j < 59 → Cond.eq (.elem (.field nw_tm "java/lang/String" "value" "[B") (.int (Int32.ofNat j))) (.int (nj_bs.getD j 0)) ∈ flatC (Jvm.Cond.and given_1 narrow_1) := by decide +kernel
theorem nw_text {s : State} {args : Array Value} (hts0 : ∀ w ∈ lw_tbl, w.before args s = true) (hgv : (Jvm.Cond.and given_1 narrow_1).before args s = true) : ∃ q d : Nat, nj_Z (fun a => s.heap.size ≤ a) q d s s.heap ∧ vk_R RX5 60 nt_t q s := by
  have hs := flat_of_before _ hgv
  have w1 : ∀ (i : Nat) (w : Jvm.Cond), tables_1_1[i]? = some w → w.before args s = true := fun i w h => hts0 w (List.mem_append_right _ (tb_1 (List.mem_of_getElem? h)))
  have hA : ∀ a : Nat, a < s.heap.size → ¬ (fun a : Nat => s.heap.size ≤ a) a := fun a h => Nat.not_le.mpr h
  have z1 : va_Z "java/lang/String" "COMPACT_STRINGS" "Z" (.int 1) (fun a => s.heap.size ≤ a) s s.heap := va_Zof (w1 191 _ rfl) (w1 8 _ rfl) (va_eqi (hs (Cond.eq (.static "java/lang/String" "COMPACT_STRINGS" "Z") (.int 1)) (by decide +kernel))) hA
  have z2 : va_Zq "jdk/internal/util/Preconditions" "SIOOBE_FORMATTER" "Ljava/util/function/BiFunction;" (fun a => s.heap.size ≤ a) s s.heap := va_Zqof (w1 207 _ rfl) (w1 10 _ rfl) (hs (Cond.isRef (.static "jdk/internal/util/Preconditions" "SIOOBE_FORMATTER" "Ljava/util/function/BiFunction;")) (by decide +kernel)) hA
  obtain ⟨adK, adV, hZ, hE⟩ := vk_Sof (args := args) (s := s) (N := 1) (tm := fun _ => nw_tm) (len := [59]) (byt := [nj_bs]) (A := fun a => s.heap.size ≤ a) (by decide)
    (fun i hi => hs (Cond.exactly nw_tm "java/lang/String") (by decide +kernel))
    (fun i hi => hs (Cond.eq (.field nw_tm "java/lang/String" "coder" "B") (.int 0)) (by decide +kernel))
    (fun i hi => hs (Cond.arrayOf (.field nw_tm "java/lang/String" "value" "[B") .byte) (by decide +kernel))
    (fun i hi => by
      obtain rfl : i = 0 := by omega
      exact hs (Cond.eq (.length (.field nw_tm "java/lang/String" "value" "[B")) (.int (Int32.ofNat 59))) (by decide +kernel))
    (fun i hi j hj => by
      obtain rfl : i = 0 := by omega
      exact hs _ (nw_hel j hj))
    (fun i j hi hj hij => absurd (show i = j by omega) hij) hA
  obtain ⟨y1, y2, y3, y4⟩ := hZ.1 0 (by decide)
  exact ⟨adK 0, adV 0, ⟨z1, z2, y1, y2, y3, y4⟩, vk_R.of (w1 181 _ rfl) (hE 0 (by decide))⟩
set_option maxHeartbeats 4000000 in
theorem whole_start {p : Program} {e : Env} {s : State} {m : MethodId} {below : List Frame} {meth : Method} {c : Code} (l : Launch) (hflags : l.flags = flags0) {b L : Nat} {xs : Nat → Int32} (hL : L ≤ 2048) (C0 : lw_At p s m meth c b L xs) : W p l e room_1 s m #[Value.ref b] below meth c s.heap [] 0 0 (lw_Z below #[Value.ref b] s) (entryFrame m ([Value.ref b] : List Value).toArray 4) := by
  obtain ⟨hx, hb, hr, hml, hown, hts0, hX, hbl, hlocks, hgv⟩ := C0
  have hts : ∀ w ∈ nl_WL, w.before #[Value.ref b] s = true := fun w hw => hts0 w (nl_WL_in hw)
  obtain ⟨D, Y, hKK⟩ := nw_known hts0
  obtain ⟨q, d, hZ, hR⟩ := nw_text hts0 hgv
  have hown7 : s.vm.findClass (nl_R 7) = some m.cls := hown
  generalize hB : s.heap.size = B at hbl hZ
  have hAp0 : nl_Ap (nk_G D Y B (B + 130) b (L : Int) 0 0) := nk_Ap (Nat.le_refl _) (by decide) hbl ⟨by omega, by omega⟩
  have X0 : nk_Cx p s m #[Value.ref b] c code 4 7 (nk_G D Y B (B + 130) b (L : Int) 0 0) := ⟨hx, hb, hml, hown7, hts, (hKK B (B + 130) b L 0 0).1⟩
  have hl := lv_entry ([.ref b]) (n := 4) (Nat.le_of_ble_eq_true rfl)
  rw [lg_entry_eq]
  generalize (lg_sl ([.ref b]) ++ List.replicate (4 - (lg_sl ([.ref b])).length) Slot.unset).toArray = ls at hl ⊢
  have hl : lv_has ls 4 [(0, .ref b)] := hl
  have hS : va_S (fun a => B ≤ a) s.heap s.heap [] := va_S.rf
  refine nk_new (R := room_1) X0 (c2 := 5) (idx := 7) (N := 9) (by decide) (nl_w1 14 rfl rfl) (nl_w1 15 rfl rfl) (nl_w1 1 rfl rfl) (by decide) (by decide) kL_0 hS (fun H1 z1 o1 b1 hS1 => ?_)
  rw [hB] at z1 o1 b1 ⊢
  refine lv_dup hx hb kL_3 rfl ?_
  have hZ1 : ∀ U : State, U.heap = H1 → s.WarmedH U.vm → nj_Z (fun a => B ≤ a) q d U U.heap := fun U hU hWU => by
    rw [hU]
    exact (hZ.kept (fun a h1 h2 => o1 a (by rw [hB] at h1; exact h1))).moved hWU.alike
  have hp5 : PreS s H1 (nk_P5 (nk_G D Y B (B + 130) b (L : Int) 0 0) B q d (fun k => defaultValue (nl_tyf 5 k))) [.ref B] :=
    ⟨fun A U g mk h => ⟨h.1, h.2.1, h.2.2.1, h.2.2.2.1.call, nj_Z.moved (u := U) (U := U.calling g mk A) (Vm.Alike.refl U.vm) h.2.2.2.2.1, vk_R.same (u := U) (U := U.calling g mk A) rfl h.2.2.2.2.2⟩, fun U hU hWU => ⟨rfl, by rw [hU]; exact z1, by rw [hU]; exact b1, (hKK B (B + 130) b L 0 0).warm hWU, hZ1 U hU hWU, hR.warm hWU⟩⟩
  refine nk_callG (A := fun a => B ≤ a) (mc := 129) (ms := 1787) (Z := fun t => (∃ P, pEq7 P (tP (nt_h 59) 59) ∧ nl_Wd (nk_G D Y B (B + 130) b (L : Int) 0 0) (nt_f P) t t.heap) ∧ B + 130 ≤ t.heap.size) (rest := [.ref B]) (nk_runI (R := room_1) X0 (idx := 9) (y := yX5_init) (bytes := cX5_init) (maxL := 2) (ex := []) (nk_X5 l D Y B (B + 130) b L q d _ hAp0) hp5 (nl_w1 18 rfl rfl) (nl_w1 1 rfl rfl) (nl_w1 17 rfl rfl) rfl ⟨nl_pn5.2.1, nl_pn5.2.2, by decide +kernel⟩ rfl rfl (nl_w1 16 rfl rfl) ⟨by decide, by decide⟩ hl.1 (Nat.le_of_ble_eq_true rfl) kL_4 ⟨by decide, by decide⟩) (fun st oc t h => ⟨h.1, ⟨h.2.1, h.2.2.1⟩, h.2.2.2⟩) hS1 (fun t H2 locs2 ht hal hZt hz2 hS2 => ?_)
  obtain ⟨⟨P, hP, hW⟩, hsz⟩ := hZt
  rw [ht] at hW hsz
  have hW := hW.moved hal.symm
  refine lv_astore_n hx hb kL_7 rfl hl (by decide) rfl (fun ls1 hl1 => ?_)
  generalize hM : H2.size = M at hsz
  have hAp1 : nl_Ap (nk_G D Y B M b (L : Int) 1 0) := nk_Ap hsz (by decide) hbl ⟨by omega, by omega⟩
  have X1 : nk_Cx p s m #[Value.ref b] c code 4 7 (nk_G D Y B M b (L : Int) 1 0) := ⟨hx, hb, hml, hown7, hts, (hKK B M b L 1 0).1⟩
  refine nk_new (R := room_1) X1 (c2 := 6) (idx := 10) (N := 30) (by decide) (nl_w3 115 rfl rfl) (nl_w3 116 rfl rfl) (nl_w1 12 rfl rfl) (by decide) (by decide) kL_8 hS2 (fun H3 z3 o3 b3 hS3 => ?_)
  rw [hM] at z3 o3 b3 ⊢
  refine lv_dup hx hb kL_11 rfl ?_
  have hW3 : nl_Wd (nk_G D Y B M b (L : Int) 0 0) (nt_f P) s H3 := nk_Wd.kept (fun a ha => o3 a (by omega)) (nk_WdM hW)
  have hp6 : PreS s H3 (nk_P6 D Y B M b (L : Int) (nt_f P)) [.ref M] :=
    ⟨fun A U g mk h => ⟨h.1, h.2.1, h.2.2.1, h.2.2.2.1.call, nl_Wd.moved (u := U) (U := U.calling g mk A) (Vm.Alike.refl U.vm) h.2.2.2.2⟩, fun U hU hWU => ⟨rfl, by rw [hU]; exact z3, by rw [hU]; exact b3, (hKK B M b L 0 0).1.warm hWU, by rw [hU]; exact hW3.moved hWU.alike⟩⟩
  refine nk_callG (A := fun a => B ≤ a) (mc := 19) (ms := 1227) (Z := fun t => ∃ V, bg V nm_5 ∧ nl_Wd (nk_G D Y B M b (L : Int) 1 0) (sm (nt_f P) V) t t.heap) (rest := [.ref M]) (nk_runI (R := room_1) X1 (idx := 12) (y := yX6_init) (bytes := cX6_init) (maxL := 1) (ex := []) (nk_X6 l D Y B M b L (nt_f P) rfl hsz hAp1) hp6 (nl_w3 119 rfl rfl) (nl_w1 12 rfl rfl) (nl_w3 118 rfl rfl) rfl ⟨nl_pn6.2.1, nl_pn6.2.2, by decide +kernel⟩ rfl rfl (nl_w3 117 rfl rfl) ⟨by decide, by decide⟩ hl1.1 (Nat.le_of_ble_eq_true rfl) kL_12 ⟨by decide, by decide⟩) (fun st oc t h => ⟨h.1, h.2.1, h.2.2⟩) hS3 (fun t4 H4 locs4 ht4 hal4 hZ4 hz4 hS4 => ?_)
  obtain ⟨V, hV, hW4⟩ := hZ4
  rw [ht4] at hW4
  have hW4 := hW4.moved hal4.symm
  refine lv_astore_n hx hb kL_15 rfl hl1 (by decide) rfl (fun ls2 hl2 => ?_)
  refine lv_iconst (v := 0) hx hb kL_16 (by decide) ?_
  refine lv_istore_n hx hb kL_17 rfl hl2 (by decide) rfl (fun ls3 hl3 => ?_)
  refine lw_loop (l := l) (R := room_1) (G := nk_G D Y B M b (L : Int) 1 0) (b := b) (L := L) (xs := xs) ⟨X1, hAp1, rfl, hX, by rw [hB]; exact hbl, Nat.not_le.mpr hbl, hL, by decide, by decide, by decide, by decide⟩ (fun H5 locs5 ls5 hS5 => ?_) (L + 1) 0 H4 _ ls3 (sm (nt_f P) V) (by omega) (by omega) hW4 (rg_start hP hV) hS4 hl3
  refine lv_iconst (v := 1) hx hb kL_907 (by decide) ?_
  refine W.widen (k := 600000) (n := 7302250) (by decide) (by decide) ?_
  refine va_forget (fun a ha => by rw [hB]; exact hS5.2.2 a ha) ?_
  exact lw_ret hx hb hr hlocks kL_908
