/-! NightLots(): whole. -/
section NKV
variable {p : Program} {l : Launch} {e : Env} {R : Room} {s : State} {m : MethodId} {args : Array Value} {below : List Frame} {meth : Method} {c : Code} {cells slots : Nat} {Q : State → Prop} {cc : ByteArray} {nL ci : Nat} {G : nl_G} {pc : Nat} {ls : Array Slot} {rest : List Value} {H : Heap} {locs : List Loc} {h : nl_H} {r : Int × nl_H}
/-- a virtual call of a method that the abstract machine knows -/
theorem nk_vcall (X : nk_Cx p s m args c cc nL ci G) (hAp : nl_Ap G) {k y n o c9 : Nat} {as : List nl_V} {I : nl_I} (hr : nl_c (gL G) n y (vO c9 o :: as) h = some r) (hI : nl_inf[y]? = some I) (hlink : Cond.methodLink (nl_R ci) k I.1 ∈ nl_WL) (hst : I.2.2.2.2.2.2 = false) (hci : I.2.2.2.2.1 = c9) (hnp : I.2.2.2.2.2.1 = as.length) (hc9 : c9 < 7) (ho : o < gN G c9) (has : ∀ v ∈ as, nl_okv G v) (hfr : n + 1 ≤ R.frames) (hlo : 100 * n + 100 ≤ R.locals) (hcs : cells ≤ R.cells ∧ slots ≤ R.slots) (hW : nl_Wd G h s H) (hS : va_S (gF G) s.heap H locs) (hsz : ls.size = nL) (hcat : (rest.map fun v => v.category).sum ≤ 8) (hd : decode cc pc = .ok (.invokevirtual k, 3))
    (kk : ∀ (H1 : Heap) (locs1 : List Loc), nl_Wd G r.2 s H1 → va_S (gF G) s.heap H1 locs1 → W p l e R s m args below meth c H1 locs1 cells slots Q (F0 m (pc + 3) ls ((nl_rv (nl_r3 I.2.2.2.1) r.1).toList ++ rest))) : W p l e R s m args below meth c H locs cells slots Q (F0 m pc ls ((as.map (nl_cv G)).reverse ++ .ref (gO G c9 o) :: rest)) := by
  obtain ⟨hx, hbb, hml, hown, hts, hK⟩ := X
  have hArgs : ∀ v ∈ vO c9 o :: as, nl_okv G v := nl_ok1 ⟨hc9, ho⟩ has
  obtain ⟨I', hI', hMet⟩ := nl_cl_ok l G hAp n y (vO c9 o :: as) h r hArgs hr
  cases hI.symm.trans hI'
  obtain ⟨hIm, hIo, hnm, hds, h60⟩ := nl_ofI hI
  have hgd : GoodIn nl_WL (wsV (nl_R ci) k I.1.cls I.1 (nl_ws I)) := by
    intro w hw
    unfold wsV at hw
    rcases List.mem_append.mp hw with hw | hw
    · simp only [List.mem_cons, List.not_mem_nil, or_false] at hw
      rcases hw with rfl | rfl | rfl | rfl
      · exact nl_goodW hlink
      · exact nl_goodW (hIo.2.2.2.2 hst).1
      · rw [hIo.2.2.1]; exact nl_goodW (hIo.2.2.2.2 hst).2
      · rw [hIo.2.2.1]; exact nl_goodW hIo.2.1
    · exact nl_goodIn hIo w hw
  have hpn := nl_pn hIm
  have cw : CallW R s args (nl_R ci) I.1.cls k I.1 I.2.1 I.2.2.1 I.2.2.2.1 (nl_ws I) (nl_rm n) 0 0 as.length := cwV as.length hts hgd rfl rfl rfl ⟨rfl, hpn.2.1, hpn.2.2, by rw [hds, hnp]⟩ ⟨hfr, by show 8 + (I.2.2.1 + 11) + 100 * n ≤ _; omega⟩
  obtain ⟨cellB, g1, g2, g3, -⟩ := hW.1 c9 o hc9 ho
  have hcls := (hK.1.1 c9 _ (nl_cs_at hc9)).2
  have hp : PreV s H I.1.cls (gO G c9 o) (nl_Pc G (vO c9 o :: as) h) (as.map (nl_cv G)) := by
    refine ⟨nl_blind _ _ _, ⟨cellB, g1, by rw [g3]; rfl, ?_⟩, fun U hU hWU => ⟨rfl, ?_, hK.warm hWU⟩⟩
    · rw [hIo.2.2.1, hci, g2]
      exact hcls.1
    · rw [hU]; exact hW.moved hWU.alike
  exact nl_call (va_runV (y := I.1) (rest := rest) ⟨hx, hbb, hml, hown, hts⟩ hMet cw hp rfl (by rw [List.length_map]) hsz rfl (by show 2 * 0 + _ ≤ 8; omega) hd ⟨hcs.1, hcs.2⟩) hS kk
end NKV
def nt_t : String := "n4;n7;n12;n9;n5;h0,14,10;h1,9,22;h2,20,35;h3,12,41;h0,8,60;"
def nt_f (P : nl_O) : nl_H := so (hLay (nt_h 59) P) 5 0 (vu ((hLay (nt_h 59) P) 5 0) 1 0 0)
section NKL
variable {p : Program} {l : Launch} {e : Env} {R : Room} {s : State} {m : MethodId} {args : Array Value} {below : List Frame} {meth : Method} {c : Code} {Q : State → Prop} {D : va_G} {Y : Nat → ClassId} {B M b q d : Nat} {L : Int}
set_option maxHeartbeats 4000000 in
theorem nk_loop5 (X : nk_Cx p s m args c cX5_init 2 5 (nk_G D Y B M b L 0 0)) (hAp : nl_Ap (nk_G D Y B M b L 0 0)) (hZ : nj_Z (fun a => B ≤ a) q d s s.heap) (hR : vk_R RX5 60 nt_t q s) (hRf : 25 ≤ R.frames) (hRl : 2500 ≤ R.locals) (hRc : 129 ≤ R.cells) (hRs : 1787 ≤ R.slots)
    (kk : ∀ (H : Heap) (locs : List Loc) (ls : Array Slot) (w : Int32), nl_Wd (nk_G D Y B M b L 0 0) (nt_h 59) s H → va_S (fun a => B ≤ a) s.heap H locs → lv_has ls 2 [(1, .int w), (0, .ref B)] → W p l e R s m args below meth c H locs 129 1787 Q (F0 m 126 ls [])) :
    ∀ (t i : Nat) (H : Heap) (locs : List Loc) (ls : Array Slot), i + t = 59 → nl_Wd (nk_G D Y B M b L 0 0) (nt_h i) s H → va_S (fun a => B ≤ a) s.heap H locs → lv_has ls 2 [(1, .int (Int32.ofNat i)), (0, .ref B)] → W p l e R s m args below meth c H locs 129 1787 Q (F0 m 100 ls []) := by
  obtain ⟨hx, hb, hml, hown, hts, hKl⟩ := X
  have X : nk_Cx p s m args c cX5_init 2 5 (nk_G D Y B M b L 0 0) := ⟨hx, hb, hml, hown, hts, hKl⟩
  intro t
  induction t with
  | zero =>
    intro i H locs ls hi hW hS hl
    obtain rfl : i = 59 := by omega
    refine lv_iload_n hx hb kX5_100 rfl (lv_at hl 0 rfl) ?_
    refine va_ldcS hx hb hown hR kX5_101 ?_
    refine nj_callV (ex := []) (C := "java/lang/String") hx hb hml hown hts (nj_length l _ q d) (nl_w1 182 rfl rfl) (nl_w1 183 rfl rfl) (nl_w1 184 rfl rfl) (nl_w1 8 rfl rfl) (nl_w1 185 rfl rfl) rfl rfl (by decide +kernel) ⟨by omega, by omega⟩ hZ hS hl.1 (Nat.le_of_ble_eq_true rfl) kX5_103 ⟨hRc, hRs⟩ ?_
    refine lv_icmp_ge hx hb kX5_106 (tgt := 126) rfl (fun _ => kk H locs ls _ hW hS hl) (fun z => absurd (by decide) z)
  | succ t ih =>
    intro i H locs ls hi hW hS hl
    have hlt : i < 59 := by omega
    refine lv_iload_n hx hb kX5_100 rfl (lv_at hl 0 rfl) ?_
    refine va_ldcS hx hb hown hR kX5_101 ?_
    refine nj_callV (ex := []) (C := "java/lang/String") hx hb hml hown hts (nj_length l _ q d) (nl_w1 182 rfl rfl) (nl_w1 183 rfl rfl) (nl_w1 184 rfl rfl) (nl_w1 8 rfl rfl) (nl_w1 185 rfl rfl) rfl rfl (by decide +kernel) ⟨by omega, by omega⟩ hZ hS hl.1 (Nat.le_of_ble_eq_true rfl) kX5_103 ⟨hRc, hRs⟩ ?_
    refine lv_icmp_ge hx hb kX5_106 (tgt := 126) rfl (fun z => absurd ((Int32.ofNat_le_ofNat (show 59 < 2 ^ 31 by omega) (show i < 2 ^ 31 by omega)).mp z) (by omega)) (fun _ => ?_)
    refine lv_aload_n hx hb kX5_109 rfl (lv_at hl 1 rfl) ?_
    refine va_ldcS hx hb hown hR kX5_110 ?_
    refine lv_iload_n hx hb kX5_112 rfl (lv_at hl 0 rfl) ?_
    refine nj_callV (ex := [.int (Int32.ofNat i)]) (rest := [.ref B]) (C := "java/lang/String") hx hb hml hown hts (nj_charAt l _ q d i hlt) (nl_w1 192 rfl rfl) (nl_w1 193 rfl rfl) (nl_w1 194 rfl rfl) (nl_w1 8 rfl rfl) (nl_w1 195 rfl rfl) rfl rfl (by show _ ∧ _ ∧ _ = some 1; decide +kernel) ⟨by omega, by omega⟩ hZ hS hl.1 (Nat.le_of_ble_eq_true rfl) kX5_113 ⟨hRc, hRs⟩ ?_
    rw [(nt_in i hlt).2.2]
    refine nk_vcall (l := l) X hAp (as := [vI (nt_x i)]) (o := 0) (c9 := 5) (n := 20) (rest := []) (nt_write (LS := L) (by omega) hlt) rfl (nl_w1 230 rfl rfl) rfl rfl rfl (by decide) (show 0 < 1 by decide) (fun v hv => by obtain rfl := List.mem_singleton.mp hv; trivial) (by omega) (by omega) ⟨hRc, hRs⟩ hW hS hl.1 (Nat.le_of_ble_eq_true rfl) kX5_116 (fun H1 locs1 hW1 hS1 => ?_)
    refine W.eq (g2 := F0 m 119 ls [.int (Int32.ofInt ((i : Int) + 1))]) rfl ?_
    refine lv_pop hx hb kX5_119 rfl ?_
    refine lv_iinc (v := Int32.ofNat (i + 1)) hx hb kX5_120 hl (k := 0) rfl (by rw [Int32.ofNat_add]; rfl) (by decide) rfl (fun ls' hl' => ?_)
    refine lv_goto hx hb kX5_123 (tgt := 100) rfl ?_
    exact ih (i + 1) H1 locs1 ls' (by omega) hW1 hS1 hl'
end NKL
