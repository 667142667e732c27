/-! NightLotsModel(). -/
theorem kX6_0 : decode cX6_init 0 = .ok (.aload_n 0, 1) := by decide +kernel
theorem kX6_1 : decode cX6_init 1 = .ok (.invokespecial 3, 3) := by decide +kernel
theorem kX6_4 : decode cX6_init 4 = .ok (.aload_n 0, 1) := by decide +kernel
theorem kX6_5 : decode cX6_init 5 = .ok (.bipush 7, 2) := by decide +kernel
theorem kX6_7 : decode cX6_init 7 = .ok (.newarray .int, 2) := by decide +kernel
theorem kX6_9 : decode cX6_init 9 = .ok (.putfield 9, 3) := by decide +kernel
theorem kX6_12 : decode cX6_init 12 = .ok (.aload_n 0, 1) := by decide +kernel
theorem kX6_13 : decode cX6_init 13 = .ok (.bipush 7, 2) := by decide +kernel
theorem kX6_15 : decode cX6_init 15 = .ok (.newarray .int, 2) := by decide +kernel
theorem kX6_17 : decode cX6_init 17 = .ok (.putfield 13, 3) := by decide +kernel
theorem kX6_20 : decode cX6_init 20 = .ok (.aload_n 0, 1) := by decide +kernel
theorem kX6_21 : decode cX6_init 21 = .ok (.bipush 7, 2) := by decide +kernel
theorem kX6_23 : decode cX6_init 23 = .ok (.newarray .int, 2) := by decide +kernel
theorem kX6_25 : decode cX6_init 25 = .ok (.putfield 16, 3) := by decide +kernel
theorem kX6_28 : decode cX6_init 28 = .ok (.aload_n 0, 1) := by decide +kernel
theorem kX6_29 : decode cX6_init 29 = .ok (.bipush 7, 2) := by decide +kernel
theorem kX6_31 : decode cX6_init 31 = .ok (.newarray .int, 2) := by decide +kernel
theorem kX6_33 : decode cX6_init 33 = .ok (.putfield 19, 3) := by decide +kernel
theorem kX6_36 : decode cX6_init 36 = .ok (.aload_n 0, 1) := by decide +kernel
theorem kX6_37 : decode cX6_init 37 = .ok (.bipush 7, 2) := by decide +kernel
theorem kX6_39 : decode cX6_init 39 = .ok (.newarray .int, 2) := by decide +kernel
theorem kX6_41 : decode cX6_init 41 = .ok (.putfield 22, 3) := by decide +kernel
theorem kX6_44 : decode cX6_init 44 = .ok (.aload_n 0, 1) := by decide +kernel
theorem kX6_45 : decode cX6_init 45 = .ok (.bipush 7, 2) := by decide +kernel
theorem kX6_47 : decode cX6_init 47 = .ok (.newarray .int, 2) := by decide +kernel
theorem kX6_49 : decode cX6_init 49 = .ok (.putfield 25, 3) := by decide +kernel
theorem kX6_52 : decode cX6_init 52 = .ok (.aload_n 0, 1) := by decide +kernel
theorem kX6_53 : decode cX6_init 53 = .ok (.bipush 49, 2) := by decide +kernel
theorem kX6_55 : decode cX6_init 55 = .ok (.newarray .int, 2) := by decide +kernel
theorem kX6_57 : decode cX6_init 57 = .ok (.putfield 28, 3) := by decide +kernel
theorem kX6_60 : decode cX6_init 60 = .ok (.aload_n 0, 1) := by decide +kernel
theorem kX6_61 : decode cX6_init 61 = .ok (.bipush 7, 2) := by decide +kernel
theorem kX6_63 : decode cX6_init 63 = .ok (.newarray .int, 2) := by decide +kernel
theorem kX6_65 : decode cX6_init 65 = .ok (.putfield 31, 3) := by decide +kernel
theorem kX6_68 : decode cX6_init 68 = .ok (.aload_n 0, 1) := by decide +kernel
theorem kX6_69 : decode cX6_init 69 = .ok (.bipush 6, 2) := by decide +kernel
theorem kX6_71 : decode cX6_init 71 = .ok (.newarray .int, 2) := by decide +kernel
theorem kX6_73 : decode cX6_init 73 = .ok (.putfield 34, 3) := by decide +kernel
theorem kX6_76 : decode cX6_init 76 = .ok (.aload_n 0, 1) := by decide +kernel
theorem kX6_77 : decode cX6_init 77 = .ok (.bipush 6, 2) := by decide +kernel
theorem kX6_79 : decode cX6_init 79 = .ok (.newarray .int, 2) := by decide +kernel
theorem kX6_81 : decode cX6_init 81 = .ok (.putfield 37, 3) := by decide +kernel
theorem kX6_84 : decode cX6_init 84 = .ok (.aload_n 0, 1) := by decide +kernel
theorem kX6_85 : decode cX6_init 85 = .ok (.bipush 6, 2) := by decide +kernel
theorem kX6_87 : decode cX6_init 87 = .ok (.newarray .int, 2) := by decide +kernel
theorem kX6_89 : decode cX6_init 89 = .ok (.putfield 40, 3) := by decide +kernel
theorem kX6_92 : decode cX6_init 92 = .ok (.aload_n 0, 1) := by decide +kernel
theorem kX6_93 : decode cX6_init 93 = .ok (.sipush 200, 3) := by decide +kernel
theorem kX6_96 : decode cX6_init 96 = .ok (.newarray .int, 2) := by decide +kernel
theorem kX6_98 : decode cX6_init 98 = .ok (.putfield 43, 3) := by decide +kernel
theorem kX6_101 : decode cX6_init 101 = .ok (.aload_n 0, 1) := by decide +kernel
theorem kX6_102 : decode cX6_init 102 = .ok (.bipush 7, 2) := by decide +kernel
theorem kX6_104 : decode cX6_init 104 = .ok (.newarray .int, 2) := by decide +kernel
theorem kX6_106 : decode cX6_init 106 = .ok (.putfield 46, 3) := by decide +kernel
theorem kX6_109 : decode cX6_init 109 = .ok (.aload_n 0, 1) := by decide +kernel
theorem kX6_110 : decode cX6_init 110 = .ok (.bipush 21, 2) := by decide +kernel
theorem kX6_112 : decode cX6_init 112 = .ok (.newarray .int, 2) := by decide +kernel
theorem kX6_114 : decode cX6_init 114 = .ok (.putfield 49, 3) := by decide +kernel
theorem kX6_117 : decode cX6_init 117 = .ok (.aload_n 0, 1) := by decide +kernel
theorem kX6_118 : decode cX6_init 118 = .ok (.sipush 632, 3) := by decide +kernel
theorem kX6_121 : decode cX6_init 121 = .ok (.newarray .int, 2) := by decide +kernel
theorem kX6_123 : decode cX6_init 123 = .ok (.putfield 52, 3) := by decide +kernel
theorem kX6_126 : decode cX6_init 126 = .ok (.aload_n 0, 1) := by decide +kernel
theorem kX6_127 : decode cX6_init 127 = .ok (.bipush 79, 2) := by decide +kernel
theorem kX6_129 : decode cX6_init 129 = .ok (.newarray .int, 2) := by decide +kernel
theorem kX6_131 : decode cX6_init 131 = .ok (.putfield 55, 3) := by decide +kernel
theorem kX6_134 : decode cX6_init 134 = .ok (.aload_n 0, 1) := by decide +kernel
theorem kX6_135 : decode cX6_init 135 = .ok (.bipush 7, 2) := by decide +kernel
theorem kX6_137 : decode cX6_init 137 = .ok (.newarray .int, 2) := by decide +kernel
theorem kX6_139 : decode cX6_init 139 = .ok (.putfield 58, 3) := by decide +kernel
theorem kX6_142 : decode cX6_init 142 = .ok (.aload_n 0, 1) := by decide +kernel
theorem kX6_143 : decode cX6_init 143 = .ok (.bipush 7, 2) := by decide +kernel
theorem kX6_145 : decode cX6_init 145 = .ok (.newarray .int, 2) := by decide +kernel
theorem kX6_147 : decode cX6_init 147 = .ok (.putfield 61, 3) := by decide +kernel
theorem kX6_150 : decode cX6_init 150 = .ok (.aload_n 0, 1) := by decide +kernel
theorem kX6_151 : decode cX6_init 151 = .ok (.sipush 158, 3) := by decide +kernel
theorem kX6_154 : decode cX6_init 154 = .ok (.newarray .int, 2) := by decide +kernel
theorem kX6_156 : decode cX6_init 156 = .ok (.putfield 64, 3) := by decide +kernel
theorem kX6_159 : decode cX6_init 159 = .ok (.aload_n 0, 1) := by decide +kernel
theorem kX6_160 : decode cX6_init 160 = .ok (.iconst 0, 1) := by decide +kernel
theorem kX6_161 : decode cX6_init 161 = .ok (.bipush 14, 2) := by decide +kernel
theorem kX6_163 : decode cX6_init 163 = .ok (.bipush 10, 2) := by decide +kernel
theorem kX6_165 : decode cX6_init 165 = .ok (.iconst 4, 1) := by decide +kernel
theorem kX6_166 : decode cX6_init 166 = .ok (.invokevirtual 67, 3) := by decide +kernel
theorem kX6_169 : decode cX6_init 169 = .ok (.aload_n 0, 1) := by decide +kernel
theorem kX6_170 : decode cX6_init 170 = .ok (.iconst 1, 1) := by decide +kernel
theorem kX6_171 : decode cX6_init 171 = .ok (.bipush 9, 2) := by decide +kernel
theorem kX6_173 : decode cX6_init 173 = .ok (.bipush 22, 2) := by decide +kernel
theorem kX6_175 : decode cX6_init 175 = .ok (.bipush 7, 2) := by decide +kernel
theorem kX6_177 : decode cX6_init 177 = .ok (.invokevirtual 67, 3) := by decide +kernel
theorem kX6_180 : decode cX6_init 180 = .ok (.aload_n 0, 1) := by decide +kernel
theorem kX6_181 : decode cX6_init 181 = .ok (.iconst 2, 1) := by decide +kernel
theorem kX6_182 : decode cX6_init 182 = .ok (.bipush 20, 2) := by decide +kernel
theorem kX6_184 : decode cX6_init 184 = .ok (.bipush 35, 2) := by decide +kernel
theorem kX6_186 : decode cX6_init 186 = .ok (.bipush 12, 2) := by decide +kernel
theorem kX6_188 : decode cX6_init 188 = .ok (.invokevirtual 67, 3) := by decide +kernel
theorem kX6_191 : decode cX6_init 191 = .ok (.aload_n 0, 1) := by decide +kernel
theorem kX6_192 : decode cX6_init 192 = .ok (.iconst 3, 1) := by decide +kernel
theorem kX6_193 : decode cX6_init 193 = .ok (.bipush 12, 2) := by decide +kernel
theorem kX6_195 : decode cX6_init 195 = .ok (.bipush 41, 2) := by decide +kernel
theorem kX6_197 : decode cX6_init 197 = .ok (.bipush 9, 2) := by decide +kernel
theorem kX6_199 : decode cX6_init 199 = .ok (.invokevirtual 67, 3) := by decide +kernel
theorem kX6_202 : decode cX6_init 202 = .ok (.aload_n 0, 1) := by decide +kernel
theorem kX6_203 : decode cX6_init 203 = .ok (.iconst 0, 1) := by decide +kernel
theorem kX6_204 : decode cX6_init 204 = .ok (.bipush 8, 2) := by decide +kernel
theorem kX6_206 : decode cX6_init 206 = .ok (.bipush 60, 2) := by decide +kernel
theorem kX6_208 : decode cX6_init 208 = .ok (.iconst 5, 1) := by decide +kernel
theorem kX6_209 : decode cX6_init 209 = .ok (.invokevirtual 67, 3) := by decide +kernel
theorem kX6_212 : decode cX6_init 212 = .ok (.aload_n 0, 1) := by decide +kernel
theorem kX6_213 : decode cX6_init 213 = .ok (.invokevirtual 71, 3) := by decide +kernel
theorem kX6_216 : decode cX6_init 216 = .ok (.return_, 1) := by decide +kernel
def nk_a6 : List (Nat × Nat) := [(0, 7), (0, 7), (0, 7), (0, 7), (0, 7), (0, 7), (0, 49), (0, 7), (0, 6), (0, 6), (0, 6), (0, 200), (0, 7), (0, 21), (0, 632), (0, 79), (0, 7), (0, 7), (0, 158)]
def nk_V6 (M : Nat) : Nat → Value := fun k => match k with
  | 0 => .int 0
  | 1 => .ref (M + 1 + 0)
  | 2 => .ref (M + 1 + 1)
  | 3 => .ref (M + 1 + 2)
  | 4 => .int 0
  | 5 => .int 0
  | 6 => .ref (M + 1 + 3)
  | 7 => .ref (M + 1 + 4)
  | 8 => .ref (M + 1 + 5)
  | 9 => .ref (M + 1 + 6)
  | 10 => .ref (M + 1 + 7)
  | 11 => .int 0
  | 12 => .ref (M + 1 + 8)
  | 13 => .ref (M + 1 + 9)
  | 14 => .ref (M + 1 + 10)
  | 15 => .ref (M + 1 + 11)
  | 16 => .int 0
  | 17 => .int 0
  | 18 => .int 0
  | 19 => .int 0
  | 20 => .ref (M + 1 + 12)
  | 21 => .ref (M + 1 + 13)
  | 22 => .int 0
  | 23 => .ref (M + 1 + 14)
  | 24 => .int 0
  | 25 => .ref (M + 1 + 15)
  | 26 => .ref (M + 1 + 16)
  | 27 => .ref (M + 1 + 17)
  | 28 => .ref (M + 1 + 18)
  | _ => .int 0
section NK6
variable {p : Program} {l : Launch} {e : Env} {R : Room} {s : State} {m : MethodId} {args : Array Value} {below : List Frame} {meth : Method} {c : Code} {Q : State → Prop} {G : nl_G} {ls : Array Slot}
set_option maxHeartbeats 8000000 in
set_option maxRecDepth 100000 in
theorem nk_alloc6 {M : Nat} (X : nk_Cx p s m args c cX6_init 1 6 G) (hin : meth.name = "<init>") (hl : lv_has ls 1 [(0, .ref M)]) (hz : s.heap.size = M + 1) (hO : t_OB M ((gD G).1 6) (nl_N 6) ((gD G).2 6) s.heap (fun k => defaultValue (nl_tyf 6 k))) (hRf : 5 ≤ R.frames) (hRl : 200 ≤ R.locals) (hRc : 19 ≤ R.cells) (hRs : 1227 ≤ R.slots)
    (kk : ∀ (H : Heap) (locs : List Loc), H.size = M + 20 → t_OB M ((gD G).1 6) (nl_N 6) ((gD G).2 6) H (nk_V6 M) → nk_ar G nk_a6 (M + 1) H → va_S (nk_A M (M + 1)) s.heap H locs → W p l e R s m args below meth c H locs 19 1227 Q (F0 m 159 ls [])) : W p l e R s m args below meth c s.heap [] 0 0 Q (F0 m 0 ls []) := by
  obtain ⟨hx, hb, hml, hown, hts, hKl⟩ := X
  have X : nk_Cx p s m args c cX6_init 1 6 G := ⟨hx, hb, hml, hown, hts, hKl⟩
  have hY0 := nk_cI hKl
  generalize hV0 : (fun k => defaultValue (nl_tyf 6 k)) = V0 at hO
  have J : nk_J G 6 M (M + 1) [] V0 s.heap s.heap [] := ⟨hz, hO, fun j q h => (by cases h), va_S.rf, by omega, hz⟩
  refine lv_aload_n hx hb kX6_0 rfl (lv_at hl 0 rfl) ?_
  refine W.objInit hx hb hown (hts _ (nl_w3 120 rfl rfl)) (hts _ (nl_w1 20 rfl rfl)) (hts _ (nl_w1 21 rfl rfl)) rfl (by rw [hml]; exact hl.1) rfl kX6_1 (by omega) (by show 2 * 0 + 0 + 12 ≤ _; omega) ?_
  refine W.eq (g2 := F0 m 4 ls []) rfl ?_
  refine lv_aload_n hx hb kX6_4 rfl (lv_at hl 0 rfl) ?_
  refine lv_bipush (v := 7) hx hb kX6_5 (by decide) ?_
  refine nk_newa X 0 (N := 7) (nl_w1 59 rfl rfl) hY0 rfl (by decide) (by decide) (by decide) (by omega) (by omega) kX6_7 J fun H J => ?_
  have J : nk_J G 6 M (M + 1) [(0, 7)] V0 s.heap H _ := J
  refine W.eq (cells := 1) (slots := 7) (g2 := F0 m 9 ls [.ref (M + 1 + 0), .ref M]) rfl ?_
  refine nk_put X hin (k := 1) (idx := 9) (by decide) (by decide) (by decide) rfl (ty := .array .int) (by decide +kernel) rfl rfl kX6_9 J fun H locs J => ?_
  refine lv_aload_n hx hb kX6_12 rfl (lv_at hl 0 rfl) ?_
  refine lv_bipush (v := 7) hx hb kX6_13 (by decide) ?_
  refine nk_newa X 0 (N := 7) (nl_w1 59 rfl rfl) hY0 rfl (by decide) (by decide) (by decide) (by omega) (by omega) kX6_15 J fun H J => ?_
  have J : nk_J G 6 M (M + 1) [(0, 7), (0, 7)] (updV V0 1 (.ref (M + 1 + 0))) s.heap H _ := J
  refine W.eq (cells := 2) (slots := 14) (g2 := F0 m 17 ls [.ref (M + 1 + 1), .ref M]) rfl ?_
  refine nk_put X hin (k := 2) (idx := 13) (by decide) (by decide) (by decide) rfl (ty := .array .int) (by decide +kernel) rfl rfl kX6_17 J fun H locs J => ?_
  refine lv_aload_n hx hb kX6_20 rfl (lv_at hl 0 rfl) ?_
  refine lv_bipush (v := 7) hx hb kX6_21 (by decide) ?_
  refine nk_newa X 0 (N := 7) (nl_w1 59 rfl rfl) hY0 rfl (by decide) (by decide) (by decide) (by omega) (by omega) kX6_23 J fun H J => ?_
  have J : nk_J G 6 M (M + 1) [(0, 7), (0, 7), (0, 7)] (updV (updV V0 1 (.ref (M + 1 + 0))) 2 (.ref (M + 1 + 1))) s.heap H _ := J
  refine W.eq (cells := 3) (slots := 21) (g2 := F0 m 25 ls [.ref (M + 1 + 2), .ref M]) rfl ?_
  refine nk_put X hin (k := 3) (idx := 16) (by decide) (by decide) (by decide) rfl (ty := .array .int) (by decide +kernel) rfl rfl kX6_25 J fun H locs J => ?_
  refine lv_aload_n hx hb kX6_28 rfl (lv_at hl 0 rfl) ?_
  refine lv_bipush (v := 7) hx hb kX6_29 (by decide) ?_
  refine nk_newa X 0 (N := 7) (nl_w1 59 rfl rfl) hY0 rfl (by decide) (by decide) (by decide) (by omega) (by omega) kX6_31 J fun H J => ?_
  have J : nk_J G 6 M (M + 1) [(0, 7), (0, 7), (0, 7), (0, 7)] (updV (updV (updV V0 1 (.ref (M + 1 + 0))) 2 (.ref (M + 1 + 1))) 3 (.ref (M + 1 + 2))) s.heap H _ := J
  refine W.eq (cells := 4) (slots := 28) (g2 := F0 m 33 ls [.ref (M + 1 + 3), .ref M]) rfl ?_
  refine nk_put X hin (k := 6) (idx := 19) (by decide) (by decide) (by decide) rfl (ty := .array .int) (by decide +kernel) rfl rfl kX6_33 J fun H locs J => ?_
  refine lv_aload_n hx hb kX6_36 rfl (lv_at hl 0 rfl) ?_
  refine lv_bipush (v := 7) hx hb kX6_37 (by decide) ?_
  refine nk_newa X 0 (N := 7) (nl_w1 59 rfl rfl) hY0 rfl (by decide) (by decide) (by decide) (by omega) (by omega) kX6_39 J fun H J => ?_
  have J : nk_J G 6 M (M + 1) [(0, 7), (0, 7), (0, 7), (0, 7), (0, 7)] (updV (updV (updV (updV V0 1 (.ref (M + 1 + 0))) 2 (.ref (M + 1 + 1))) 3 (.ref (M + 1 + 2))) 6 (.ref (M + 1 + 3))) s.heap H _ := J
  refine W.eq (cells := 5) (slots := 35) (g2 := F0 m 41 ls [.ref (M + 1 + 4), .ref M]) rfl ?_
  refine nk_put X hin (k := 7) (idx := 22) (by decide) (by decide) (by decide) rfl (ty := .array .int) (by decide +kernel) rfl rfl kX6_41 J fun H locs J => ?_
  refine lv_aload_n hx hb kX6_44 rfl (lv_at hl 0 rfl) ?_
  refine lv_bipush (v := 7) hx hb kX6_45 (by decide) ?_
  refine nk_newa X 0 (N := 7) (nl_w1 59 rfl rfl) hY0 rfl (by decide) (by decide) (by decide) (by omega) (by omega) kX6_47 J fun H J => ?_
  have J : nk_J G 6 M (M + 1) [(0, 7), (0, 7), (0, 7), (0, 7), (0, 7), (0, 7)] (updV (updV (updV (updV (updV V0 1 (.ref (M + 1 + 0))) 2 (.ref (M + 1 + 1))) 3 (.ref (M + 1 + 2))) 6 (.ref (M + 1 + 3))) 7 (.ref (M + 1 + 4))) s.heap H _ := J
  refine W.eq (cells := 6) (slots := 42) (g2 := F0 m 49 ls [.ref (M + 1 + 5), .ref M]) rfl ?_
  refine nk_put X hin (k := 8) (idx := 25) (by decide) (by decide) (by decide) rfl (ty := .array .int) (by decide +kernel) rfl rfl kX6_49 J fun H locs J => ?_
  refine lv_aload_n hx hb kX6_52 rfl (lv_at hl 0 rfl) ?_
  refine lv_bipush (v := 49) hx hb kX6_53 (by decide) ?_
  refine nk_newa X 0 (N := 49) (nl_w1 59 rfl rfl) hY0 rfl (by decide) (by decide) (by decide) (by omega) (by omega) kX6_55 J fun H J => ?_
  have J : nk_J G 6 M (M + 1) [(0, 7), (0, 7), (0, 7), (0, 7), (0, 7), (0, 7), (0, 49)] (updV (updV (updV (updV (updV (updV V0 1 (.ref (M + 1 + 0))) 2 (.ref (M + 1 + 1))) 3 (.ref (M + 1 + 2))) 6 (.ref (M + 1 + 3))) 7 (.ref (M + 1 + 4))) 8 (.ref (M + 1 + 5))) s.heap H _ := J
  refine W.eq (cells := 7) (slots := 91) (g2 := F0 m 57 ls [.ref (M + 1 + 6), .ref M]) rfl ?_
  refine nk_put X hin (k := 9) (idx := 28) (by decide) (by decide) (by decide) rfl (ty := .array .int) (by decide +kernel) rfl rfl kX6_57 J fun H locs J => ?_
  refine lv_aload_n hx hb kX6_60 rfl (lv_at hl 0 rfl) ?_
  refine lv_bipush (v := 7) hx hb kX6_61 (by decide) ?_
  refine nk_newa X 0 (N := 7) (nl_w1 59 rfl rfl) hY0 rfl (by decide) (by decide) (by decide) (by omega) (by omega) kX6_63 J fun H J => ?_
  have J : nk_J G 6 M (M + 1) [(0, 7), (0, 7), (0, 7), (0, 7), (0, 7), (0, 7), (0, 49), (0, 7)] (updV (updV (updV (updV (updV (updV (updV V0 1 (.ref (M + 1 + 0))) 2 (.ref (M + 1 + 1))) 3 (.ref (M + 1 + 2))) 6 (.ref (M + 1 + 3))) 7 (.ref (M + 1 + 4))) 8 (.ref (M + 1 + 5))) 9 (.ref (M + 1 + 6))) s.heap H _ := J
  refine W.eq (cells := 8) (slots := 98) (g2 := F0 m 65 ls [.ref (M + 1 + 7), .ref M]) rfl ?_
  refine nk_put X hin (k := 10) (idx := 31) (by decide) (by decide) (by decide) rfl (ty := .array .int) (by decide +kernel) rfl rfl kX6_65 J fun H locs J => ?_
  refine lv_aload_n hx hb kX6_68 rfl (lv_at hl 0 rfl) ?_
  refine lv_bipush (v := 6) hx hb kX6_69 (by decide) ?_
  refine nk_newa X 0 (N := 6) (nl_w1 59 rfl rfl) hY0 rfl (by decide) (by decide) (by decide) (by omega) (by omega) kX6_71 J fun H J => ?_
  have J : nk_J G 6 M (M + 1) [(0, 7), (0, 7), (0, 7), (0, 7), (0, 7), (0, 7), (0, 49), (0, 7), (0, 6)] (updV (updV (updV (updV (updV (updV (updV (updV V0 1 (.ref (M + 1 + 0))) 2 (.ref (M + 1 + 1))) 3 (.ref (M + 1 + 2))) 6 (.ref (M + 1 + 3))) 7 (.ref (M + 1 + 4))) 8 (.ref (M + 1 + 5))) 9 (.ref (M + 1 + 6))) 10 (.ref (M + 1 + 7))) s.heap H _ := J
  refine W.eq (cells := 9) (slots := 104) (g2 := F0 m 73 ls [.ref (M + 1 + 8), .ref M]) rfl ?_
  refine nk_put X hin (k := 12) (idx := 34) (by decide) (by decide) (by decide) rfl (ty := .array .int) (by decide +kernel) rfl rfl kX6_73 J fun H locs J => ?_
  refine lv_aload_n hx hb kX6_76 rfl (lv_at hl 0 rfl) ?_
  refine lv_bipush (v := 6) hx hb kX6_77 (by decide) ?_
  refine nk_newa X 0 (N := 6) (nl_w1 59 rfl rfl) hY0 rfl (by decide) (by decide) (by decide) (by omega) (by omega) kX6_79 J fun H J => ?_
  have J : nk_J G 6 M (M + 1) [(0, 7), (0, 7), (0, 7), (0, 7), (0, 7), (0, 7), (0, 49), (0, 7), (0, 6), (0, 6)] (updV (updV (updV (updV (updV (updV (updV (updV (updV V0 1 (.ref (M + 1 + 0))) 2 (.ref (M + 1 + 1))) 3 (.ref (M + 1 + 2))) 6 (.ref (M + 1 + 3))) 7 (.ref (M + 1 + 4))) 8 (.ref (M + 1 + 5))) 9 (.ref (M + 1 + 6))) 10 (.ref (M + 1 + 7))) 12 (.ref (M + 1 + 8))) s.heap H _ := J
  refine W.eq (cells := 10) (slots := 110) (g2 := F0 m 81 ls [.ref (M + 1 + 9), .ref M]) rfl ?_
  refine nk_put X hin (k := 13) (idx := 37) (by decide) (by decide) (by decide) rfl (ty := .array .int) (by decide +kernel) rfl rfl kX6_81 J fun H locs J => ?_
  refine lv_aload_n hx hb kX6_84 rfl (lv_at hl 0 rfl) ?_
  refine lv_bipush (v := 6) hx hb kX6_85 (by decide) ?_
  refine nk_newa X 0 (N := 6) (nl_w1 59 rfl rfl) hY0 rfl (by decide) (by decide) (by decide) (by omega) (by omega) kX6_87 J fun H J => ?_
  have J : nk_J G 6 M (M + 1) [(0, 7), (0, 7), (0, 7), (0, 7), (0, 7), (0, 7), (0, 49), (0, 7), (0, 6), (0, 6), (0, 6)] (updV (updV (updV (updV (updV (updV (updV (updV (updV (updV V0 1 (.ref (M + 1 + 0))) 2 (.ref (M + 1 + 1))) 3 (.ref (M + 1 + 2))) 6 (.ref (M + 1 + 3))) 7 (.ref (M + 1 + 4))) 8 (.ref (M + 1 + 5))) 9 (.ref (M + 1 + 6))) 10 (.ref (M + 1 + 7))) 12 (.ref (M + 1 + 8))) 13 (.ref (M + 1 + 9))) s.heap H _ := J
  refine W.eq (cells := 11) (slots := 116) (g2 := F0 m 89 ls [.ref (M + 1 + 10), .ref M]) rfl ?_
  refine nk_put X hin (k := 14) (idx := 40) (by decide) (by decide) (by decide) rfl (ty := .array .int) (by decide +kernel) rfl rfl kX6_89 J fun H locs J => ?_
  refine lv_aload_n hx hb kX6_92 rfl (lv_at hl 0 rfl) ?_
  refine lv_sipush (v := 200) hx hb kX6_93 (by decide) ?_
  refine nk_newa X 0 (N := 200) (nl_w1 59 rfl rfl) hY0 rfl (by decide) (by decide) (by decide) (by omega) (by omega) kX6_96 J fun H J => ?_
  have J : nk_J G 6 M (M + 1) [(0, 7), (0, 7), (0, 7), (0, 7), (0, 7), (0, 7), (0, 49), (0, 7), (0, 6), (0, 6), (0, 6), (0, 200)] (updV (updV (updV (updV (updV (updV (updV (updV (updV (updV (updV V0 1 (.ref (M + 1 + 0))) 2 (.ref (M + 1 + 1))) 3 (.ref (M + 1 + 2))) 6 (.ref (M + 1 + 3))) 7 (.ref (M + 1 + 4))) 8 (.ref (M + 1 + 5))) 9 (.ref (M + 1 + 6))) 10 (.ref (M + 1 + 7))) 12 (.ref (M + 1 + 8))) 13 (.ref (M + 1 + 9))) 14 (.ref (M + 1 + 10))) s.heap H _ := J
  refine W.eq (cells := 12) (slots := 316) (g2 := F0 m 98 ls [.ref (M + 1 + 11), .ref M]) rfl ?_
  refine nk_put X hin (k := 15) (idx := 43) (by decide) (by decide) (by decide) rfl (ty := .array .int) (by decide +kernel) rfl rfl kX6_98 J fun H locs J => ?_
  refine lv_aload_n hx hb kX6_101 rfl (lv_at hl 0 rfl) ?_
  refine lv_bipush (v := 7) hx hb kX6_102 (by decide) ?_
  refine nk_newa X 0 (N := 7) (nl_w1 59 rfl rfl) hY0 rfl (by decide) (by decide) (by decide) (by omega) (by omega) kX6_104 J fun H J => ?_
  have J : nk_J G 6 M (M + 1) [(0, 7), (0, 7), (0, 7), (0, 7), (0, 7), (0, 7), (0, 49), (0, 7), (0, 6), (0, 6), (0, 6), (0, 200), (0, 7)] (updV (updV (updV (updV (updV (updV (updV (updV (updV (updV (updV (updV V0 1 (.ref (M + 1 + 0))) 2 (.ref (M + 1 + 1))) 3 (.ref (M + 1 + 2))) 6 (.ref (M + 1 + 3))) 7 (.ref (M + 1 + 4))) 8 (.ref (M + 1 + 5))) 9 (.ref (M + 1 + 6))) 10 (.ref (M + 1 + 7))) 12 (.ref (M + 1 + 8))) 13 (.ref (M + 1 + 9))) 14 (.ref (M + 1 + 10))) 15 (.ref (M + 1 + 11))) s.heap H _ := J
  refine W.eq (cells := 13) (slots := 323) (g2 := F0 m 106 ls [.ref (M + 1 + 12), .ref M]) rfl ?_
  refine nk_put X hin (k := 20) (idx := 46) (by decide) (by decide) (by decide) rfl (ty := .array .int) (by decide +kernel) rfl rfl kX6_106 J fun H locs J => ?_
  refine lv_aload_n hx hb kX6_109 rfl (lv_at hl 0 rfl) ?_
  refine lv_bipush (v := 21) hx hb kX6_110 (by decide) ?_
  refine nk_newa X 0 (N := 21) (nl_w1 59 rfl rfl) hY0 rfl (by decide) (by decide) (by decide) (by omega) (by omega) kX6_112 J fun H J => ?_
  have J : nk_J G 6 M (M + 1) [(0, 7), (0, 7), (0, 7), (0, 7), (0, 7), (0, 7), (0, 49), (0, 7), (0, 6), (0, 6), (0, 6), (0, 200), (0, 7), (0, 21)] (updV (updV (updV (updV (updV (updV (updV (updV (updV (updV (updV (updV (updV V0 1 (.ref (M + 1 + 0))) 2 (.ref (M + 1 + 1))) 3 (.ref (M + 1 + 2))) 6 (.ref (M + 1 + 3))) 7 (.ref (M + 1 + 4))) 8 (.ref (M + 1 + 5))) 9 (.ref (M + 1 + 6))) 10 (.ref (M + 1 + 7))) 12 (.ref (M + 1 + 8))) 13 (.ref (M + 1 + 9))) 14 (.ref (M + 1 + 10))) 15 (.ref (M + 1 + 11))) 20 (.ref (M + 1 + 12))) s.heap H _ := J
  refine W.eq (cells := 14) (slots := 344) (g2 := F0 m 114 ls [.ref (M + 1 + 13), .ref M]) rfl ?_
  refine nk_put X hin (k := 21) (idx := 49) (by decide) (by decide) (by decide) rfl (ty := .array .int) (by decide +kernel) rfl rfl kX6_114 J fun H locs J => ?_
  refine lv_aload_n hx hb kX6_117 rfl (lv_at hl 0 rfl) ?_
  refine lv_sipush (v := 632) hx hb kX6_118 (by decide) ?_
  refine nk_newa X 0 (N := 632) (nl_w1 59 rfl rfl) hY0 rfl (by decide) (by decide) (by decide) (by omega) (by omega) kX6_121 J fun H J => ?_
  have J : nk_J G 6 M (M + 1) [(0, 7), (0, 7), (0, 7), (0, 7), (0, 7), (0, 7), (0, 49), (0, 7), (0, 6), (0, 6), (0, 6), (0, 200), (0, 7), (0, 21), (0, 632)] (updV (updV (updV (updV (updV (updV (updV (updV (updV (updV (updV (updV (updV (updV V0 1 (.ref (M + 1 + 0))) 2 (.ref (M + 1 + 1))) 3 (.ref (M + 1 + 2))) 6 (.ref (M + 1 + 3))) 7 (.ref (M + 1 + 4))) 8 (.ref (M + 1 + 5))) 9 (.ref (M + 1 + 6))) 10 (.ref (M + 1 + 7))) 12 (.ref (M + 1 + 8))) 13 (.ref (M + 1 + 9))) 14 (.ref (M + 1 + 10))) 15 (.ref (M + 1 + 11))) 20 (.ref (M + 1 + 12))) 21 (.ref (M + 1 + 13))) s.heap H _ := J
  refine W.eq (cells := 15) (slots := 976) (g2 := F0 m 123 ls [.ref (M + 1 + 14), .ref M]) rfl ?_
  refine nk_put X hin (k := 23) (idx := 52) (by decide) (by decide) (by decide) rfl (ty := .array .int) (by decide +kernel) rfl rfl kX6_123 J fun H locs J => ?_
  refine lv_aload_n hx hb kX6_126 rfl (lv_at hl 0 rfl) ?_
  refine lv_bipush (v := 79) hx hb kX6_127 (by decide) ?_
  refine nk_newa X 0 (N := 79) (nl_w1 59 rfl rfl) hY0 rfl (by decide) (by decide) (by decide) (by omega) (by omega) kX6_129 J fun H J => ?_
  have J : nk_J G 6 M (M + 1) [(0, 7), (0, 7), (0, 7), (0, 7), (0, 7), (0, 7), (0, 49), (0, 7), (0, 6), (0, 6), (0, 6), (0, 200), (0, 7), (0, 21), (0, 632), (0, 79)] (updV (updV (updV (updV (updV (updV (updV (updV (updV (updV (updV (updV (updV (updV (updV V0 1 (.ref (M + 1 + 0))) 2 (.ref (M + 1 + 1))) 3 (.ref (M + 1 + 2))) 6 (.ref (M + 1 + 3))) 7 (.ref (M + 1 + 4))) 8 (.ref (M + 1 + 5))) 9 (.ref (M + 1 + 6))) 10 (.ref (M + 1 + 7))) 12 (.ref (M + 1 + 8))) 13 (.ref (M + 1 + 9))) 14 (.ref (M + 1 + 10))) 15 (.ref (M + 1 + 11))) 20 (.ref (M + 1 + 12))) 21 (.ref (M + 1 + 13))) 23 (.ref (M + 1 + 14))) s.heap H _ := J
  refine W.eq (cells := 16) (slots := 1055) (g2 := F0 m 131 ls [.ref (M + 1 + 15), .ref M]) rfl ?_
  refine nk_put X hin (k := 25) (idx := 55) (by decide) (by decide) (by decide) rfl (ty := .array .int) (by decide +kernel) rfl rfl kX6_131 J fun H locs J => ?_
  refine lv_aload_n hx hb kX6_134 rfl (lv_at hl 0 rfl) ?_
  refine lv_bipush (v := 7) hx hb kX6_135 (by decide) ?_
  refine nk_newa X 0 (N := 7) (nl_w1 59 rfl rfl) hY0 rfl (by decide) (by decide) (by decide) (by omega) (by omega) kX6_137 J fun H J => ?_
  have J : nk_J G 6 M (M + 1) [(0, 7), (0, 7), (0, 7), (0, 7), (0, 7), (0, 7), (0, 49), (0, 7), (0, 6), (0, 6), (0, 6), (0, 200), (0, 7), (0, 21), (0, 632), (0, 79), (0, 7)] (updV (updV (updV (updV (updV (updV (updV (updV (updV (updV (updV (updV (updV (updV (updV (updV V0 1 (.ref (M + 1 + 0))) 2 (.ref (M + 1 + 1))) 3 (.ref (M + 1 + 2))) 6 (.ref (M + 1 + 3))) 7 (.ref (M + 1 + 4))) 8 (.ref (M + 1 + 5))) 9 (.ref (M + 1 + 6))) 10 (.ref (M + 1 + 7))) 12 (.ref (M + 1 + 8))) 13 (.ref (M + 1 + 9))) 14 (.ref (M + 1 + 10))) 15 (.ref (M + 1 + 11))) 20 (.ref (M + 1 + 12))) 21 (.ref (M + 1 + 13))) 23 (.ref (M + 1 + 14))) 25 (.ref (M + 1 + 15))) s.heap H _ := J
  refine W.eq (cells := 17) (slots := 1062) (g2 := F0 m 139 ls [.ref (M + 1 + 16), .ref M]) rfl ?_
  refine nk_put X hin (k := 26) (idx := 58) (by decide) (by decide) (by decide) rfl (ty := .array .int) (by decide +kernel) rfl rfl kX6_139 J fun H locs J => ?_
  refine lv_aload_n hx hb kX6_142 rfl (lv_at hl 0 rfl) ?_
  refine lv_bipush (v := 7) hx hb kX6_143 (by decide) ?_
  refine nk_newa X 0 (N := 7) (nl_w1 59 rfl rfl) hY0 rfl (by decide) (by decide) (by decide) (by omega) (by omega) kX6_145 J fun H J => ?_
  have J : nk_J G 6 M (M + 1) [(0, 7), (0, 7), (0, 7), (0, 7), (0, 7), (0, 7), (0, 49), (0, 7), (0, 6), (0, 6), (0, 6), (0, 200), (0, 7), (0, 21), (0, 632), (0, 79), (0, 7), (0, 7)] (updV (updV (updV (updV (updV (updV (updV (updV (updV (updV (updV (updV (updV (updV (updV (updV (updV V0 1 (.ref (M + 1 + 0))) 2 (.ref (M + 1 + 1))) 3 (.ref (M + 1 + 2))) 6 (.ref (M + 1 + 3))) 7 (.ref (M + 1 + 4))) 8 (.ref (M + 1 + 5))) 9 (.ref (M + 1 + 6))) 10 (.ref (M + 1 + 7))) 12 (.ref (M + 1 + 8))) 13 (.ref (M + 1 + 9))) 14 (.ref (M + 1 + 10))) 15 (.ref (M + 1 + 11))) 20 (.ref (M + 1 + 12))) 21 (.ref (M + 1 + 13))) 23 (.ref (M + 1 + 14))) 25 (.ref (M + 1 + 15))) 26 (.ref (M + 1 + 16))) s.heap H _ := J
  refine W.eq (cells := 18) (slots := 1069) (g2 := F0 m 147 ls [.ref (M + 1 + 17), .ref M]) rfl ?_
  refine nk_put X hin (k := 27) (idx := 61) (by decide) (by decide) (by decide) rfl (ty := .array .int) (by decide +kernel) rfl rfl kX6_147 J fun H locs J => ?_
  refine lv_aload_n hx hb kX6_150 rfl (lv_at hl 0 rfl) ?_
  refine lv_sipush (v := 158) hx hb kX6_151 (by decide) ?_
  refine nk_newa X 0 (N := 158) (nl_w1 59 rfl rfl) hY0 rfl (by decide) (by decide) (by decide) (by omega) (by omega) kX6_154 J fun H J => ?_
  have J : nk_J G 6 M (M + 1) [(0, 7), (0, 7), (0, 7), (0, 7), (0, 7), (0, 7), (0, 49), (0, 7), (0, 6), (0, 6), (0, 6), (0, 200), (0, 7), (0, 21), (0, 632), (0, 79), (0, 7), (0, 7), (0, 158)] (updV (updV (updV (updV (updV (updV (updV (updV (updV (updV (updV (updV (updV (updV (updV (updV (updV (updV V0 1 (.ref (M + 1 + 0))) 2 (.ref (M + 1 + 1))) 3 (.ref (M + 1 + 2))) 6 (.ref (M + 1 + 3))) 7 (.ref (M + 1 + 4))) 8 (.ref (M + 1 + 5))) 9 (.ref (M + 1 + 6))) 10 (.ref (M + 1 + 7))) 12 (.ref (M + 1 + 8))) 13 (.ref (M + 1 + 9))) 14 (.ref (M + 1 + 10))) 15 (.ref (M + 1 + 11))) 20 (.ref (M + 1 + 12))) 21 (.ref (M + 1 + 13))) 23 (.ref (M + 1 + 14))) 25 (.ref (M + 1 + 15))) 26 (.ref (M + 1 + 16))) 27 (.ref (M + 1 + 17))) s.heap H _ := J
  refine W.eq (cells := 19) (slots := 1227) (g2 := F0 m 156 ls [.ref (M + 1 + 18), .ref M]) rfl ?_
  refine nk_put X hin (k := 28) (idx := 64) (by decide) (by decide) (by decide) rfl (ty := .array .int) (by decide +kernel) rfl rfl kX6_156 J fun H locs J => ?_
  obtain ⟨z1, z2, z3, z4, -, -⟩ := J
  refine kk H _ z1 (z2.to fun k hk => ?_) z3 z4
  subst hV0
  match k, hk with
  | 0, _ => rfl
  | 1, _ => rfl
  | 2, _ => rfl
  | 3, _ => rfl
  | 4, _ => rfl
  | 5, _ => rfl
  | 6, _ => rfl
  | 7, _ => rfl
  | 8, _ => rfl
  | 9, _ => rfl
  | 10, _ => rfl
  | 11, _ => rfl
  | 12, _ => rfl
  | 13, _ => rfl
  | 14, _ => rfl
  | 15, _ => rfl
  | 16, _ => rfl
  | 17, _ => rfl
  | 18, _ => rfl
  | 19, _ => rfl
  | 20, _ => rfl
  | 21, _ => rfl
  | 22, _ => rfl
  | 23, _ => rfl
  | 24, _ => rfl
  | 25, _ => rfl
  | 26, _ => rfl
  | 27, _ => rfl
  | 28, _ => rfl
  | 29, _ => rfl
  | n + 30, h => exact absurd (show n + 30 < 30 from h) (by omega)
end NK6
section NKM
variable {D : va_G} {Y : Nat → ClassId} {B M M1 b : Nat} {L : Int} {s : State} {H H1 : Heap} {h : nl_H}
theorem nk_Wd.kept (hq : ∀ q, q < B + 130 → H1[q]? = H[q]?) (W0 : nl_Wd (nk_G D Y B M b L 0 0) h s H) : nl_Wd (nk_G D Y B M b L 0 0) h s H1 := by
  have bd : ∀ c o : Nat, c < 7 → o < nk_n 0 0 c → nk_o B M c o + nk_len c < B + 130 := by
    intro c o hc ho
    rcases nk_rg (B := B) (M := B + 130) (n6 := 0) (n9 := 0) (o := o) (Nat.le_refl _) (by omega) hc ho with ⟨rfl, g2, g3⟩ | ⟨rfl, g2, g3⟩ | ⟨rfl, g2, g3⟩ | ⟨rfl, g2, g3⟩ | ⟨rfl, g2, g3⟩ | ⟨rfl, g2, g3⟩ | ⟨rfl, g2, g3⟩
    · show B + 1 < B + 130; omega
    · show B + 2 + 5 < B + 130; omega
    · show nk_o B (B + 130) 4 o + 8 < B + 130; omega
    · show nk_o B (B + 130) 2 o + 1 < B + 130; omega
    · show B + 120 + 3 < B + 130; omega
    · show B + 124 + 5 < B + 130; omega
    · exact absurd (show o < 0 from ho) (by omega)
  refine ⟨fun c o g1 g2 => (W0.1 c o g1 g2).kept (hq _ ?_), fun c o k g1 g2 g3 g4 => ?_, fun h9 => absurd h9 (show ¬ (0 : Nat) = 1 by decide)⟩
  · have := bd c o g1 g2
    show nk_o B M c o < B + 130
    omega
  · have := bd c o g1 g2
    have i := nk_in (B := B) (M := M) (b := b) (o := o) g1 g3 g4
    show H1[nk_a B M b c o k]? = _
    rw [hq _ (by omega)]
    exact W0.2.1 c o k g1 g2 g3 g4
theorem nk_Wd6 (h0 : h 6 0 = fun _ _ => 0) (z2 : t_OB M1 (D.1 6) (nl_N 6) (D.2 6) H (nk_V6 M1)) (z3 : nk_ar (nk_G D Y B M1 b L 1 0) nk_a6 (M1 + 1) H) (W0 : nl_Wd (nk_G D Y B M b L 0 0) h s H) : nl_Wd (nk_G D Y B M1 b L 1 0) h s H := by
  refine nk_Wd1 W0 (z2.to fun k hk => ?_) (fun k hk hf => ?_) (fun h9 => absurd h9 (by decide))
  · show nk_V6 M1 k = (match nl_fk 6 k with
      | 0 => .int (Int32.ofInt (h 6 0 k 0))
      | 1 => .ref (nk_a B M1 b 6 0 k)
      | n + 2 => .ref (nk_o B M1 (n / 32) (n % 32)))
    rw [h0]
    match k, hk with
    | 0, _ => rfl
    | 1, _ => rfl
    | 2, _ => rfl
    | 3, _ => rfl
    | 4, _ => rfl
    | 5, _ => rfl
    | 6, _ => rfl
    | 7, _ => rfl
    | 8, _ => rfl
    | 9, _ => rfl
    | 10, _ => rfl
    | 11, _ => rfl
    | 12, _ => rfl
    | 13, _ => rfl
    | 14, _ => rfl
    | 15, _ => rfl
    | 16, _ => rfl
    | 17, _ => rfl
    | 18, _ => rfl
    | 19, _ => rfl
    | 20, _ => rfl
    | 21, _ => rfl
    | 22, _ => rfl
    | 23, _ => rfl
    | 24, _ => rfl
    | 25, _ => rfl
    | 26, _ => rfl
    | 27, _ => rfl
    | 28, _ => rfl
    | 29, _ => rfl
    | n + 30, h => exact absurd (show n + 30 < 30 from h) (by omega)
  · have e : nl_arr (nk_G D Y B M1 b L 1 0) h 6 0 k = (nl_aln 6 0 k, .inl fun _ => Int32.ofInt 0) := by
      show (nl_aln 6 0 k, Sum.inl fun i => Int32.ofInt (h 6 0 k i)) = _
      rw [h0]
    rw [e]
    match k, hk, hf with
    | 0, _, hf => exact absurd hf (by decide)
    | 1, _, _ => exact z3 0 _ rfl
    | 2, _, _ => exact z3 1 _ rfl
    | 3, _, _ => exact z3 2 _ rfl
    | 4, _, hf => exact absurd hf (by decide)
    | 5, _, hf => exact absurd hf (by decide)
    | 6, _, _ => exact z3 3 _ rfl
    | 7, _, _ => exact z3 4 _ rfl
    | 8, _, _ => exact z3 5 _ rfl
    | 9, _, _ => exact z3 6 _ rfl
    | 10, _, _ => exact z3 7 _ rfl
    | 11, _, hf => exact absurd hf (by decide)
    | 12, _, _ => exact z3 8 _ rfl
    | 13, _, _ => exact z3 9 _ rfl
    | 14, _, _ => exact z3 10 _ rfl
    | 15, _, _ => exact z3 11 _ rfl
    | 16, _, hf => exact absurd hf (by decide)
    | 17, _, hf => exact absurd hf (by decide)
    | 18, _, hf => exact absurd hf (by decide)
    | 19, _, hf => exact absurd hf (by decide)
    | 20, _, _ => exact z3 12 _ rfl
    | 21, _, _ => exact z3 13 _ rfl
    | 22, _, hf => exact absurd hf (by decide)
    | 23, _, _ => exact z3 14 _ rfl
    | 24, _, hf => exact absurd hf (by decide)
    | 25, _, _ => exact z3 15 _ rfl
    | 26, _, _ => exact z3 16 _ rfl
    | 27, _, _ => exact z3 17 _ rfl
    | 28, _, _ => exact z3 18 _ rfl
    | 29, _, hf => exact absurd hf (by decide)
    | n + 30, h, _ => exact absurd (show n + 30 < 30 from h) (by omega)
end NKM
