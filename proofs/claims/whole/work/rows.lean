section
theorem tb_1 {w : Jvm.Cond} (h : w ∈ tables_1_1) : w ∈ tables_1 := List.mem_append_left _ h
theorem tb_2 {w : Jvm.Cond} (h : w ∈ tables_1_2) : w ∈ tables_1 := List.mem_append_right _ (List.mem_append_left _ h)
theorem tb_3 {w : Jvm.Cond} (h : w ∈ tables_1_3) : w ∈ tables_1 := List.mem_append_right _ (List.mem_append_right _ (List.mem_append_left _ h))
theorem tb_4 {w : Jvm.Cond} (h : w ∈ tables_1_4) : w ∈ tables_1 := List.mem_append_right _ (List.mem_append_right _ (List.mem_append_right _ h))
/-- a private method of a class that the tables say can be made, by its rows of tables_1 -/
def lw_okq (q : MethodName × Nat) : Prop := (q.1.cls ≠ "java/lang/invoke/MethodHandle" ∧ q.1.cls ≠ "java/lang/invoke/VarHandle") ∧ Cond.instantiable q.1.cls q.2 ∈ tables_1 ∧ Cond.privateMethod q.1 ∈ tables_1 ∧ Cond.instanceMethod q.1 ∈ tables_1
set_option maxRecDepth 100000 in
theorem lw_p0 : lw_okq (⟨"NightLots$Plan", "readItem", "([III)I"⟩, 8) := ⟨⟨by decide +kernel, by decide +kernel⟩, tb_1 (List.mem_of_getElem? (i := 23) rfl), tb_2 (List.mem_of_getElem? (i := 6) rfl), tb_2 (List.mem_of_getElem? (i := 7) rfl)⟩
set_option maxRecDepth 100000 in
theorem lw_p1 : lw_okq (⟨"NightLots$Plan", "readNumber", "([IIII)I"⟩, 8) := ⟨⟨by decide +kernel, by decide +kernel⟩, tb_1 (List.mem_of_getElem? (i := 23) rfl), tb_2 (List.mem_of_getElem? (i := 10) rfl), tb_2 (List.mem_of_getElem? (i := 11) rfl)⟩
set_option maxRecDepth 100000 in
theorem lw_p2 : lw_okq (⟨"NightLots$Plan", "addHour", "()Z"⟩, 8) := ⟨⟨by decide +kernel, by decide +kernel⟩, tb_1 (List.mem_of_getElem? (i := 23) rfl), tb_2 (List.mem_of_getElem? (i := 15) rfl), tb_2 (List.mem_of_getElem? (i := 16) rfl)⟩
set_option maxRecDepth 100000 in
theorem lw_p3 : lw_okq (⟨"NightLots$Plan", "addHouse", "()Z"⟩, 8) := ⟨⟨by decide +kernel, by decide +kernel⟩, tb_1 (List.mem_of_getElem? (i := 23) rfl), tb_2 (List.mem_of_getElem? (i := 19) rfl), tb_2 (List.mem_of_getElem? (i := 20) rfl)⟩
set_option maxRecDepth 100000 in
theorem lw_p4 : lw_okq (⟨"NightLots$Valley", "hourHadMost", "(I)I"⟩, 11) := ⟨⟨by decide +kernel, by decide +kernel⟩, tb_1 (List.mem_of_getElem? (i := 61) rfl), tb_2 (List.mem_of_getElem? (i := 110) rfl), tb_2 (List.mem_of_getElem? (i := 111) rfl)⟩
set_option maxRecDepth 100000 in
theorem lw_p5 : lw_okq (⟨"NightLots$Shelf", "dropOldest", "()V"⟩, 2) := ⟨⟨by decide +kernel, by decide +kernel⟩, tb_1 (List.mem_of_getElem? (i := 114) rfl), tb_2 (List.mem_of_getElem? (i := 131) rfl), tb_2 (List.mem_of_getElem? (i := 132) rfl)⟩
set_option maxRecDepth 100000 in
theorem lw_p6 : lw_okq (⟨"NightLots", "nextMissAhead", "(II)I"⟩, 9) := ⟨⟨by decide +kernel, by decide +kernel⟩, tb_1 (List.mem_of_getElem? (i := 15) rfl), tb_2 (List.mem_of_getElem? (i := 203) rfl), tb_2 (List.mem_of_getElem? (i := 204) rfl)⟩
set_option maxRecDepth 100000 in
theorem lw_p7 : lw_okq (⟨"NightLots$Deal", "weigh", "(LNightLots$Valley;)V"⟩, 6) := ⟨⟨by decide +kernel, by decide +kernel⟩, tb_1 (List.mem_of_getElem? (i := 155) rfl), tb_2 (List.mem_of_getElem? (i := 216) rfl), tb_2 (List.mem_of_getElem? (i := 217) rfl)⟩
set_option maxRecDepth 100000 in
theorem lw_p8 : lw_okq (⟨"NightLots$Deal", "leastOf", "(II)I"⟩, 6) := ⟨⟨by decide +kernel, by decide +kernel⟩, tb_1 (List.mem_of_getElem? (i := 155) rfl), tb_2 (List.mem_of_getElem? (i := 222) rfl), tb_2 (List.mem_of_getElem? (i := 223) rfl)⟩
set_option maxRecDepth 100000 in
theorem lw_p9 : lw_okq (⟨"NightLots$Deal", "priceWith", "(III)I"⟩, 6) := ⟨⟨by decide +kernel, by decide +kernel⟩, tb_1 (List.mem_of_getElem? (i := 155) rfl), tb_2 (List.mem_of_getElem? (i := 232) rfl), tb_2 (List.mem_of_getElem? (i := 233) rfl)⟩
set_option maxRecDepth 100000 in
theorem lw_p10 : lw_okq (⟨"NightLots$Deal", "dealOut", "(I)V"⟩, 6) := ⟨⟨by decide +kernel, by decide +kernel⟩, tb_1 (List.mem_of_getElem? (i := 155) rfl), tb_2 (List.mem_of_getElem? (i := 237) rfl), tb_2 (List.mem_of_getElem? (i := 238) rfl)⟩
set_option maxRecDepth 100000 in
theorem lw_p11 : lw_okq (⟨"NightLots$Deal", "lowestOfLeast", "(III)I"⟩, 6) := ⟨⟨by decide +kernel, by decide +kernel⟩, tb_1 (List.mem_of_getElem? (i := 155) rfl), tb_3 (List.mem_of_getElem? (i := 1) rfl), tb_3 (List.mem_of_getElem? (i := 2) rfl)⟩
set_option maxRecDepth 100000 in
theorem lw_p12 : lw_okq (⟨"NightLots", "fitsAllSeen", "(III)Z"⟩, 9) := ⟨⟨by decide +kernel, by decide +kernel⟩, tb_1 (List.mem_of_getElem? (i := 15) rfl), tb_3 (List.mem_of_getElem? (i := 55) rfl), tb_3 (List.mem_of_getElem? (i := 56) rfl)⟩
set_option maxRecDepth 100000 in
theorem lw_p13 : lw_okq (⟨"NightLotsModel", "firstHouse", "(IIII)V"⟩, 30) := ⟨⟨by decide +kernel, by decide +kernel⟩, tb_3 (List.mem_of_getElem? (i := 116) rfl), tb_3 (List.mem_of_getElem? (i := 122) rfl), tb_3 (List.mem_of_getElem? (i := 123) rfl)⟩
set_option maxRecDepth 100000 in
theorem lw_p14 : lw_okq (⟨"NightLotsModel", "begin", "()V"⟩, 30) := ⟨⟨by decide +kernel, by decide +kernel⟩, tb_3 (List.mem_of_getElem? (i := 116) rfl), tb_3 (List.mem_of_getElem? (i := 126) rfl), tb_3 (List.mem_of_getElem? (i := 127) rfl)⟩
set_option maxRecDepth 100000 in
theorem lw_p15 : lw_okq (⟨"NightLotsModel", "readsItem", "()Z"⟩, 30) := ⟨⟨by decide +kernel, by decide +kernel⟩, tb_3 (List.mem_of_getElem? (i := 116) rfl), tb_3 (List.mem_of_getElem? (i := 236) rfl), tb_3 (List.mem_of_getElem? (i := 237) rfl)⟩
def lw_privs_1 : List (MethodName × Nat) := [(⟨"NightLots$Plan", "readItem", "([III)I"⟩, 8), (⟨"NightLots$Plan", "readNumber", "([IIII)I"⟩, 8), (⟨"NightLots$Plan", "addHour", "()Z"⟩, 8), (⟨"NightLots$Plan", "addHouse", "()Z"⟩, 8), (⟨"NightLots$Valley", "hourHadMost", "(I)I"⟩, 11), (⟨"NightLots$Shelf", "dropOldest", "()V"⟩, 2), (⟨"NightLots", "nextMissAhead", "(II)I"⟩, 9), (⟨"NightLots$Deal", "weigh", "(LNightLots$Valley;)V"⟩, 6), (⟨"NightLots$Deal", "leastOf", "(II)I"⟩, 6), (⟨"NightLots$Deal", "priceWith", "(III)I"⟩, 6), (⟨"NightLots$Deal", "dealOut", "(I)V"⟩, 6), (⟨"NightLots$Deal", "lowestOfLeast", "(III)I"⟩, 6), (⟨"NightLots", "fitsAllSeen", "(III)Z"⟩, 9), (⟨"NightLotsModel", "firstHouse", "(IIII)V"⟩, 30), (⟨"NightLotsModel", "begin", "()V"⟩, 30), (⟨"NightLotsModel", "readsItem", "()Z"⟩, 30)]
theorem lw_r1 : ∀ q ∈ lw_privs_1, lw_okq q := List.forall_mem_cons.mpr ⟨lw_p0, List.forall_mem_cons.mpr ⟨lw_p1, List.forall_mem_cons.mpr ⟨lw_p2, List.forall_mem_cons.mpr ⟨lw_p3, List.forall_mem_cons.mpr ⟨lw_p4, List.forall_mem_cons.mpr ⟨lw_p5, List.forall_mem_cons.mpr ⟨lw_p6, List.forall_mem_cons.mpr ⟨lw_p7, List.forall_mem_cons.mpr ⟨lw_p8, List.forall_mem_cons.mpr ⟨lw_p9, List.forall_mem_cons.mpr ⟨lw_p10, List.forall_mem_cons.mpr ⟨lw_p11, List.forall_mem_cons.mpr ⟨lw_p12, List.forall_mem_cons.mpr ⟨lw_p13, List.forall_mem_cons.mpr ⟨lw_p14, List.forall_mem_cons.mpr ⟨lw_p15, fun _ h => absurd h List.not_mem_nil⟩⟩⟩⟩⟩⟩⟩⟩⟩⟩⟩⟩⟩⟩⟩⟩
set_option maxRecDepth 100000 in
theorem lw_p16 : lw_okq (⟨"NightLotsModel", "here", "()I"⟩, 30) := ⟨⟨by decide +kernel, by decide +kernel⟩, tb_3 (List.mem_of_getElem? (i := 116) rfl), tb_4 (List.mem_of_getElem? (i := 0) rfl), tb_4 (List.mem_of_getElem? (i := 1) rfl)⟩
set_option maxRecDepth 100000 in
theorem lw_p17 : lw_okq (⟨"NightLotsModel", "readsHour", "()Z"⟩, 30) := ⟨⟨by decide +kernel, by decide +kernel⟩, tb_3 (List.mem_of_getElem? (i := 116) rfl), tb_4 (List.mem_of_getElem? (i := 4) rfl), tb_4 (List.mem_of_getElem? (i := 5) rfl)⟩
set_option maxRecDepth 100000 in
theorem lw_p18 : lw_okq (⟨"NightLotsModel", "number", "(III)Z"⟩, 30) := ⟨⟨by decide +kernel, by decide +kernel⟩, tb_3 (List.mem_of_getElem? (i := 116) rfl), tb_4 (List.mem_of_getElem? (i := 8) rfl), tb_4 (List.mem_of_getElem? (i := 9) rfl)⟩
set_option maxRecDepth 100000 in
theorem lw_p19 : lw_okq (⟨"NightLotsModel", "isFigure", "()Z"⟩, 30) := ⟨⟨by decide +kernel, by decide +kernel⟩, tb_3 (List.mem_of_getElem? (i := 116) rfl), tb_4 (List.mem_of_getElem? (i := 12) rfl), tb_4 (List.mem_of_getElem? (i := 13) rfl)⟩
set_option maxRecDepth 100000 in
theorem lw_p20 : lw_okq (⟨"NightLotsModel", "readsHouse", "()Z"⟩, 30) := ⟨⟨by decide +kernel, by decide +kernel⟩, tb_3 (List.mem_of_getElem? (i := 116) rfl), tb_4 (List.mem_of_getElem? (i := 16) rfl), tb_4 (List.mem_of_getElem? (i := 17) rfl)⟩
set_option maxRecDepth 100000 in
theorem lw_p21 : lw_okq (⟨"NightLotsModel", "isOne", "(I)Z"⟩, 30) := ⟨⟨by decide +kernel, by decide +kernel⟩, tb_3 (List.mem_of_getElem? (i := 116) rfl), tb_4 (List.mem_of_getElem? (i := 29) rfl), tb_4 (List.mem_of_getElem? (i := 30) rfl)⟩
set_option maxRecDepth 100000 in
theorem lw_p22 : lw_okq (⟨"NightLotsModel", "whoHas", "(I)I"⟩, 30) := ⟨⟨by decide +kernel, by decide +kernel⟩, tb_3 (List.mem_of_getElem? (i := 116) rfl), tb_4 (List.mem_of_getElem? (i := 37) rfl), tb_4 (List.mem_of_getElem? (i := 38) rfl)⟩
set_option maxRecDepth 100000 in
theorem lw_p23 : lw_okq (⟨"NightLotsModel", "weight", "(II)I"⟩, 30) := ⟨⟨by decide +kernel, by decide +kernel⟩, tb_3 (List.mem_of_getElem? (i := 116) rfl), tb_4 (List.mem_of_getElem? (i := 45) rfl), tb_4 (List.mem_of_getElem? (i := 46) rfl)⟩
set_option maxRecDepth 100000 in
theorem lw_p24 : lw_okq (⟨"NightLotsModel", "mostOften", "(I)I"⟩, 30) := ⟨⟨by decide +kernel, by decide +kernel⟩, tb_3 (List.mem_of_getElem? (i := 116) rfl), tb_4 (List.mem_of_getElem? (i := 49) rfl), tb_4 (List.mem_of_getElem? (i := 50) rfl)⟩
set_option maxRecDepth 100000 in
theorem lw_p25 : lw_okq (⟨"NightLotsModel", "notes", "()V"⟩, 30) := ⟨⟨by decide +kernel, by decide +kernel⟩, tb_3 (List.mem_of_getElem? (i := 116) rfl), tb_4 (List.mem_of_getElem? (i := 64) rfl), tb_4 (List.mem_of_getElem? (i := 65) rfl)⟩
set_option maxRecDepth 100000 in
theorem lw_p26 : lw_okq (⟨"NightLotsModel", "lays", "([II)V"⟩, 30) := ⟨⟨by decide +kernel, by decide +kernel⟩, tb_3 (List.mem_of_getElem? (i := 116) rfl), tb_4 (List.mem_of_getElem? (i := 68) rfl), tb_4 (List.mem_of_getElem? (i := 69) rfl)⟩
set_option maxRecDepth 100000 in
theorem lw_p27 : lw_okq (⟨"NightLotsModel", "goesOn", "(I)I"⟩, 30) := ⟨⟨by decide +kernel, by decide +kernel⟩, tb_3 (List.mem_of_getElem? (i := 116) rfl), tb_4 (List.mem_of_getElem? (i := 72) rfl), tb_4 (List.mem_of_getElem? (i := 73) rfl)⟩
set_option maxRecDepth 100000 in
theorem lw_p28 : lw_okq (⟨"NightLotsModel", "passes", "()I"⟩, 30) := ⟨⟨by decide +kernel, by decide +kernel⟩, tb_3 (List.mem_of_getElem? (i := 116) rfl), tb_4 (List.mem_of_getElem? (i := 76) rfl), tb_4 (List.mem_of_getElem? (i := 77) rfl)⟩
set_option maxRecDepth 100000 in
theorem lw_p29 : lw_okq (⟨"NightLotsModel", "keeps", "(II)Z"⟩, 30) := ⟨⟨by decide +kernel, by decide +kernel⟩, tb_3 (List.mem_of_getElem? (i := 116) rfl), tb_4 (List.mem_of_getElem? (i := 80) rfl), tb_4 (List.mem_of_getElem? (i := 81) rfl)⟩
set_option maxRecDepth 100000 in
theorem lw_p30 : lw_okq (⟨"NightLotsModel", "trades", "(II)V"⟩, 30) := ⟨⟨by decide +kernel, by decide +kernel⟩, tb_3 (List.mem_of_getElem? (i := 116) rfl), tb_4 (List.mem_of_getElem? (i := 91) rfl), tb_4 (List.mem_of_getElem? (i := 92) rfl)⟩
set_option maxRecDepth 100000 in
theorem lw_p31 : lw_okq (⟨"NightLotsModel", "rests", "(I)V"⟩, 30) := ⟨⟨by decide +kernel, by decide +kernel⟩, tb_3 (List.mem_of_getElem? (i := 116) rfl), tb_4 (List.mem_of_getElem? (i := 99) rfl), tb_4 (List.mem_of_getElem? (i := 100) rfl)⟩
def lw_privs_2 : List (MethodName × Nat) := [(⟨"NightLotsModel", "here", "()I"⟩, 30), (⟨"NightLotsModel", "readsHour", "()Z"⟩, 30), (⟨"NightLotsModel", "number", "(III)Z"⟩, 30), (⟨"NightLotsModel", "isFigure", "()Z"⟩, 30), (⟨"NightLotsModel", "readsHouse", "()Z"⟩, 30), (⟨"NightLotsModel", "isOne", "(I)Z"⟩, 30), (⟨"NightLotsModel", "whoHas", "(I)I"⟩, 30), (⟨"NightLotsModel", "weight", "(II)I"⟩, 30), (⟨"NightLotsModel", "mostOften", "(I)I"⟩, 30), (⟨"NightLotsModel", "notes", "()V"⟩, 30), (⟨"NightLotsModel", "lays", "([II)V"⟩, 30), (⟨"NightLotsModel", "goesOn", "(I)I"⟩, 30), (⟨"NightLotsModel", "passes", "()I"⟩, 30), (⟨"NightLotsModel", "keeps", "(II)Z"⟩, 30), (⟨"NightLotsModel", "trades", "(II)V"⟩, 30), (⟨"NightLotsModel", "rests", "(I)V"⟩, 30)]
theorem lw_r2 : ∀ q ∈ lw_privs_2, lw_okq q := List.forall_mem_cons.mpr ⟨lw_p16, List.forall_mem_cons.mpr ⟨lw_p17, List.forall_mem_cons.mpr ⟨lw_p18, List.forall_mem_cons.mpr ⟨lw_p19, List.forall_mem_cons.mpr ⟨lw_p20, List.forall_mem_cons.mpr ⟨lw_p21, List.forall_mem_cons.mpr ⟨lw_p22, List.forall_mem_cons.mpr ⟨lw_p23, List.forall_mem_cons.mpr ⟨lw_p24, List.forall_mem_cons.mpr ⟨lw_p25, List.forall_mem_cons.mpr ⟨lw_p26, List.forall_mem_cons.mpr ⟨lw_p27, List.forall_mem_cons.mpr ⟨lw_p28, List.forall_mem_cons.mpr ⟨lw_p29, List.forall_mem_cons.mpr ⟨lw_p30, List.forall_mem_cons.mpr ⟨lw_p31, fun _ h => absurd h List.not_mem_nil⟩⟩⟩⟩⟩⟩⟩⟩⟩⟩⟩⟩⟩⟩⟩⟩
set_option maxRecDepth 100000 in
theorem lw_p32 : lw_okq (⟨"NightLotsModel", "takes", "([II)V"⟩, 30) := ⟨⟨by decide +kernel, by decide +kernel⟩, tb_3 (List.mem_of_getElem? (i := 116) rfl), tb_4 (List.mem_of_getElem? (i := 111) rfl), tb_4 (List.mem_of_getElem? (i := 112) rfl)⟩
set_option maxRecDepth 100000 in
theorem lw_p33 : lw_okq (⟨"NightLotsModel", "start", "()V"⟩, 30) := ⟨⟨by decide +kernel, by decide +kernel⟩, tb_3 (List.mem_of_getElem? (i := 116) rfl), tb_4 (List.mem_of_getElem? (i := 119) rfl), tb_4 (List.mem_of_getElem? (i := 120) rfl)⟩
set_option maxRecDepth 100000 in
theorem lw_p34 : lw_okq (⟨"NightLotsModel", "putBack", "()V"⟩, 30) := ⟨⟨by decide +kernel, by decide +kernel⟩, tb_3 (List.mem_of_getElem? (i := 116) rfl), tb_4 (List.mem_of_getElem? (i := 123) rfl), tb_4 (List.mem_of_getElem? (i := 124) rfl)⟩
set_option maxRecDepth 100000 in
theorem lw_p35 : lw_okq (⟨"NightLotsModel", "gapSet", "()I"⟩, 30) := ⟨⟨by decide +kernel, by decide +kernel⟩, tb_3 (List.mem_of_getElem? (i := 116) rfl), tb_4 (List.mem_of_getElem? (i := 131) rfl), tb_4 (List.mem_of_getElem? (i := 132) rfl)⟩
set_option maxRecDepth 100000 in
theorem lw_p36 : lw_okq (⟨"NightLotsModel", "firstRow", "()V"⟩, 30) := ⟨⟨by decide +kernel, by decide +kernel⟩, tb_3 (List.mem_of_getElem? (i := 116) rfl), tb_4 (List.mem_of_getElem? (i := 144) rfl), tb_4 (List.mem_of_getElem? (i := 145) rfl)⟩
set_option maxRecDepth 100000 in
theorem lw_p37 : lw_okq (⟨"NightLotsModel", "gapsBy", "()I"⟩, 30) := ⟨⟨by decide +kernel, by decide +kernel⟩, tb_3 (List.mem_of_getElem? (i := 116) rfl), tb_4 (List.mem_of_getElem? (i := 148) rfl), tb_4 (List.mem_of_getElem? (i := 149) rfl)⟩
set_option maxRecDepth 100000 in
theorem lw_p38 : lw_okq (⟨"NightLotsModel", "keptWeight", "()I"⟩, 30) := ⟨⟨by decide +kernel, by decide +kernel⟩, tb_3 (List.mem_of_getElem? (i := 116) rfl), tb_4 (List.mem_of_getElem? (i := 152) rfl), tb_4 (List.mem_of_getElem? (i := 153) rfl)⟩
set_option maxRecDepth 100000 in
theorem lw_p39 : lw_okq (⟨"NightLotsModel", "nextRow", "()Z"⟩, 30) := ⟨⟨by decide +kernel, by decide +kernel⟩, tb_3 (List.mem_of_getElem? (i := 116) rfl), tb_4 (List.mem_of_getElem? (i := 156) rfl), tb_4 (List.mem_of_getElem? (i := 157) rfl)⟩
set_option maxRecDepth 100000 in
theorem lw_p40 : lw_okq (⟨"NightLotsModel", "swapsTo", "()I"⟩, 30) := ⟨⟨by decide +kernel, by decide +kernel⟩, tb_3 (List.mem_of_getElem? (i := 116) rfl), tb_4 (List.mem_of_getElem? (i := 164) rfl), tb_4 (List.mem_of_getElem? (i := 165) rfl)⟩
set_option maxRecDepth 100000 in
theorem lw_p41 : lw_okq (⟨"NightLotsModel", "isSo", "()Z"⟩, 30) := ⟨⟨by decide +kernel, by decide +kernel⟩, tb_3 (List.mem_of_getElem? (i := 116) rfl), tb_4 (List.mem_of_getElem? (i := 197) rfl), tb_4 (List.mem_of_getElem? (i := 198) rfl)⟩
set_option maxRecDepth 100000 in
theorem lw_p42 : lw_okq (⟨"NightLotsModel", "tiredAll", "()I"⟩, 30) := ⟨⟨by decide +kernel, by decide +kernel⟩, tb_3 (List.mem_of_getElem? (i := 116) rfl), tb_4 (List.mem_of_getElem? (i := 221) rfl), tb_4 (List.mem_of_getElem? (i := 222) rfl)⟩
def lw_privs_3 : List (MethodName × Nat) := [(⟨"NightLotsModel", "takes", "([II)V"⟩, 30), (⟨"NightLotsModel", "start", "()V"⟩, 30), (⟨"NightLotsModel", "putBack", "()V"⟩, 30), (⟨"NightLotsModel", "gapSet", "()I"⟩, 30), (⟨"NightLotsModel", "firstRow", "()V"⟩, 30), (⟨"NightLotsModel", "gapsBy", "()I"⟩, 30), (⟨"NightLotsModel", "keptWeight", "()I"⟩, 30), (⟨"NightLotsModel", "nextRow", "()Z"⟩, 30), (⟨"NightLotsModel", "swapsTo", "()I"⟩, 30), (⟨"NightLotsModel", "isSo", "()Z"⟩, 30), (⟨"NightLotsModel", "tiredAll", "()I"⟩, 30)]
theorem lw_r3 : ∀ q ∈ lw_privs_3, lw_okq q := List.forall_mem_cons.mpr ⟨lw_p32, List.forall_mem_cons.mpr ⟨lw_p33, List.forall_mem_cons.mpr ⟨lw_p34, List.forall_mem_cons.mpr ⟨lw_p35, List.forall_mem_cons.mpr ⟨lw_p36, List.forall_mem_cons.mpr ⟨lw_p37, List.forall_mem_cons.mpr ⟨lw_p38, List.forall_mem_cons.mpr ⟨lw_p39, List.forall_mem_cons.mpr ⟨lw_p40, List.forall_mem_cons.mpr ⟨lw_p41, List.forall_mem_cons.mpr ⟨lw_p42, fun _ h => absurd h List.not_mem_nil⟩⟩⟩⟩⟩⟩⟩⟩⟩⟩⟩
def lw_privs : List (MethodName × Nat) := lw_privs_1 ++ (lw_privs_2 ++ (lw_privs_3))
def lw_tbl : List Cond := k2_sels lw_privs ++ tables_1
set_option maxRecDepth 100000 in
theorem lw_privs_ok : ∀ q ∈ lw_privs, lw_okq q := by
  show ∀ q ∈ lw_privs_1 ++ (lw_privs_2 ++ (lw_privs_3)), lw_okq q
  exact List.forall_mem_append.mpr ⟨lw_r1, List.forall_mem_append.mpr ⟨lw_r2, lw_r3⟩⟩
/-! ===== BEGIN words of one list among another's, by their places ===== -/
theorem goodIn_r {big : List Cond} (ws : List Cond) (ps : List Nat) (hp : ws = ps.filterMap (fun i => big[i]?)) (h : ws.all goodWord = true) : GoodIn big ws := by
  intro w hw
  have h1 := List.all_eq_true.mp h w hw
  rw [hp] at hw
  obtain ⟨i, -, hi⟩ := List.mem_filterMap.mp hw
  have hm : w ∈ big := by first | exact List.mem_of_getElem? hi | exact List.getElem?_mem hi
  exact ⟨hm, good_of_word h1⟩
theorem goodIn_app {big a b : List Cond} (ha : GoodIn big a) (hb : GoodIn big b) : GoodIn big (a ++ b) := fun w h => (List.mem_append.mp h).elim (ha w) (hb w)
theorem goodIn_ca {big a b : List Cond} {c : Cond} (ha : GoodIn big (c :: a)) (hb : GoodIn big b) : GoodIn big (c :: (a ++ b)) := fun w h => (List.mem_cons.mp h).elim (fun e => ha w (List.mem_cons.mpr (Or.inl e))) (fun h => (List.mem_append.mp h).elim (fun h => ha w (List.mem_cons.mpr (Or.inr h))) (hb w))
theorem goodIn_sub {big ws : List Cond} (hm : ∀ w ∈ ws, w ∈ big) (h : ws.all goodWord = true) : GoodIn big ws := fun w hw => ⟨hm w hw, good_of_word (List.all_eq_true.mp h w hw)⟩
/-! ===== END ===== -/

/-! ===== BEGIN printed: names, fields, word lists, decode rows ===== -/
def RX0 : String := "NightLots$Deal"
def TX0 : u_T := fun k => match k with
  | 0 => ("NightLots$Deal", "price", "[I", true)
  | 1 => ("NightLots$Deal", "leastBehind", "[I", true)
  | 2 => ("NightLots$Deal", "hourFor", "[I", true)
  | 3 => ("NightLots$Deal", "keepable", "[I", true)
  | 4 => ("NightLots$Deal", "lots", "[I", true)
  | _ => ("NightLots$Deal", "fewestGaps", "I", false)
def tyX0 : Nat → FieldType := fun k => match k with
  | 0 => .array .int
  | 1 => .array .int
  | 2 => .array .int
  | 3 => .array .int
  | 4 => .array .int
  | _ => .int
abbrev wsX00 : List Cond := u_ws RX0 TX0 6
theorem nmX0 : ∀ a, a < 6 → ∀ b, b < 6 → a ≠ b → (TX0 a).2.1 ≠ (TX0 b).2.1 := by decide +kernel
theorem tyX0_ok : ∀ k, k < 6 → parseFieldDescriptor (TX0 k).2.2.1 = some (tyX0 k) := by decide +kernel
abbrev cX0_init : ByteArray := prog_2_method_1_code
def yX0_init : MethodName := ⟨RX0, "<init>", "()V"⟩
abbrev cX0_choose : ByteArray := prog_2_method_2_code
def yX0_choose : MethodName := ⟨RX0, "choose", "(LNightLots$Valley;)V"⟩
abbrev cX0_weigh : ByteArray := prog_2_method_3_code
def yX0_weigh : MethodName := ⟨RX0, "weigh", "(LNightLots$Valley;)V"⟩
abbrev cX0_leastOf : ByteArray := prog_2_method_4_code
def yX0_leastOf : MethodName := ⟨RX0, "leastOf", "(II)I"⟩
abbrev cX0_priceWith : ByteArray := prog_2_method_5_code
def yX0_priceWith : MethodName := ⟨RX0, "priceWith", "(III)I"⟩
abbrev cX0_dealOut : ByteArray := prog_2_method_6_code
def yX0_dealOut : MethodName := ⟨RX0, "dealOut", "(I)V"⟩
abbrev cX0_lowestOfLeast : ByteArray := prog_2_method_7_code
def yX0_lowestOfLeast : MethodName := ⟨RX0, "lowestOfLeast", "(III)I"⟩
abbrev cX0_fewestSwaps : ByteArray := prog_2_method_8_code
def yX0_fewestSwaps : MethodName := ⟨RX0, "fewestSwaps", "(LNightLots$Valley;)I"⟩
abbrev cX0_canBridge : ByteArray := prog_2_method_9_code
def yX0_canBridge : MethodName := ⟨RX0, "canBridge", "([I[IIII)Z"⟩
abbrev cX0_exchange : ByteArray := prog_2_method_10_code
def yX0_exchange : MethodName := ⟨RX0, "exchange", "([III)V"⟩
def RX1 : String := "NightLots$Plan"
def TX1 : u_T := fun k => match k with
  | 0 => ("NightLots$Plan", "burdenOf", "[I", true)
  | 1 => ("NightLots$Plan", "kindOf", "[I", true)
  | 2 => ("NightLots$Plan", "strengthOf", "[I", true)
  | 3 => ("NightLots$Plan", "placeOf", "[I", true)
  | 4 => ("NightLots$Plan", "numbers", "[I", true)
  | 5 => ("NightLots$Plan", "hours", "I", false)
  | 6 => ("NightLots$Plan", "houses", "I", false)
  | _ => ("NightLots$Plan", "fault", "I", false)
def tyX1 : Nat → FieldType := fun k => match k with
  | 0 => .array .int
  | 1 => .array .int
  | 2 => .array .int
  | 3 => .array .int
  | 4 => .array .int
  | 5 => .int
  | 6 => .int
  | _ => .int
abbrev wsX10 : List Cond := u_ws RX1 TX1 8
theorem nmX1 : ∀ a, a < 8 → ∀ b, b < 8 → a ≠ b → (TX1 a).2.1 ≠ (TX1 b).2.1 := by decide +kernel
theorem tyX1_ok : ∀ k, k < 8 → parseFieldDescriptor (TX1 k).2.2.1 = some (tyX1 k) := by decide +kernel
abbrev cX1_init : ByteArray := prog_3_method_1_code
def yX1_init : MethodName := ⟨RX1, "<init>", "()V"⟩
abbrev cX1_read : ByteArray := prog_3_method_2_code
def yX1_read : MethodName := ⟨RX1, "read", "([II)V"⟩
abbrev cX1_canBeLaid : ByteArray := prog_3_method_3_code
def yX1_canBeLaid : MethodName := ⟨RX1, "canBeLaid", "()Z"⟩
abbrev cX1_readItem : ByteArray := prog_3_method_4_code
def yX1_readItem : MethodName := ⟨RX1, "readItem", "([III)I"⟩
abbrev cX1_readNumber : ByteArray := prog_3_method_5_code
def yX1_readNumber : MethodName := ⟨RX1, "readNumber", "([IIII)I"⟩
abbrev cX1_addHour : ByteArray := prog_3_method_6_code
def yX1_addHour : MethodName := ⟨RX1, "addHour", "()Z"⟩
abbrev cX1_addHouse : ByteArray := prog_3_method_7_code
def yX1_addHouse : MethodName := ⟨RX1, "addHouse", "()Z"⟩
def RX2 : String := "NightLots$Shelf"
def TX2 : u_T := fun k => match k with
  | 0 => ("NightLots$Shelf", "row", "[LNightLots$Valley;", true)
  | _ => ("NightLots$Shelf", "filled", "I", false)
def tyX2 : Nat → FieldType := fun k => match k with
  | 0 => .array (.object "NightLots$Valley")
  | _ => .int
abbrev wsX20 : List Cond := u_ws RX2 TX2 2
theorem nmX2 : ∀ a, a < 2 → ∀ b, b < 2 → a ≠ b → (TX2 a).2.1 ≠ (TX2 b).2.1 := by decide +kernel
theorem tyX2_ok : ∀ k, k < 2 → parseFieldDescriptor (TX2 k).2.2.1 = some (tyX2 k) := by decide +kernel
abbrev cX2_init : ByteArray := prog_4_method_1_code
def yX2_init : MethodName := ⟨RX2, "<init>", "(I)V"⟩
abbrev cX2_clear : ByteArray := prog_4_method_2_code
def yX2_clear : MethodName := ⟨RX2, "clear", "()V"⟩
abbrev cX2_put : ByteArray := prog_4_method_3_code
def yX2_put : MethodName := ⟨RX2, "put", "(LNightLots$Valley;)V"⟩
abbrev cX2_dropOldest : ByteArray := prog_4_method_4_code
def yX2_dropOldest : MethodName := ⟨RX2, "dropOldest", "()V"⟩
abbrev cX2_takeInto : ByteArray := prog_4_method_5_code
def yX2_takeInto : MethodName := ⟨RX2, "takeInto", "(LNightLots$Valley;)Z"⟩
def RX3 : String := "NightLots$Sightings"
def TX3 : u_T := fun k => match k with
  | 0 => ("NightLots$Sightings", "nights", "[I", true)
  | 1 => ("NightLots$Sightings", "hours", "[I", true)
  | 2 => ("NightLots$Sightings", "areGaps", "[Z", true)
  | _ => ("NightLots$Sightings", "filled", "I", false)
def tyX3 : Nat → FieldType := fun k => match k with
  | 0 => .array .int
  | 1 => .array .int
  | 2 => .array .boolean
  | _ => .int
abbrev wsX30 : List Cond := u_ws RX3 TX3 4
theorem nmX3 : ∀ a, a < 4 → ∀ b, b < 4 → a ≠ b → (TX3 a).2.1 ≠ (TX3 b).2.1 := by decide +kernel
theorem tyX3_ok : ∀ k, k < 4 → parseFieldDescriptor (TX3 k).2.2.1 = some (tyX3 k) := by decide +kernel
abbrev cX3_init : ByteArray := prog_5_method_1_code
def yX3_init : MethodName := ⟨RX3, "<init>", "()V"⟩
abbrev cX3_clear : ByteArray := prog_5_method_2_code
def yX3_clear : MethodName := ⟨RX3, "clear", "()V"⟩
abbrev cX3_add : ByteArray := prog_5_method_3_code
def yX3_add : MethodName := ⟨RX3, "add", "(IIZ)V"⟩
abbrev cX3_lastNight : ByteArray := prog_5_method_4_code
def yX3_lastNight : MethodName := ⟨RX3, "lastNight", "()I"⟩
abbrev cX3_fit : ByteArray := prog_5_method_5_code
def yX3_fit : MethodName := ⟨RX3, "fit", "(LNightLots$Valley;I)Z"⟩
def RX4 : String := "NightLots$Valley"
def TX4 : u_T := fun k => match k with
  | 0 => ("NightLots$Valley", "houses", "I", false)
  | 1 => ("NightLots$Valley", "night", "I", false)
  | 2 => ("NightLots$Valley", "gapsSoFar", "I", false)
  | 3 => ("NightLots$Valley", "burdenOf", "[I", true)
  | 4 => ("NightLots$Valley", "kindOf", "[I", true)
  | 5 => ("NightLots$Valley", "strengthOf", "[I", true)
  | 6 => ("NightLots$Valley", "placeOf", "[I", true)
  | 7 => ("NightLots$Valley", "tiredOf", "[I", true)
  | 8 => ("NightLots$Valley", "hourOf", "[I", true)
  | 9 => ("NightLots$Valley", "missedBy", "[I", true)
  | _ => ("NightLots$Valley", "hadBy", "[I", true)
def tyX4 : Nat → FieldType := fun k => match k with
  | 0 => .int
  | 1 => .int
  | 2 => .int
  | 3 => .array .int
  | 4 => .array .int
  | 5 => .array .int
  | 6 => .array .int
  | 7 => .array .int
  | 8 => .array .int
  | 9 => .array .int
  | _ => .array .int
abbrev wsX40 : List Cond := u_ws RX4 TX4 11
theorem nmX4 : ∀ a, a < 11 → ∀ b, b < 11 → a ≠ b → (TX4 a).2.1 ≠ (TX4 b).2.1 := by decide +kernel
theorem tyX4_ok : ∀ k, k < 11 → parseFieldDescriptor (TX4 k).2.2.1 = some (tyX4 k) := by decide +kernel
abbrev cX4_init : ByteArray := prog_6_method_1_code
def yX4_init : MethodName := ⟨RX4, "<init>", "()V"⟩
abbrev cX4_settle : ByteArray := prog_6_method_2_code
def yX4_settle : MethodName := ⟨RX4, "settle", "(LNightLots$Plan;)V"⟩
abbrev cX4_copyFrom : ByteArray := prog_6_method_3_code
def yX4_copyFrom : MethodName := ⟨RX4, "copyFrom", "(LNightLots$Valley;)V"⟩
abbrev cX4_isHouse : ByteArray := prog_6_method_4_code
def yX4_isHouse : MethodName := ⟨RX4, "isHouse", "(I)Z"⟩
abbrev cX4_isHour : ByteArray := prog_6_method_5_code
def yX4_isHour : MethodName := ⟨RX4, "isHour", "(I)Z"⟩
abbrev cX4_houseWith : ByteArray := prog_6_method_6_code
def yX4_houseWith : MethodName := ⟨RX4, "houseWith", "(I)I"⟩
abbrev cX4_timesHad : ByteArray := prog_6_method_7_code
def yX4_timesHad : MethodName := ⟨RX4, "timesHad", "(II)I"⟩
abbrev cX4_heaviness : ByteArray := prog_6_method_8_code
def yX4_heaviness : MethodName := ⟨RX4, "heaviness", "(II)I"⟩
abbrev cX4_hourHadMost : ByteArray := prog_6_method_9_code
def yX4_hourHadMost : MethodName := ⟨RX4, "hourHadMost", "(I)I"⟩
abbrev cX4_wouldKeep : ByteArray := prog_6_method_10_code
def yX4_wouldKeep : MethodName := ⟨RX4, "wouldKeep", "(III)Z"⟩
abbrev cX4_isGapAt : ByteArray := prog_6_method_11_code
def yX4_isGapAt : MethodName := ⟨RX4, "isGapAt", "(I)Z"⟩
abbrev cX4_seeThrough : ByteArray := prog_6_method_12_code
def yX4_seeThrough : MethodName := ⟨RX4, "seeThrough", "(I)Z"⟩
abbrev cX4_letNightsPass : ByteArray := prog_6_method_13_code
def yX4_letNightsPass : MethodName := ⟨RX4, "letNightsPass", "(I)I"⟩
abbrev cX4_trade : ByteArray := prog_6_method_14_code
def yX4_trade : MethodName := ⟨RX4, "trade", "(II)V"⟩
abbrev cX4_giveRest : ByteArray := prog_6_method_15_code
def yX4_giveRest : MethodName := ⟨RX4, "giveRest", "(I)V"⟩
abbrev cX4_setBurden : ByteArray := prog_6_method_16_code
def yX4_setBurden : MethodName := ⟨RX4, "setBurden", "(II)V"⟩
abbrev cX4_tiredTogether : ByteArray := prog_6_method_17_code
def yX4_tiredTogether : MethodName := ⟨RX4, "tiredTogether", "()I"⟩
abbrev cX4_handingOver : ByteArray := prog_6_method_18_code
def yX4_handingOver : MethodName := ⟨RX4, "handingOver", "()I"⟩
abbrev cX4_lengthOfRoad : ByteArray := prog_6_method_19_code
def yX4_lengthOfRoad : MethodName := ⟨RX4, "lengthOfRoad", "()I"⟩
abbrev cX4_stir : ByteArray := prog_6_method_20_code
def yX4_stir : MethodName := ⟨RX4, "stir", "(I)V"⟩
def RX5 : String := "NightLots"
def TX5 : u_T := fun k => match k with
  | 0 => ("NightLots", "text", "[I", true)
  | 1 => ("NightLots", "letters", "I", false)
  | 2 => ("NightLots", "plan", "LNightLots$Plan;", true)
  | 3 => ("NightLots", "now", "LNightLots$Valley;", true)
  | 4 => ("NightLots", "ahead", "LNightLots$Valley;", true)
  | 5 => ("NightLots", "undoable", "LNightLots$Shelf;", true)
  | 6 => ("NightLots", "aside", "LNightLots$Shelf;", true)
  | 7 => ("NightLots", "sightings", "LNightLots$Sightings;", true)
  | _ => ("NightLots", "deal", "LNightLots$Deal;", true)
def tyX5 : Nat → FieldType := fun k => match k with
  | 0 => .array .int
  | 1 => .int
  | 2 => .object "NightLots$Plan"
  | 3 => .object "NightLots$Valley"
  | 4 => .object "NightLots$Valley"
  | 5 => .object "NightLots$Shelf"
  | 6 => .object "NightLots$Shelf"
  | 7 => .object "NightLots$Sightings"
  | _ => .object "NightLots$Deal"
abbrev wsX50 : List Cond := u_ws RX5 TX5 9
theorem nmX5 : ∀ a, a < 9 → ∀ b, b < 9 → a ≠ b → (TX5 a).2.1 ≠ (TX5 b).2.1 := by decide +kernel
theorem tyX5_ok : ∀ k, k < 9 → parseFieldDescriptor (TX5 k).2.2.1 = some (tyX5 k) := by decide +kernel
abbrev cX5_init : ByteArray := prog_1_method_1_code
def yX5_init : MethodName := ⟨RX5, "<init>", "()V"⟩
abbrev cX5_write : ByteArray := prog_1_method_2_code
def yX5_write : MethodName := ⟨RX5, "write", "(I)I"⟩
abbrev cX5_wipe : ByteArray := prog_1_method_3_code
def yX5_wipe : MethodName := ⟨RX5, "wipe", "()I"⟩
abbrev cX5_fault : ByteArray := prog_1_method_4_code
def yX5_fault : MethodName := ⟨RX5, "fault", "()I"⟩
abbrev cX5_lay : ByteArray := prog_1_method_5_code
def yX5_lay : MethodName := ⟨RX5, "lay", "()I"⟩
abbrev cX5_house : ByteArray := prog_1_method_6_code
def yX5_house : MethodName := ⟨RX5, "house", "(II)I"⟩
abbrev cX5_hour : ByteArray := prog_1_method_7_code
def yX5_hour : MethodName := ⟨RX5, "hour", "(II)I"⟩
abbrev cX5_heavy : ByteArray := prog_1_method_8_code
def yX5_heavy : MethodName := ⟨RX5, "heavy", "(II)I"⟩
abbrev cX5_had : ByteArray := prog_1_method_9_code
def yX5_had : MethodName := ⟨RX5, "had", "(II)I"⟩
abbrev cX5_pass : ByteArray := prog_1_method_10_code
def yX5_pass : MethodName := ⟨RX5, "pass", "(I)I"⟩
abbrev cX5_swap : ByteArray := prog_1_method_11_code
def yX5_swap : MethodName := ⟨RX5, "swap", "(II)I"⟩
abbrev cX5_rest : ByteArray := prog_1_method_12_code
def yX5_rest : MethodName := ⟨RX5, "rest", "(I)I"⟩
abbrev cX5_burden : ByteArray := prog_1_method_13_code
def yX5_burden : MethodName := ⟨RX5, "burden", "(II)I"⟩
abbrev cX5_undo : ByteArray := prog_1_method_14_code
def yX5_undo : MethodName := ⟨RX5, "undo", "()I"⟩
abbrev cX5_behind : ByteArray := prog_1_method_15_code
def yX5_behind : MethodName := ⟨RX5, "behind", "(III)I"⟩
abbrev cX5_gaps : ByteArray := prog_1_method_16_code
def yX5_gaps : MethodName := ⟨RX5, "gaps", "()I"⟩
abbrev cX5_first : ByteArray := prog_1_method_17_code
def yX5_first : MethodName := ⟨RX5, "first", "(I)I"⟩
abbrev cX5_even : ByteArray := prog_1_method_18_code
def yX5_even : MethodName := ⟨RX5, "even", "(I)I"⟩
abbrev cX5_swaps : ByteArray := prog_1_method_19_code
def yX5_swaps : MethodName := ⟨RX5, "swaps", "()I"⟩
abbrev cX5_far : ByteArray := prog_1_method_20_code
def yX5_far : MethodName := ⟨RX5, "far", "(I)I"⟩
abbrev cX5_lamps : ByteArray := prog_1_method_21_code
def yX5_lamps : MethodName := ⟨RX5, "lamps", "(II)I"⟩
abbrev cX5_seen : ByteArray := prog_1_method_22_code
def yX5_seen : MethodName := ⟨RX5, "seen", "(III)I"⟩
abbrev cX5_forget : ByteArray := prog_1_method_23_code
def yX5_forget : MethodName := ⟨RX5, "forget", "()I"⟩
abbrev cX5_kinds : ByteArray := prog_1_method_24_code
def yX5_kinds : MethodName := ⟨RX5, "kinds", "(I)I"⟩
abbrev cX5_strengths : ByteArray := prog_1_method_25_code
def yX5_strengths : MethodName := ⟨RX5, "strengths", "(II)I"⟩
abbrev cX5_likely : ByteArray := prog_1_method_26_code
def yX5_likely : MethodName := ⟨RX5, "likely", "(III)I"⟩
abbrev cX5_winter : ByteArray := prog_1_method_27_code
def yX5_winter : MethodName := ⟨RX5, "winter", "(III)I"⟩
abbrev cX5_keep : ByteArray := prog_1_method_28_code
def yX5_keep : MethodName := ⟨RX5, "keep", "()I"⟩
abbrev cX5_back : ByteArray := prog_1_method_29_code
def yX5_back : MethodName := ⟨RX5, "back", "()I"⟩
abbrev cX5_count : ByteArray := prog_1_method_30_code
def yX5_count : MethodName := ⟨RX5, "count", "(I)I"⟩
abbrev cX5_isWithin : ByteArray := prog_1_method_31_code
def yX5_isWithin : MethodName := ⟨RX5, "isWithin", "(III)Z"⟩
abbrev cX5_largestDivisor : ByteArray := prog_1_method_32_code
def yX5_largestDivisor : MethodName := ⟨RX5, "largestDivisor", "(II)I"⟩
abbrev cX5_drawFor : ByteArray := prog_1_method_33_code
def yX5_drawFor : MethodName := ⟨RX5, "drawFor", "(II)I"⟩
abbrev cX5_nextMissAhead : ByteArray := prog_1_method_34_code
def yX5_nextMissAhead : MethodName := ⟨RX5, "nextMissAhead", "(II)I"⟩
abbrev cX5_fitsAllSeen : ByteArray := prog_1_method_35_code
def yX5_fitsAllSeen : MethodName := ⟨RX5, "fitsAllSeen", "(III)Z"⟩
def RX6 : String := "NightLotsModel"
def TX6 : u_T := fun k => match k with
  | 0 => ("NightLotsModel", "many", "I", false)
  | 1 => ("NightLotsModel", "kindOf", "[I", true)
  | 2 => ("NightLotsModel", "strength", "[I", true)
  | 3 => ("NightLotsModel", "place", "[I", true)
  | 4 => ("NightLotsModel", "night", "I", false)
  | 5 => ("NightLotsModel", "gapMany", "I", false)
  | 6 => ("NightLotsModel", "hourOf", "[I", true)
  | 7 => ("NightLotsModel", "tired", "[I", true)
  | 8 => ("NightLotsModel", "missed", "[I", true)
  | 9 => ("NightLotsModel", "often", "[I", true)
  | 10 => ("NightLotsModel", "load", "[I", true)
  | 11 => ("NightLotsModel", "seenMany", "I", false)
  | 12 => ("NightLotsModel", "seenBehind", "[I", true)
  | 13 => ("NightLotsModel", "seenHour", "[I", true)
  | 14 => ("NightLotsModel", "seenIs", "[I", true)
  | 15 => ("NightLotsModel", "text", "[I", true)
  | 16 => ("NightLotsModel", "size", "I", false)
  | 17 => ("NightLotsModel", "readAt", "I", false)
  | 18 => ("NightLotsModel", "readHours", "I", false)
  | 19 => ("NightLotsModel", "readHouses", "I", false)
  | 20 => ("NightLotsModel", "readLoads", "[I", true)
  | 21 => ("NightLotsModel", "readHouse", "[I", true)
  | 22 => ("NightLotsModel", "readNumber", "I", false)
  | 23 => ("NightLotsModel", "ahead", "[I", true)
  | 24 => ("NightLotsModel", "undoMany", "I", false)
  | 25 => ("NightLotsModel", "aside", "[I", true)
  | 26 => ("NightLotsModel", "row", "[I", true)
  | 27 => ("NightLotsModel", "bestRow", "[I", true)
  | 28 => ("NightLotsModel", "kept", "[I", true)
  | _ => ("NightLotsModel", "keptMany", "I", false)
def tyX6 : Nat → FieldType := fun k => match k with
  | 0 => .int
  | 1 => .array .int
  | 2 => .array .int
  | 3 => .array .int
  | 4 => .int
  | 5 => .int
  | 6 => .array .int
  | 7 => .array .int
  | 8 => .array .int
  | 9 => .array .int
  | 10 => .array .int
  | 11 => .int
  | 12 => .array .int
  | 13 => .array .int
  | 14 => .array .int
  | 15 => .array .int
  | 16 => .int
  | 17 => .int
  | 18 => .int
  | 19 => .int
  | 20 => .array .int
  | 21 => .array .int
  | 22 => .int
  | 23 => .array .int
  | 24 => .int
  | 25 => .array .int
  | 26 => .array .int
  | 27 => .array .int
  | 28 => .array .int
  | _ => .int
abbrev wsX60 : List Cond := u_ws RX6 TX6 30
theorem nmX6 : ∀ a, a < 30 → ∀ b, b < 30 → a ≠ b → (TX6 a).2.1 ≠ (TX6 b).2.1 := by decide +kernel
theorem tyX6_ok : ∀ k, k < 30 → parseFieldDescriptor (TX6 k).2.2.1 = some (tyX6 k) := by decide +kernel
abbrev cX6_in : ByteArray := prog_8_method_1_code
def yX6_in : MethodName := ⟨RX6, "in", "(III)Z"⟩
abbrev cX6_has : ByteArray := prog_8_method_2_code
def yX6_has : MethodName := ⟨RX6, "has", "(II)Z"⟩
abbrev cX6_bits : ByteArray := prog_8_method_3_code
def yX6_bits : MethodName := ⟨RX6, "bits", "(I)I"⟩
abbrev cX6_lesser : ByteArray := prog_8_method_4_code
def yX6_lesser : MethodName := ⟨RX6, "lesser", "(II)I"⟩
abbrev cX6_greater : ByteArray := prog_8_method_5_code
def yX6_greater : MethodName := ⟨RX6, "greater", "(II)I"⟩
abbrev cX6_init : ByteArray := prog_8_method_6_code
def yX6_init : MethodName := ⟨RX6, "<init>", "()V"⟩
abbrev cX6_firstHouse : ByteArray := prog_8_method_7_code
def yX6_firstHouse : MethodName := ⟨RX6, "firstHouse", "(IIII)V"⟩
abbrev cX6_begin : ByteArray := prog_8_method_8_code
def yX6_begin : MethodName := ⟨RX6, "begin", "()V"⟩
abbrev cX6_isOne : ByteArray := prog_8_method_9_code
def yX6_isOne : MethodName := ⟨RX6, "isOne", "(I)Z"⟩
abbrev cX6_write : ByteArray := prog_8_method_10_code
def yX6_write : MethodName := ⟨RX6, "write", "(I)I"⟩
abbrev cX6_wipe : ByteArray := prog_8_method_11_code
def yX6_wipe : MethodName := ⟨RX6, "wipe", "()I"⟩
abbrev cX6_here : ByteArray := prog_8_method_12_code
def yX6_here : MethodName := ⟨RX6, "here", "()I"⟩
abbrev cX6_isFigure : ByteArray := prog_8_method_13_code
def yX6_isFigure : MethodName := ⟨RX6, "isFigure", "()Z"⟩
abbrev cX6_number : ByteArray := prog_8_method_14_code
def yX6_number : MethodName := ⟨RX6, "number", "(III)Z"⟩
abbrev cX6_readsHour : ByteArray := prog_8_method_15_code
def yX6_readsHour : MethodName := ⟨RX6, "readsHour", "()Z"⟩
abbrev cX6_readsHouse : ByteArray := prog_8_method_16_code
def yX6_readsHouse : MethodName := ⟨RX6, "readsHouse", "()Z"⟩
abbrev cX6_readsItem : ByteArray := prog_8_method_17_code
def yX6_readsItem : MethodName := ⟨RX6, "readsItem", "()Z"⟩
abbrev cX6_fault : ByteArray := prog_8_method_18_code
def yX6_fault : MethodName := ⟨RX6, "fault", "()I"⟩
abbrev cX6_lay : ByteArray := prog_8_method_19_code
def yX6_lay : MethodName := ⟨RX6, "lay", "()I"⟩
abbrev cX6_mostOften : ByteArray := prog_8_method_20_code
def yX6_mostOften : MethodName := ⟨RX6, "mostOften", "(I)I"⟩
abbrev cX6_weight : ByteArray := prog_8_method_21_code
def yX6_weight : MethodName := ⟨RX6, "weight", "(II)I"⟩
abbrev cX6_keeps : ByteArray := prog_8_method_22_code
def yX6_keeps : MethodName := ⟨RX6, "keeps", "(II)Z"⟩
abbrev cX6_gapSet : ByteArray := prog_8_method_23_code
def yX6_gapSet : MethodName := ⟨RX6, "gapSet", "()I"⟩
abbrev cX6_passes : ByteArray := prog_8_method_24_code
def yX6_passes : MethodName := ⟨RX6, "passes", "()I"⟩
abbrev cX6_goesOn : ByteArray := prog_8_method_25_code
def yX6_goesOn : MethodName := ⟨RX6, "goesOn", "(I)I"⟩
abbrev cX6_house : ByteArray := prog_8_method_26_code
def yX6_house : MethodName := ⟨RX6, "house", "(II)I"⟩
abbrev cX6_whoHas : ByteArray := prog_8_method_27_code
def yX6_whoHas : MethodName := ⟨RX6, "whoHas", "(I)I"⟩
abbrev cX6_hour : ByteArray := prog_8_method_28_code
def yX6_hour : MethodName := ⟨RX6, "hour", "(II)I"⟩
abbrev cX6_heavy : ByteArray := prog_8_method_29_code
def yX6_heavy : MethodName := ⟨RX6, "heavy", "(II)I"⟩
abbrev cX6_had : ByteArray := prog_8_method_30_code
def yX6_had : MethodName := ⟨RX6, "had", "(II)I"⟩
abbrev cX6_lays : ByteArray := prog_8_method_31_code
def yX6_lays : MethodName := ⟨RX6, "lays", "([II)V"⟩
abbrev cX6_takes : ByteArray := prog_8_method_32_code
def yX6_takes : MethodName := ⟨RX6, "takes", "([II)V"⟩
abbrev cX6_notes : ByteArray := prog_8_method_33_code
def yX6_notes : MethodName := ⟨RX6, "notes", "()V"⟩
abbrev cX6_pass : ByteArray := prog_8_method_34_code
def yX6_pass : MethodName := ⟨RX6, "pass", "(I)I"⟩
abbrev cX6_trades : ByteArray := prog_8_method_35_code
def yX6_trades : MethodName := ⟨RX6, "trades", "(II)V"⟩
abbrev cX6_swap : ByteArray := prog_8_method_36_code
def yX6_swap : MethodName := ⟨RX6, "swap", "(II)I"⟩
abbrev cX6_rests : ByteArray := prog_8_method_37_code
def yX6_rests : MethodName := ⟨RX6, "rests", "(I)V"⟩
abbrev cX6_rest : ByteArray := prog_8_method_38_code
def yX6_rest : MethodName := ⟨RX6, "rest", "(I)I"⟩
abbrev cX6_burden : ByteArray := prog_8_method_39_code
def yX6_burden : MethodName := ⟨RX6, "burden", "(II)I"⟩
abbrev cX6_undo : ByteArray := prog_8_method_40_code
def yX6_undo : MethodName := ⟨RX6, "undo", "()I"⟩
abbrev cX6_start : ByteArray := prog_8_method_41_code
def yX6_start : MethodName := ⟨RX6, "start", "()V"⟩
abbrev cX6_putBack : ByteArray := prog_8_method_42_code
def yX6_putBack : MethodName := ⟨RX6, "putBack", "()V"⟩
abbrev cX6_behind : ByteArray := prog_8_method_43_code
def yX6_behind : MethodName := ⟨RX6, "behind", "(III)I"⟩
abbrev cX6_gaps : ByteArray := prog_8_method_44_code
def yX6_gaps : MethodName := ⟨RX6, "gaps", "()I"⟩
abbrev cX6_first : ByteArray := prog_8_method_45_code
def yX6_first : MethodName := ⟨RX6, "first", "(I)I"⟩
abbrev cX6_firstRow : ByteArray := prog_8_method_46_code
def yX6_firstRow : MethodName := ⟨RX6, "firstRow", "()V"⟩
abbrev cX6_nextRow : ByteArray := prog_8_method_47_code
def yX6_nextRow : MethodName := ⟨RX6, "nextRow", "()Z"⟩
abbrev cX6_gapsBy : ByteArray := prog_8_method_48_code
def yX6_gapsBy : MethodName := ⟨RX6, "gapsBy", "()I"⟩
abbrev cX6_keptWeight : ByteArray := prog_8_method_49_code
def yX6_keptWeight : MethodName := ⟨RX6, "keptWeight", "()I"⟩
abbrev cX6_even : ByteArray := prog_8_method_50_code
def yX6_even : MethodName := ⟨RX6, "even", "(I)I"⟩
abbrev cX6_swapsTo : ByteArray := prog_8_method_51_code
def yX6_swapsTo : MethodName := ⟨RX6, "swapsTo", "()I"⟩
abbrev cX6_swaps : ByteArray := prog_8_method_52_code
def yX6_swaps : MethodName := ⟨RX6, "swaps", "()I"⟩
abbrev cX6_off : ByteArray := prog_8_method_53_code
def yX6_off : MethodName := ⟨RX6, "off", "(II)I"⟩
abbrev cX6_far : ByteArray := prog_8_method_54_code
def yX6_far : MethodName := ⟨RX6, "far", "(I)I"⟩
abbrev cX6_lamps : ByteArray := prog_8_method_55_code
def yX6_lamps : MethodName := ⟨RX6, "lamps", "(II)I"⟩
abbrev cX6_seen : ByteArray := prog_8_method_56_code
def yX6_seen : MethodName := ⟨RX6, "seen", "(III)I"⟩
abbrev cX6_forget : ByteArray := prog_8_method_57_code
def yX6_forget : MethodName := ⟨RX6, "forget", "()I"⟩
abbrev cX6_isSo : ByteArray := prog_8_method_58_code
def yX6_isSo : MethodName := ⟨RX6, "isSo", "()Z"⟩
abbrev cX6_kinds : ByteArray := prog_8_method_59_code
def yX6_kinds : MethodName := ⟨RX6, "kinds", "(I)I"⟩
abbrev cX6_strengths : ByteArray := prog_8_method_60_code
def yX6_strengths : MethodName := ⟨RX6, "strengths", "(II)I"⟩
abbrev cX6_common : ByteArray := prog_8_method_61_code
def yX6_common : MethodName := ⟨RX6, "common", "(JJ)J"⟩
abbrev cX6_likely : ByteArray := prog_8_method_62_code
def yX6_likely : MethodName := ⟨RX6, "likely", "(III)I"⟩
abbrev cX6_tiredAll : ByteArray := prog_8_method_63_code
def yX6_tiredAll : MethodName := ⟨RX6, "tiredAll", "()I"⟩
abbrev cX6_winter : ByteArray := prog_8_method_64_code
def yX6_winter : MethodName := ⟨RX6, "winter", "(III)I"⟩
abbrev cX6_keep : ByteArray := prog_8_method_65_code
def yX6_keep : MethodName := ⟨RX6, "keep", "()I"⟩
abbrev cX6_back : ByteArray := prog_8_method_66_code
def yX6_back : MethodName := ⟨RX6, "back", "()I"⟩
abbrev cX6_count : ByteArray := prog_8_method_67_code
def yX6_count : MethodName := ⟨RX6, "count", "(I)I"⟩
def RJ6 : String := "java/lang/Integer"
def TJ6 : u_T := fun k => match k with
  | _ => ("", "", "", false)
def tyJ6 : Nat → FieldType := fun k => match k with
  | _ => .int
abbrev wsJ60 : List Cond := u_ws RJ6 TJ6 0
theorem nmJ6 : ∀ a, a < 0 → ∀ b, b < 0 → a ≠ b → (TJ6 a).2.1 ≠ (TJ6 b).2.1 := by decide +kernel
theorem tyJ6_ok : ∀ k, k < 0 → parseFieldDescriptor (TJ6 k).2.2.1 = some (tyJ6 k) := by decide +kernel
abbrev cJ6_bitCount_0f7a4 : ByteArray := prog_9_method_49_code
def yJ6_bitCount_0f7a4 : MethodName := ⟨RJ6, "bitCount", "(I)I"⟩
def RJ9 : String := "java/lang/Math"
def TJ9 : u_T := fun k => match k with
  | _ => ("", "", "", false)
def tyJ9 : Nat → FieldType := fun k => match k with
  | _ => .int
abbrev wsJ90 : List Cond := u_ws RJ9 TJ9 0
theorem nmJ9 : ∀ a, a < 0 → ∀ b, b < 0 → a ≠ b → (TJ9 a).2.1 ≠ (TJ9 b).2.1 := by decide +kernel
theorem tyJ9_ok : ∀ k, k < 0 → parseFieldDescriptor (TJ9 k).2.2.1 = some (tyJ9 k) := by decide +kernel
abbrev cJ9_abs_0f7a4 : ByteArray := prog_10_method_59_code
def yJ9_abs_0f7a4 : MethodName := ⟨RJ9, "abs", "(I)I"⟩
abbrev cJ9_max_7cf53 : ByteArray := prog_10_method_65_code
def yJ9_max_7cf53 : MethodName := ⟨RJ9, "max", "(II)I"⟩
abbrev cJ9_min_7cf53 : ByteArray := prog_10_method_69_code
def yJ9_min_7cf53 : MethodName := ⟨RJ9, "min", "(II)I"⟩
def RJ0 : String := "java/lang/String"
def TJ0 : u_T := fun k => match k with
  | _ => ("", "", "", false)
def tyJ0 : Nat → FieldType := fun k => match k with
  | _ => .int
abbrev wsJ00 : List Cond := u_ws RJ0 TJ0 0
theorem nmJ0 : ∀ a, a < 0 → ∀ b, b < 0 → a ≠ b → (TJ0 a).2.1 ≠ (TJ0 b).2.1 := by decide +kernel
theorem tyJ0_ok : ∀ k, k < 0 → parseFieldDescriptor (TJ0 k).2.2.1 = some (tyJ0 k) := by decide +kernel
abbrev cJ0_length_8abf5 : ByteArray := prog_11_method_54_code
def yJ0_length_8abf5 : MethodName := ⟨RJ0, "length", "()I"⟩
abbrev cJ0_charAt_5068e : ByteArray := prog_11_method_56_code
def yJ0_charAt_5068e : MethodName := ⟨RJ0, "charAt", "(I)C"⟩
abbrev cJ0_coder_7d493 : ByteArray := prog_11_method_152_code
def yJ0_coder_7d493 : MethodName := ⟨RJ0, "coder", "()B"⟩
abbrev cJ0_isLatin1_aae02 : ByteArray := prog_11_method_154_code
def yJ0_isLatin1_aae02 : MethodName := ⟨RJ0, "isLatin1", "()Z"⟩
abbrev cJ0_checkIndex_df160 : ByteArray := prog_11_method_155_code
def yJ0_checkIndex_df160 : MethodName := ⟨RJ0, "checkIndex", "(II)V"⟩
def RJ1 : String := "java/lang/StringLatin1"
def TJ1 : u_T := fun k => match k with
  | _ => ("", "", "", false)
def tyJ1 : Nat → FieldType := fun k => match k with
  | _ => .int
abbrev wsJ10 : List Cond := u_ws RJ1 TJ1 0
theorem nmJ1 : ∀ a, a < 0 → ∀ b, b < 0 → a ≠ b → (TJ1 a).2.1 ≠ (TJ1 b).2.1 := by decide +kernel
theorem tyJ1_ok : ∀ k, k < 0 → parseFieldDescriptor (TJ1 k).2.2.1 = some (tyJ1 k) := by decide +kernel
abbrev cJ1_charAt_3b067 : ByteArray := prog_12_method_2_code
def yJ1_charAt_3b067 : MethodName := ⟨RJ1, "charAt", "([BI)C"⟩
def RJ2 : String := "java/lang/StringUTF16"
def TJ2 : u_T := fun k => match k with
  | _ => ("", "", "", false)
def tyJ2 : Nat → FieldType := fun k => match k with
  | _ => .int
abbrev wsJ20 : List Cond := u_ws RJ2 TJ2 0
theorem nmJ2 : ∀ a, a < 0 → ∀ b, b < 0 → a ≠ b → (TJ2 a).2.1 ≠ (TJ2 b).2.1 := by decide +kernel
theorem tyJ2_ok : ∀ k, k < 0 → parseFieldDescriptor (TJ2 k).2.2.1 = some (tyJ2 k) := by decide +kernel
abbrev cJ2_getChar_3b067 : ByteArray := prog_13_method_5_code
def yJ2_getChar_3b067 : MethodName := ⟨RJ2, "getChar", "([BI)C"⟩
abbrev cJ2_length_9d52b : ByteArray := prog_13_method_6_code
def yJ2_length_9d52b : MethodName := ⟨RJ2, "length", "([B)I"⟩
abbrev cJ2_charAt_3b067 : ByteArray := prog_13_method_83_code
def yJ2_charAt_3b067 : MethodName := ⟨RJ2, "charAt", "([BI)C"⟩
abbrev cJ2_checkIndex_2214a : ByteArray := prog_13_method_91_code
def yJ2_checkIndex_2214a : MethodName := ⟨RJ2, "checkIndex", "(I[B)V"⟩
def RJ3 : String := "jdk/internal/util/Preconditions"
def TJ3 : u_T := fun k => match k with
  | _ => ("", "", "", false)
def tyJ3 : Nat → FieldType := fun k => match k with
  | _ => .int
abbrev wsJ30 : List Cond := u_ws RJ3 TJ3 0
theorem nmJ3 : ∀ a, a < 0 → ∀ b, b < 0 → a ≠ b → (TJ3 a).2.1 ≠ (TJ3 b).2.1 := by decide +kernel
theorem tyJ3_ok : ∀ k, k < 0 → parseFieldDescriptor (TJ3 k).2.2.1 = some (tyJ3 k) := by decide +kernel
abbrev cJ3_checkIndex_8e157 : ByteArray := prog_14_method_11_code
def yJ3_checkIndex_8e157 : MethodName := ⟨RJ3, "checkIndex", "(IILjava/util/function/BiFunction;)I"⟩
def RL : String := "NightLotsLaw"
abbrev cL_law : ByteArray := code
def yL_law : MethodName := ⟨RL, "law", "([I)Z"⟩
end
section
/-! An abstract machine over a fixed set of objects: values, heap, one step, runs, calls. Pure: nothing of the JVM model's states. -/
abbrev nl_V : Type := Int ⊕ Int ⊕ (Nat × Nat × Option Nat)
abbrev nl_H : Type := Nat → Nat → Nat → Nat → Int
abbrev vI (i : Int) : nl_V := Sum.inl i
abbrev vL (i : Int) : nl_V := Sum.inr (Sum.inl i)
abbrev vO (c o : Nat) : nl_V := Sum.inr (Sum.inr (c, o, none))
abbrev vA (c o k : Nat) : nl_V := Sum.inr (Sum.inr (c, o, some k))
abbrev nl_Ls : Type := List (Option nl_V)
abbrev nl_Re : Type := (Nat × nl_Ls × nl_H) ⊕ (Int × nl_H)
abbrev nl_E : Type := Nat × Instr × Nat × Nat × Nat × Nat
abbrev nl_D : Type := Nat → List nl_V → nl_H → Option (Int × nl_H)
/-- chosen, so that nothing unfolds it -/
theorem nl_exx (x : Int) (m : Nat) : ∃ y : Int, y = x.bmod m := ⟨_, rfl⟩
noncomputable def nl_nz (x : Int) : Int := Classical.choose (nl_exx x 4294967296)
noncomputable def nl_nl (x : Int) : Int := Classical.choose (nl_exx x 18446744073709551616)
theorem nx_nzd (x : Int) : nl_nz x = x.bmod 4294967296 := Classical.choose_spec (nl_exx x 4294967296)
theorem nx_nld (x : Int) : nl_nl x = x.bmod 18446744073709551616 := Classical.choose_spec (nl_exx x 18446744073709551616)
def nl_up (h : nl_H) (c o k i : Nat) (x : Int) : nl_H := fun c' o' k' i' => if c' = c ∧ o' = o ∧ k' = k ∧ i' = i then x else h c' o' k' i'
def nl_isL : nl_V → Bool
  | .inr (.inl _) => true
  | _ => false
def nl_cats : List nl_V → Nat
  | [] => 0
  | v :: r => (bif nl_isL v then 2 else 1) + nl_cats r
/-- a place of the locals -/
def nl_ld (L : nl_Ls) (i : Nat) : Option nl_V := match L, i with
  | [], _ => none
  | v :: _, 0 => v
  | _ :: r, i + 1 => nl_ld r i
/-- a long is lost -/
def nl_cw (w : Option nl_V) : Option nl_V := match w with
  | some x => bif nl_isL x then none else some x
  | none => none
/-- storing a value of one place: a long ahead of it is lost -/
def nl_s1 : nl_Ls → Nat → nl_V → nl_Ls
  | [], _, _ => []
  | _ :: r, 0, v => some v :: r
  | [_], _ + 1, _ => []
  | w :: u :: r, 1, v => nl_cw w :: nl_s1 (u :: r) 0 v
  | w :: u :: r, i + 2, v => w :: nl_s1 (u :: r) (i + 1) v
/-- storing a long -/
def nl_s2 (L : nl_Ls) (i : Nat) (v : nl_V) : nl_Ls := (nl_s1 L i v).set (i + 1) none
/-- how long an array is: of class c, object o, field k; class 9: the script -/
def nl_al (LS : Int) (c o k : Nat) : Int := match c with
  | 0 => match k with
    | 0 => 49
    | 1 => 128
    | _ => 7
  | 1 => match k with
    | 4 => 3
    | _ => 7
  | 2 => match o with
    | 0 => 8
    | _ => 2
  | 3 => 6
  | 4 => match k with
    | 10 => 49
    | _ => 7
  | 5 => 200
  | 6 => match k with
    | 9 => 49
    | 12 => 6
    | 13 => 6
    | 14 => 6
    | 15 => 200
    | 21 => 21
    | 23 => 632
    | 25 => 79
    | 28 => 158
    | _ => 7
  | _ => LS
/-- what an array holds: 0 numbers, 1 truth values, 2 objects of class 4 -/
def nl_at (c k : Nat) : Nat := match c with
  | 2 => 2
  | 3 => match k with
    | 2 => 1
    | _ => 0
  | _ => 0
def nl_fi (pc : Nat) : List nl_E → Option (Instr × Nat × Nat × Nat × Nat)
  | [] => none
  | e :: r => bif Nat.beq e.1 pc then some e.2 else nl_fi pc r
/-- a switch: the first value k, how many targets, the targets as one number; else d -/
def nl_sw {α : Type} (x : Int) (go : Nat → α) (d : Nat) : Int → Nat → Nat → α
  | _, 0, _ => go d
  | k, n + 1, b => if x = k then go (b % 1024) else nl_sw x go d (k + 1) n (b / 1024)
def nl_ts : Nat → Nat → List Nat
  | 0, _ => []
  | n + 1, b => b % 1024 :: nl_ts n (b / 1024)
def nl_cmp (x y : Int) : Int := if y < x then 1 else if x = y then 0 else -1
/-- a branch on two numbers -/
def nl_br {α : Type} (op : ClassFile.Cond) (x y : Int) (a b : α) : α := match op with
  | .eq => if x = y then a else b
  | .ne => if x = y then b else a
  | .lt => if x < y then a else b
  | .ge => if y ≤ x then a else b
  | .gt => if y < x then a else b
  | .le => if x ≤ y then a else b
/-- one step: what goes on is 'go' -/
noncomputable def nl_st (LS : Int) (den : nl_D) (ret : Nat) (pc : Nat) (L : nl_Ls) (S : List nl_V) (h : nl_H) (i : Instr) (len a b c : Nat)
    (go : Nat → nl_Ls → List nl_V → nl_H → Option nl_Re) : Option nl_Re := match i with
  | .iconst n => go (pc + len) L (vI n :: S) h
  | .bipush n => go (pc + len) L (vI n :: S) h
  | .sipush n => go (pc + len) L (vI n :: S) h
  | .ldc _ => go (pc + len) L (vI a :: S) h
  | .ldc_w _ => go (pc + len) L (vI a :: S) h
  | .ldc2_w _ => go (pc + len) L (vL a :: S) h
  | .lconst n => go (pc + len) L (vL (n : Nat) :: S) h
  | .iload i => (match nl_ld L i with
    | some (.inl x) => go (pc + len) L (vI x :: S) h
    | _ => none)
  | .iload_n i => (match nl_ld L i with
    | some (.inl x) => go (pc + len) L (vI x :: S) h
    | _ => none)
  | .lload i => (match nl_ld L i with
    | some (.inr (.inl x)) => go (pc + len) L (vL x :: S) h
    | _ => none)
  | .lload_n i => (match nl_ld L i with
    | some (.inr (.inl x)) => go (pc + len) L (vL x :: S) h
    | _ => none)
  | .aload i => (match nl_ld L i with
    | some (.inr (.inr r)) => go (pc + len) L (.inr (.inr r) :: S) h
    | _ => none)
  | .aload_n i => (match nl_ld L i with
    | some (.inr (.inr r)) => go (pc + len) L (.inr (.inr r) :: S) h
    | _ => none)
  | .istore i => (match S with
    | .inl x :: S => go (pc + len) (nl_s1 L i (vI x)) S h
    | _ => none)
  | .istore_n i => (match S with
    | .inl x :: S => go (pc + len) (nl_s1 L i (vI x)) S h
    | _ => none)
  | .lstore i => (match S with
    | .inr (.inl x) :: S => bif Nat.blt (i + 1) L.length then go (pc + len) (nl_s2 L i (vL x)) S h else none
    | _ => none)
  | .lstore_n i => (match S with
    | .inr (.inl x) :: S => bif Nat.blt (i + 1) L.length then go (pc + len) (nl_s2 L i (vL x)) S h else none
    | _ => none)
  | .astore i => (match S with
    | .inr (.inr r) :: S => go (pc + len) (nl_s1 L i (.inr (.inr r))) S h
    | _ => none)
  | .astore_n i => (match S with
    | .inr (.inr r) :: S => go (pc + len) (nl_s1 L i (.inr (.inr r))) S h
    | _ => none)
  | .iinc i n => (match nl_ld L i with
    | some (.inl x) => go (pc + len) (nl_s1 L i (vI (x + n))) S h
    | _ => none)
  | .iadd => (match S with
    | .inl y :: .inl x :: S => go (pc + len) L (vI (x + y) :: S) h
    | _ => none)
  | .isub => (match S with
    | .inl y :: .inl x :: S => go (pc + len) L (vI (x - y) :: S) h
    | _ => none)
  | .imul => (match S with
    | .inl y :: .inl x :: S => go (pc + len) L (vI (x * y) :: S) h
    | _ => none)
  | .ineg => (match S with
    | .inl x :: S => go (pc + len) L (vI (-x) :: S) h
    | _ => none)
  | .idiv => (match S with
    | .inl y :: .inl x :: S => if nl_nz y = 0 then none else go (pc + len) L (vI ((nl_nz x).tdiv (nl_nz y)) :: S) h
    | _ => none)
  | .irem => (match S with
    | .inl y :: .inl x :: S => if nl_nz y = 0 then none else go (pc + len) L (vI ((nl_nz x).tmod (nl_nz y)) :: S) h
    | _ => none)
  | .ishl => (match S with
    | .inl y :: .inl x :: S => if 0 ≤ nl_nz y ∧ nl_nz y < 32 then go (pc + len) L (vI (x * 2 ^ (nl_nz y).toNat) :: S) h else none
    | _ => none)
  | .ishr => (match S with
    | .inl y :: .inl x :: S => if 0 ≤ nl_nz y ∧ nl_nz y < 32 then go (pc + len) L (vI (nl_nz x / 2 ^ (nl_nz y).toNat) :: S) h else none
    | _ => none)
  | .iushr => (match S with
    | .inl y :: .inl x :: S => if (0 ≤ nl_nz y ∧ nl_nz y < 32) ∧ 0 ≤ nl_nz x then go (pc + len) L (vI (nl_nz x / 2 ^ (nl_nz y).toNat) :: S) h else none
    | _ => none)
  | .iand => (match S with
    | .inl y :: .inl x :: S => if 0 ≤ nl_nz x ∧ 0 ≤ nl_nz y then go (pc + len) L (vI (((nl_nz x).toNat &&& (nl_nz y).toNat : Nat)) :: S) h else none
    | _ => none)
  | .ior => (match S with
    | .inl y :: .inl x :: S => if 0 ≤ nl_nz x ∧ 0 ≤ nl_nz y then go (pc + len) L (vI (((nl_nz x).toNat ||| (nl_nz y).toNat : Nat)) :: S) h else none
    | _ => none)
  | .ladd => (match S with
    | .inr (.inl y) :: .inr (.inl x) :: S => go (pc + len) L (vL (x + y) :: S) h
    | _ => none)
  | .lmul => (match S with
    | .inr (.inl y) :: .inr (.inl x) :: S => go (pc + len) L (vL (x * y) :: S) h
    | _ => none)
  | .ldiv => (match S with
    | .inr (.inl y) :: .inr (.inl x) :: S => if nl_nl y = 0 then none else go (pc + len) L (vL ((nl_nl x).tdiv (nl_nl y)) :: S) h
    | _ => none)
  | .lrem => (match S with
    | .inr (.inl y) :: .inr (.inl x) :: S => if nl_nl y = 0 then none else go (pc + len) L (vL ((nl_nl x).tmod (nl_nl y)) :: S) h
    | _ => none)
  | .lcmp => (match S with
    | .inr (.inl y) :: .inr (.inl x) :: S => go (pc + len) L (vI (nl_cmp (nl_nl x) (nl_nl y)) :: S) h
    | _ => none)
  | .i2l => (match S with
    | .inl x :: S => go (pc + len) L (vL (nl_nz x) :: S) h
    | _ => none)
  | .l2i => (match S with
    | .inr (.inl x) :: S => go (pc + len) L (vI x :: S) h
    | _ => none)
  | .dup => (match S with
    | v :: S => bif nl_isL v then none else go (pc + len) L (v :: v :: S) h
    | _ => none)
  | .dup2 => (match S with
    | v :: w :: S => bif nl_isL v || nl_isL w then none else go (pc + len) L (v :: w :: v :: w :: S) h
    | _ => none)
  | .pop => (match S with
    | v :: S => bif nl_isL v then none else go (pc + len) L S h
    | _ => none)
  | .ifCond op _ => (match S with
    | .inl x :: S => nl_br op (nl_nz x) 0 (go a L S h) (go (pc + len) L S h)
    | _ => none)
  | .if_icmp op _ => (match S with
    | .inl y :: .inl x :: S => nl_br op (nl_nz x) (nl_nz y) (go a L S h) (go (pc + len) L S h)
    | _ => none)
  | .goto _ => go a L S h
  | .tableswitch _ lo _ _ => (match S with
    | .inl x :: S => nl_sw (nl_nz x) (fun t => go t L S h) a lo c b
    | _ => none)
  | .getfield _ => (match S with
    | .inr (.inr (c', o, none)) :: S => bif Nat.beq c' a then (match c with
        | 0 => go (pc + len) L (vI (h a o b 0) :: S) h
        | 1 => go (pc + len) L (vA a o b :: S) h
        | n + 2 => go (pc + len) L (vO (n / 32) (n % 32) :: S) h) else none
    | _ => none)
  | .putfield _ => (match S with
    | .inl x :: .inr (.inr (c', o, none)) :: S => bif Nat.beq c' a then go (pc + len) L S (nl_up h a o b 0 x) else none
    | _ => none)
  | .iaload => (match S with
    | .inl i :: .inr (.inr (c', o, some k)) :: S => bif Nat.beq (nl_at c' k) 0 then (if 0 ≤ nl_nz i ∧ nl_nz i < nl_al LS c' o k then go (pc + len) L (vI (h c' o k (nl_nz i).toNat) :: S) h else none) else none
    | _ => none)
  | .baload => (match S with
    | .inl i :: .inr (.inr (c', o, some k)) :: S => bif Nat.beq (nl_at c' k) 1 then (if 0 ≤ nl_nz i ∧ nl_nz i < nl_al LS c' o k then go (pc + len) L (vI (h c' o k (nl_nz i).toNat) :: S) h else none) else none
    | _ => none)
  | .aaload => (match S with
    | .inl i :: .inr (.inr (c', o, some k)) :: S => bif Nat.beq (nl_at c' k) 2 then (if (0 ≤ nl_nz i ∧ nl_nz i < nl_al LS c' o k) ∧ (h c' o k (nl_nz i).toNat).toNat < 12 then go (pc + len) L (vO 4 (h c' o k (nl_nz i).toNat).toNat :: S) h else none) else none
    | _ => none)
  | .iastore => (match S with
    | .inl x :: .inl i :: .inr (.inr (c', o, some k)) :: S => bif Nat.beq (nl_at c' k) 0 && Nat.blt c' 7 then (if 0 ≤ nl_nz i ∧ nl_nz i < nl_al LS c' o k then go (pc + len) L S (nl_up h c' o k (nl_nz i).toNat x) else none) else none
    | _ => none)
  | .bastore => (match S with
    | .inl x :: .inl i :: .inr (.inr (c', o, some k)) :: S => bif Nat.beq (nl_at c' k) 1 && Nat.blt c' 7 then (if (0 ≤ nl_nz i ∧ nl_nz i < nl_al LS c' o k) ∧ (x = 0 ∨ x = 1) then go (pc + len) L S (nl_up h c' o k (nl_nz i).toNat x) else none) else none
    | _ => none)
  | .aastore => (match S with
    | .inr (.inr (d, v, none)) :: .inl i :: .inr (.inr (c', o, some k)) :: S => bif Nat.beq (nl_at c' k) 2 && Nat.beq d 4 then (if 0 ≤ nl_nz i ∧ nl_nz i < nl_al LS c' o k then go (pc + len) L S (nl_up h c' o k (nl_nz i).toNat v) else none) else none
    | _ => none)
  | .arraylength => (match S with
    | .inr (.inr (c', o, some k)) :: S => go (pc + len) L (vI (nl_al LS c' o k) :: S) h
    | _ => none)
  | .invokevirtual _ => (match S.drop b with
    | .inr (.inr (c', o, none)) :: S' => bif Nat.beq c' (c / 4) && Nat.ble (nl_cats S') 8 then (den a (vO c' o :: (S.take b).reverse) h).bind (fun r => match c % 4 with
        | 0 => go (pc + len) L S' r.2
        | 1 => go (pc + len) L (vI r.1 :: S') r.2
        | _ => none) else none
    | _ => none)
  | .invokestatic _ => (match c with
    | 3 => (match S with
      | .inl y :: .inl x :: S => bif Nat.ble (nl_cats S) 8 then go (pc + len) L (vI (if nl_nz x < nl_nz y then y else x) :: S) h else none
      | _ => none)
    | 4 => (match S with
      | .inl y :: .inl x :: S => bif Nat.ble (nl_cats S) 8 then go (pc + len) L (vI (if nl_nz y < nl_nz x then y else x) :: S) h else none
      | _ => none)
    | 5 => (match S with
      | .inl x :: S => bif Nat.ble (nl_cats S) 8 then go (pc + len) L (vI (if 0 ≤ nl_nz x then x else -x) :: S) h else none
      | _ => none)
    | c => bif Nat.ble b S.length && Nat.ble (nl_cats (S.drop b)) 8 then (den a (S.take b).reverse h).bind (fun r => match c with
        | 0 => go (pc + len) L (S.drop b) r.2
        | 1 => go (pc + len) L (vI r.1 :: S.drop b) r.2
        | 2 => go (pc + len) L (vL r.1 :: S.drop b) r.2
        | _ => none) else none)
  | .ireturn => (match S with
    | [.inl x] => (match ret with
        | 1 => some (.inr (x, h))
        | 3 => if x = 0 ∨ x = 1 then some (.inr (x, h)) else none
        | _ => none)
    | _ => none)
  | .lreturn => (match S with
    | [.inr (.inl x)] => (match ret with
        | 2 => some (.inr (x, h))
        | _ => none)
    | _ => none)
  | .return_ => (match S with
    | [] => (match ret with
        | 0 => some (.inr (0, h))
        | _ => none)
    | _ => none)
  | _ => none
/-- going on, to a cut or the end -/
def nl_go (cut : List Nat) (k : Nat → nl_Ls → List nl_V → nl_H → Option nl_Re) (pc : Nat) (L : nl_Ls) (S : List nl_V) (h : nl_H) : Option nl_Re :=
  bif cut.any (Nat.beq pc) then (match S with
    | [] => some (.inl (pc, L, h))
    | _ => none) else k pc L S h
noncomputable def nl_ex (LS : Int) (C : List nl_E) (den : nl_D) (cut : List Nat) (ret : Nat) : Nat → Nat → nl_Ls → List nl_V → nl_H → Option nl_Re
  | 0, _, _, _, _ => none
  | f + 1, pc, L, S, h => match nl_fi pc C with
    | none => none
    | some (i, len, a, b, c) => nl_st LS den ret pc L S h i len a b c (nl_go cut (nl_ex LS C den cut ret f))
/-- a method's run, cut to cut -/
noncomputable def nl_rn (LS : Int) (C : List nl_E) (den : nl_D) (cut : List Nat) (ret : Nat) : Nat → Nat → nl_Ls → nl_H → Option (Int × nl_H)
  | 0, _, _, _ => none
  | f + 1, pc, L, h => match nl_ex LS C den cut ret 400 pc L [] h with
    | some (.inr r) => some r
    | some (.inl (pc', L', h')) => nl_rn LS C den cut ret f pc' L' h'
    | none => none
def nl_Rn (LS : Int) (C : List nl_E) (den : nl_D) (cut : List Nat) (ret : Nat) (pc : Nat) (L : nl_Ls) (h : nl_H) (r : Int × nl_H) : Prop := ∃ f, nl_rn LS C den cut ret f pc L h = some r
theorem nl_Rn.ret {LS : Int} {C : List nl_E} {den : nl_D} {cut : List Nat} {ret pc : Nat} {L : nl_Ls} {h : nl_H} {r : Int × nl_H} (e : nl_ex LS C den cut ret 400 pc L [] h = some (.inr r)) : nl_Rn LS C den cut ret pc L h r := ⟨1, by simp only [nl_rn, e]⟩
theorem nl_Rn.go {LS : Int} {C : List nl_E} {den : nl_D} {cut : List Nat} {ret pc pc' : Nat} {L L' : nl_Ls} {h h' : nl_H} {r : Int × nl_H} (e : nl_ex LS C den cut ret 400 pc L [] h = some (.inl (pc', L', h'))) (k : nl_Rn LS C den cut ret pc' L' h' r) : nl_Rn LS C den cut ret pc L h r := by
  obtain ⟨f, hf⟩ := k
  exact ⟨f + 1, by simp only [nl_rn, e]; exact hf⟩
theorem nl_rn_up {LS : Int} {C : List nl_E} {den : nl_D} {cut : List Nat} {ret : Nat} : ∀ (f pc : Nat) (L : nl_Ls) (h : nl_H) (r : Int × nl_H), nl_rn LS C den cut ret f pc L h = some r → nl_rn LS C den cut ret (f + 1) pc L h = some r := by
  intro f
  induction f with
  | zero => intro pc L h r e; simp [nl_rn] at e
  | succ f ih =>
    intro pc L h r e
    rw [nl_rn] at e ⊢
    split at e
    · exact e
    · exact ih _ _ _ _ e
    · cases e
theorem nl_rn_le {LS : Int} {C : List nl_E} {den : nl_D} {cut : List Nat} {ret : Nat} {f g pc : Nat} {L : nl_Ls} {h : nl_H} {r : Int × nl_H} (hl : f ≤ g) (e : nl_rn LS C den cut ret f pc L h = some r) : nl_rn LS C den cut ret g pc L h = some r := by
  induction g with
  | zero =>
    have h0 : f = 0 := by omega
    subst h0; exact e
  | succ g ih =>
    by_cases hg : f = g + 1
    · subst hg; exact e
    · exact nl_rn_up _ _ _ _ _ (ih (by omega))
theorem nl_Rn.uniq {LS : Int} {C : List nl_E} {den : nl_D} {cut : List Nat} {ret pc : Nat} {L : nl_Ls} {h : nl_H} {r r' : Int × nl_H} (a : nl_Rn LS C den cut ret pc L h r) (b : nl_Rn LS C den cut ret pc L h r') : r = r' := by
  obtain ⟨f, hf⟩ := a
  obtain ⟨g, hg⟩ := b
  have h1 := nl_rn_le (Nat.le_max_left f g) hf
  have h2 := nl_rn_le (Nat.le_max_right f g) hg
  exact Option.some.inj (h1.symm.trans h2)
/-- a method of the table: its code, its cuts, what it gives (0 nothing, 1 a number, 2 a long, 3 a truth value), how many places its locals have -/
abbrev nl_M : Type := List nl_E × List Nat × Nat × Nat
def nl_pad (n : Nat) : nl_Ls → nl_Ls
  | [] => List.replicate n none
  | v :: r => v :: nl_pad (n - 1) r
def nl_spread : List nl_V → nl_Ls
  | [] => []
  | v :: r => bif nl_isL v then some v :: none :: nl_spread r else some v :: nl_spread r
/-- the locals at a method's start -/
def nl_L0 (n : Nat) (args : List nl_V) : nl_Ls := nl_pad n (nl_spread args)
noncomputable def nl_pk (P : Int × nl_H → Prop) : Option (Int × nl_H) := match Classical.propDecidable (∃ r, P r) with
  | .isTrue e => some (Classical.choose e)
  | .isFalse _ => none
theorem nl_pk_of {P : Int × nl_H → Prop} (u : ∀ r r', P r → P r' → r = r') {r : Int × nl_H} (e : P r) : nl_pk P = some r := by
  unfold nl_pk
  split
  · rename_i e' _
    exact congrArg some (u _ _ (Classical.choose_spec e') e)
  · rename_i e' _
    exact absurd ⟨r, e⟩ e'
theorem nl_pk_in {P : Int × nl_H → Prop} {r : Int × nl_H} (e : nl_pk P = some r) : P r := by
  unfold nl_pk at e
  split at e
  · rename_i e' _
    rw [← Option.some.inj e]
    exact Classical.choose_spec e'
  · cases e
noncomputable def nl_nx (mts : List nl_M) (LS : Int) (den : nl_D) (y : Nat) (args : List nl_V) (h : nl_H) : Option (Int × nl_H) := match mts[y]? with
  | none => none
  | some (C, cut, ret, nL) => bif Nat.ble (nl_spread args).length nL then nl_pk (nl_Rn LS C den cut ret 0 (nl_L0 nL args) h) else none
noncomputable def nl_cl (mts : List nl_M) (LS : Int) : Nat → nl_D
  | 0 => fun _ _ _ => none
  | n + 1 => nl_nx mts LS (nl_cl mts LS n)
theorem nl_cl_of {mts : List nl_M} {LS : Int} {n y : Nat} {args : List nl_V} {h : nl_H} {C : List nl_E} {cut : List Nat} {ret nL : Nat} {r : Int × nl_H} (hm : mts[y]? = some (C, cut, ret, nL)) (hl : Nat.ble (nl_spread args).length nL = true) (e : nl_Rn LS C (nl_cl mts LS n) cut ret 0 (nl_L0 nL args) h r) : nl_cl mts LS (n + 1) y args h = some r := by
  show nl_nx mts LS (nl_cl mts LS n) y args h = some r
  unfold nl_nx
  rw [hm]
  simp only [hl, cond_true]
  exact nl_pk_of (fun _ _ a b => a.uniq b) e
theorem nl_cl_in {mts : List nl_M} {LS : Int} {n y : Nat} {args : List nl_V} {h : nl_H} {r : Int × nl_H} (e : nl_cl mts LS (n + 1) y args h = some r) : ∃ C cut ret nL, mts[y]? = some (C, cut, ret, nL) ∧ (nl_spread args).length ≤ nL ∧ nl_Rn LS C (nl_cl mts LS n) cut ret 0 (nl_L0 nL args) h r := by
  have e : nl_nx mts LS (nl_cl mts LS n) y args h = some r := e
  unfold nl_nx at e
  split at e
  · cases e
  · rename_i C cut ret nL hm
    cases hl : Nat.ble (nl_spread args).length nL with
    | true =>
      simp only [hl, cond_true] at e
      exact ⟨C, cut, ret, nL, hm, Nat.le_of_ble_eq_true hl, nl_pk_in e⟩
    | false =>
      simp only [hl, cond_false] at e
      cases e
end
section
/-! The code of every method as a list: place, instruction, length, and three numbers that the tables resolve. -/
def cd_X0_choose : List nl_E := [(0, .aload_n 0, 1, 0, 0, 0), (1, .aload_n 1, 1, 0, 0, 0), (2, .invokevirtual 31, 3, 1, 1, 0), (5, .aload_n 1, 1, 0, 0, 0), (6, .getfield 35, 3, 4, 0, 0), (9, .istore_n 2, 1, 0, 0, 0),
  (10, .iconst 1, 1, 0, 0, 0), (11, .iload_n 2, 1, 0, 0, 0), (12, .ishl, 1, 0, 0, 0), (13, .iconst 1, 1, 0, 0, 0), (14, .isub, 1, 0, 0, 0), (15, .istore_n 3, 1, 0, 0, 0),
  (16, .iload_n 3, 1, 0, 0, 0), (17, .ifCond .lt 21, 3, 38, 0, 0), (20, .aload_n 0, 1, 0, 0, 0), (21, .getfield 15, 3, 0, 1, 1), (24, .iload_n 3, 1, 0, 0, 0), (25, .aload_n 0, 1, 0, 0, 0),
  (26, .iload_n 3, 1, 0, 0, 0), (27, .iload_n 2, 1, 0, 0, 0), (28, .invokevirtual 40, 3, 2, 2, 1), (31, .iastore, 1, 0, 0, 0), (32, .iinc 3 (-1), 3, 0, 0, 0), (35, .goto (-19), 3, 16, 0, 0),
  (38, .aload_n 0, 1, 0, 0, 0), (39, .iload_n 2, 1, 0, 0, 0), (40, .invokevirtual 44, 3, 4, 1, 0), (43, .return_, 1, 0, 0, 0)]
def ct_X0_choose : List Nat := [16]
def cd_X0_weigh : List nl_E := [(0, .iconst 0, 1, 0, 0, 0), (1, .istore_n 2, 1, 0, 0, 0), (2, .iload_n 2, 1, 0, 0, 0), (3, .aload_n 1, 1, 0, 0, 0), (4, .getfield 35, 3, 4, 0, 0), (7, .if_icmp .ge 96, 3, 103, 0, 0),
  (10, .aload_n 0, 1, 0, 0, 0), (11, .getfield 21, 3, 0, 3, 1), (14, .iload_n 2, 1, 0, 0, 0), (15, .iconst 0, 1, 0, 0, 0), (16, .iastore, 1, 0, 0, 0), (17, .iconst 0, 1, 0, 0, 0),
  (18, .istore_n 3, 1, 0, 0, 0), (19, .iload_n 3, 1, 0, 0, 0), (20, .aload_n 1, 1, 0, 0, 0), (21, .getfield 35, 3, 4, 0, 0), (24, .if_icmp .ge 73, 3, 97, 0, 0), (27, .aload_n 1, 1, 0, 0, 0),
  (28, .iload_n 2, 1, 0, 0, 0), (29, .iload_n 3, 1, 0, 0, 0), (30, .aload_n 1, 1, 0, 0, 0), (31, .getfield 48, 3, 4, 7, 1), (34, .iload_n 2, 1, 0, 0, 0), (35, .iaload, 1, 0, 0, 0),
  (36, .invokevirtual 51, 3, 31, 3, 17), (39, .istore 4, 2, 0, 0, 0), (41, .aload_n 0, 1, 0, 0, 0), (42, .getfield 11, 3, 0, 0, 1), (45, .iload_n 2, 1, 0, 0, 0), (46, .bipush 7, 2, 0, 0, 0),
  (48, .imul, 1, 0, 0, 0), (49, .iload_n 3, 1, 0, 0, 0), (50, .iadd, 1, 0, 0, 0), (51, .iload 4, 2, 0, 0, 0), (53, .ifCond .eq 13, 3, 66, 0, 0), (56, .aload_n 1, 1, 0, 0, 0),
  (57, .iload_n 2, 1, 0, 0, 0), (58, .iload_n 3, 1, 0, 0, 0), (59, .invokevirtual 55, 3, 29, 2, 17), (62, .ineg, 1, 0, 0, 0), (63, .goto 6, 3, 69, 0, 0), (66, .sipush 1000, 3, 0, 0, 0),
  (69, .iastore, 1, 0, 0, 0), (70, .aload_n 0, 1, 0, 0, 0), (71, .getfield 21, 3, 0, 3, 1), (74, .iload_n 2, 1, 0, 0, 0), (75, .dup2, 1, 0, 0, 0), (76, .iaload, 1, 0, 0, 0),
  (77, .iload 4, 2, 0, 0, 0), (79, .ifCond .eq 9, 3, 88, 0, 0), (82, .iconst 1, 1, 0, 0, 0), (83, .iload_n 3, 1, 0, 0, 0), (84, .ishl, 1, 0, 0, 0), (85, .goto 4, 3, 89, 0, 0),
  (88, .iconst 0, 1, 0, 0, 0), (89, .ior, 1, 0, 0, 0), (90, .iastore, 1, 0, 0, 0), (91, .iinc 3 1, 3, 0, 0, 0), (94, .goto (-75), 3, 19, 0, 0), (97, .iinc 2 1, 3, 0, 0, 0),
  (100, .goto (-98), 3, 2, 0, 0), (103, .return_, 1, 0, 0, 0)]
def ct_X0_weigh : List Nat := [2, 19]
def cd_X0_leastOf : List nl_E := [(0, .iload_n 1, 1, 0, 0, 0), (1, .invokestatic 58, 3, 142, 1, 1), (4, .istore_n 3, 1, 0, 0, 0), (5, .iload_n 3, 1, 0, 0, 0), (6, .iload_n 2, 1, 0, 0, 0), (7, .if_icmp .lt 5, 3, 12, 0, 0),
  (10, .iconst 0, 1, 0, 0, 0), (11, .ireturn, 1, 0, 0, 0), (12, .sipush 8000, 3, 0, 0, 0), (15, .istore 4, 2, 0, 0, 0), (17, .iconst 0, 1, 0, 0, 0), (18, .istore 5, 2, 0, 0, 0),
  (20, .iload 5, 2, 0, 0, 0), (22, .iload_n 2, 1, 0, 0, 0), (23, .if_icmp .ge 33, 3, 56, 0, 0), (26, .iload_n 1, 1, 0, 0, 0), (27, .iload 5, 2, 0, 0, 0), (29, .ishr, 1, 0, 0, 0),
  (30, .iconst 1, 1, 0, 0, 0), (31, .iand, 1, 0, 0, 0), (32, .ifCond .ne 18, 3, 50, 0, 0), (35, .iload 4, 2, 0, 0, 0), (37, .aload_n 0, 1, 0, 0, 0), (38, .iload_n 1, 1, 0, 0, 0),
  (39, .iload_n 3, 1, 0, 0, 0), (40, .iload 5, 2, 0, 0, 0), (42, .invokevirtual 64, 3, 3, 3, 1), (45, .invokestatic 68, 3, 0, 0, 4), (48, .istore 4, 2, 0, 0, 0), (50, .iinc 5 1, 3, 0, 0, 0),
  (53, .goto (-33), 3, 20, 0, 0), (56, .iload 4, 2, 0, 0, 0), (58, .ireturn, 1, 0, 0, 0)]
def ct_X0_leastOf : List Nat := [20]
def cd_X0_priceWith : List nl_E := [(0, .aload_n 0, 1, 0, 0, 0), (1, .getfield 11, 3, 0, 0, 1), (4, .iload_n 2, 1, 0, 0, 0), (5, .bipush 7, 2, 0, 0, 0), (7, .imul, 1, 0, 0, 0), (8, .iload_n 3, 1, 0, 0, 0),
  (9, .iadd, 1, 0, 0, 0), (10, .iaload, 1, 0, 0, 0), (11, .aload_n 0, 1, 0, 0, 0), (12, .getfield 15, 3, 0, 1, 1), (15, .iload_n 1, 1, 0, 0, 0), (16, .iconst 1, 1, 0, 0, 0),
  (17, .iload_n 3, 1, 0, 0, 0), (18, .ishl, 1, 0, 0, 0), (19, .ior, 1, 0, 0, 0), (20, .iaload, 1, 0, 0, 0), (21, .iadd, 1, 0, 0, 0), (22, .ireturn, 1, 0, 0, 0)]
def ct_X0_priceWith : List Nat := []
def cd_X0_dealOut : List nl_E := [(0, .iconst 0, 1, 0, 0, 0), (1, .istore_n 2, 1, 0, 0, 0), (2, .aload_n 0, 1, 0, 0, 0), (3, .iconst 0, 1, 0, 0, 0), (4, .putfield 27, 3, 0, 5, 0), (7, .iconst 0, 1, 0, 0, 0),
  (8, .istore_n 3, 1, 0, 0, 0), (9, .iload_n 3, 1, 0, 0, 0), (10, .iload_n 1, 1, 0, 0, 0), (11, .if_icmp .ge 61, 3, 72, 0, 0), (14, .aload_n 0, 1, 0, 0, 0), (15, .iload_n 2, 1, 0, 0, 0),
  (16, .iload_n 3, 1, 0, 0, 0), (17, .iload_n 1, 1, 0, 0, 0), (18, .invokevirtual 73, 3, 5, 3, 1), (21, .istore 4, 2, 0, 0, 0), (23, .aload_n 0, 1, 0, 0, 0), (24, .getfield 18, 3, 0, 2, 1),
  (27, .iload_n 3, 1, 0, 0, 0), (28, .iload 4, 2, 0, 0, 0), (30, .iastore, 1, 0, 0, 0), (31, .aload_n 0, 1, 0, 0, 0), (32, .dup, 1, 0, 0, 0), (33, .getfield 27, 3, 0, 5, 0),
  (36, .aload_n 0, 1, 0, 0, 0), (37, .getfield 21, 3, 0, 3, 1), (40, .iload_n 3, 1, 0, 0, 0), (41, .iaload, 1, 0, 0, 0), (42, .iload 4, 2, 0, 0, 0), (44, .ishr, 1, 0, 0, 0),
  (45, .iconst 1, 1, 0, 0, 0), (46, .iand, 1, 0, 0, 0), (47, .ifCond .ne 7, 3, 54, 0, 0), (50, .iconst 1, 1, 0, 0, 0), (51, .goto 4, 3, 55, 0, 0), (54, .iconst 0, 1, 0, 0, 0),
  (55, .iadd, 1, 0, 0, 0), (56, .putfield 27, 3, 0, 5, 0), (59, .iload_n 2, 1, 0, 0, 0), (60, .iconst 1, 1, 0, 0, 0), (61, .iload 4, 2, 0, 0, 0), (63, .ishl, 1, 0, 0, 0),
  (64, .ior, 1, 0, 0, 0), (65, .istore_n 2, 1, 0, 0, 0), (66, .iinc 3 1, 3, 0, 0, 0), (69, .goto (-60), 3, 9, 0, 0), (72, .return_, 1, 0, 0, 0)]
def ct_X0_dealOut : List Nat := [9]
def cd_X0_lowestOfLeast : List nl_E := [(0, .iconst 0, 1, 0, 0, 0), (1, .istore 4, 2, 0, 0, 0), (3, .iload 4, 2, 0, 0, 0), (5, .iload_n 3, 1, 0, 0, 0), (6, .if_icmp .ge 38, 3, 44, 0, 0), (9, .iload_n 1, 1, 0, 0, 0),
  (10, .iload 4, 2, 0, 0, 0), (12, .ishr, 1, 0, 0, 0), (13, .iconst 1, 1, 0, 0, 0), (14, .iand, 1, 0, 0, 0), (15, .ifCond .ne 23, 3, 38, 0, 0), (18, .aload_n 0, 1, 0, 0, 0),
  (19, .iload_n 1, 1, 0, 0, 0), (20, .iload_n 2, 1, 0, 0, 0), (21, .iload 4, 2, 0, 0, 0), (23, .invokevirtual 64, 3, 3, 3, 1), (26, .aload_n 0, 1, 0, 0, 0), (27, .getfield 15, 3, 0, 1, 1),
  (30, .iload_n 1, 1, 0, 0, 0), (31, .iaload, 1, 0, 0, 0), (32, .if_icmp .ne 6, 3, 38, 0, 0), (35, .iload 4, 2, 0, 0, 0), (37, .ireturn, 1, 0, 0, 0), (38, .iinc 4 1, 3, 0, 0, 0),
  (41, .goto (-38), 3, 3, 0, 0), (44, .iconst 0, 1, 0, 0, 0), (45, .ireturn, 1, 0, 0, 0)]
def ct_X0_lowestOfLeast : List Nat := [3]
def cd_X0_fewestSwaps : List nl_E := [(0, .iconst 0, 1, 0, 0, 0), (1, .istore_n 2, 1, 0, 0, 0), (2, .iload_n 2, 1, 0, 0, 0), (3, .aload_n 1, 1, 0, 0, 0), (4, .getfield 35, 3, 4, 0, 0), (7, .if_icmp .ge 21, 3, 28, 0, 0),
  (10, .aload_n 0, 1, 0, 0, 0), (11, .getfield 24, 3, 0, 4, 1), (14, .iload_n 2, 1, 0, 0, 0), (15, .aload_n 1, 1, 0, 0, 0), (16, .getfield 76, 3, 4, 8, 1), (19, .iload_n 2, 1, 0, 0, 0),
  (20, .iaload, 1, 0, 0, 0), (21, .iastore, 1, 0, 0, 0), (22, .iinc 2 1, 3, 0, 0, 0), (25, .goto (-23), 3, 2, 0, 0), (28, .iconst 0, 1, 0, 0, 0), (29, .istore_n 2, 1, 0, 0, 0),
  (30, .iload_n 2, 1, 0, 0, 0), (31, .aload_n 1, 1, 0, 0, 0), (32, .getfield 35, 3, 4, 0, 0), (35, .if_icmp .ge 31, 3, 66, 0, 0), (38, .aload_n 0, 1, 0, 0, 0), (39, .getfield 24, 3, 0, 4, 1),
  (42, .aload_n 0, 1, 0, 0, 0), (43, .getfield 21, 3, 0, 3, 1), (46, .aload_n 1, 1, 0, 0, 0), (47, .getfield 35, 3, 4, 0, 0), (50, .iconst 0, 1, 0, 0, 0), (51, .iload_n 2, 1, 0, 0, 0),
  (52, .invokestatic 79, 3, 7, 5, 1), (55, .ifCond .eq 5, 3, 60, 0, 0), (58, .iload_n 2, 1, 0, 0, 0), (59, .ireturn, 1, 0, 0, 0), (60, .iinc 2 1, 3, 0, 0, 0), (63, .goto (-33), 3, 30, 0, 0),
  (66, .bipush (-4), 2, 0, 0, 0), (68, .ireturn, 1, 0, 0, 0)]
def ct_X0_fewestSwaps : List Nat := [2, 30]
def cd_X0_canBridge : List nl_E := [(0, .iload_n 3, 1, 0, 0, 0), (1, .iload_n 2, 1, 0, 0, 0), (2, .if_icmp .lt 5, 3, 7, 0, 0), (5, .iconst 1, 1, 0, 0, 0), (6, .ireturn, 1, 0, 0, 0), (7, .iload 4, 2, 0, 0, 0),
  (9, .ifCond .le 9, 3, 18, 0, 0), (12, .iload_n 2, 1, 0, 0, 0), (13, .iconst 1, 1, 0, 0, 0), (14, .isub, 1, 0, 0, 0), (15, .goto 4, 3, 19, 0, 0), (18, .iload_n 3, 1, 0, 0, 0),
  (19, .istore 5, 2, 0, 0, 0), (21, .iload_n 3, 1, 0, 0, 0), (22, .istore 6, 2, 0, 0, 0), (24, .iload 6, 2, 0, 0, 0), (26, .iload 5, 2, 0, 0, 0), (28, .if_icmp .gt 77, 3, 105, 0, 0),
  (31, .aload_n 0, 1, 0, 0, 0), (32, .iload_n 3, 1, 0, 0, 0), (33, .iload 6, 2, 0, 0, 0), (35, .invokestatic 83, 3, 8, 3, 0), (38, .aload_n 1, 1, 0, 0, 0), (39, .iload_n 3, 1, 0, 0, 0),
  (40, .iaload, 1, 0, 0, 0), (41, .aload_n 0, 1, 0, 0, 0), (42, .iload_n 3, 1, 0, 0, 0), (43, .iaload, 1, 0, 0, 0), (44, .ishr, 1, 0, 0, 0), (45, .iconst 1, 1, 0, 0, 0),
  (46, .iand, 1, 0, 0, 0), (47, .iconst 1, 1, 0, 0, 0), (48, .if_icmp .ne 34, 3, 82, 0, 0), (51, .aload_n 0, 1, 0, 0, 0), (52, .aload_n 1, 1, 0, 0, 0), (53, .iload_n 2, 1, 0, 0, 0),
  (54, .iload_n 3, 1, 0, 0, 0), (55, .iconst 1, 1, 0, 0, 0), (56, .iadd, 1, 0, 0, 0), (57, .iload 6, 2, 0, 0, 0), (59, .iload_n 3, 1, 0, 0, 0), (60, .if_icmp .ne 8, 3, 68, 0, 0),
  (63, .iload 4, 2, 0, 0, 0), (65, .goto 7, 3, 72, 0, 0), (68, .iload 4, 2, 0, 0, 0), (70, .iconst 1, 1, 0, 0, 0), (71, .isub, 1, 0, 0, 0), (72, .invokestatic 79, 3, 7, 5, 1),
  (75, .ifCond .eq 7, 3, 82, 0, 0), (78, .iconst 1, 1, 0, 0, 0), (79, .goto 4, 3, 83, 0, 0), (82, .iconst 0, 1, 0, 0, 0), (83, .istore 7, 2, 0, 0, 0), (85, .aload_n 0, 1, 0, 0, 0),
  (86, .iload_n 3, 1, 0, 0, 0), (87, .iload 6, 2, 0, 0, 0), (89, .invokestatic 83, 3, 8, 3, 0), (92, .iload 7, 2, 0, 0, 0), (94, .ifCond .eq 5, 3, 99, 0, 0), (97, .iconst 1, 1, 0, 0, 0),
  (98, .ireturn, 1, 0, 0, 0), (99, .iinc 6 1, 3, 0, 0, 0), (102, .goto (-78), 3, 24, 0, 0), (105, .iconst 0, 1, 0, 0, 0), (106, .ireturn, 1, 0, 0, 0)]
def ct_X0_canBridge : List Nat := [24]
def cd_X0_exchange : List nl_E := [(0, .aload_n 0, 1, 0, 0, 0), (1, .iload_n 1, 1, 0, 0, 0), (2, .iaload, 1, 0, 0, 0), (3, .istore_n 3, 1, 0, 0, 0), (4, .aload_n 0, 1, 0, 0, 0), (5, .iload_n 1, 1, 0, 0, 0),
  (6, .aload_n 0, 1, 0, 0, 0), (7, .iload_n 2, 1, 0, 0, 0), (8, .iaload, 1, 0, 0, 0), (9, .iastore, 1, 0, 0, 0), (10, .aload_n 0, 1, 0, 0, 0), (11, .iload_n 2, 1, 0, 0, 0),
  (12, .iload_n 3, 1, 0, 0, 0), (13, .iastore, 1, 0, 0, 0), (14, .return_, 1, 0, 0, 0)]
def ct_X0_exchange : List Nat := []
def cd_X1_read : List nl_E := [(0, .aload_n 0, 1, 0, 0, 0), (1, .iconst 0, 1, 0, 0, 0), (2, .putfield 27, 3, 1, 5, 0), (5, .aload_n 0, 1, 0, 0, 0), (6, .iconst 0, 1, 0, 0, 0), (7, .putfield 31, 3, 1, 6, 0),
  (10, .aload_n 0, 1, 0, 0, 0), (11, .iconst (-1), 1, 0, 0, 0), (12, .putfield 34, 3, 1, 7, 0), (15, .iconst 0, 1, 0, 0, 0), (16, .istore_n 3, 1, 0, 0, 0), (17, .iload_n 3, 1, 0, 0, 0),
  (18, .iload_n 2, 1, 0, 0, 0), (19, .if_icmp .ge 30, 3, 49, 0, 0), (22, .aload_n 0, 1, 0, 0, 0), (23, .aload_n 1, 1, 0, 0, 0), (24, .iload_n 2, 1, 0, 0, 0), (25, .iload_n 3, 1, 0, 0, 0),
  (26, .invokevirtual 37, 3, 11, 3, 5), (29, .istore 4, 2, 0, 0, 0), (31, .iload 4, 2, 0, 0, 0), (33, .iload_n 3, 1, 0, 0, 0), (34, .if_icmp .gt 9, 3, 43, 0, 0), (37, .aload_n 0, 1, 0, 0, 0),
  (38, .iload_n 3, 1, 0, 0, 0), (39, .putfield 34, 3, 1, 7, 0), (42, .return_, 1, 0, 0, 0), (43, .iload 4, 2, 0, 0, 0), (45, .istore_n 3, 1, 0, 0, 0), (46, .goto (-29), 3, 17, 0, 0),
  (49, .return_, 1, 0, 0, 0)]
def ct_X1_read : List Nat := [17]
def cd_X1_canBeLaid : List nl_E := [(0, .aload_n 0, 1, 0, 0, 0), (1, .getfield 34, 3, 1, 7, 0), (4, .iconst (-1), 1, 0, 0, 0), (5, .if_icmp .ne 26, 3, 31, 0, 0), (8, .aload_n 0, 1, 0, 0, 0), (9, .getfield 27, 3, 1, 5, 0),
  (12, .iconst 2, 1, 0, 0, 0), (13, .if_icmp .lt 18, 3, 31, 0, 0), (16, .aload_n 0, 1, 0, 0, 0), (17, .getfield 27, 3, 1, 5, 0), (20, .aload_n 0, 1, 0, 0, 0), (21, .getfield 31, 3, 1, 6, 0),
  (24, .if_icmp .ne 7, 3, 31, 0, 0), (27, .iconst 1, 1, 0, 0, 0), (28, .goto 4, 3, 32, 0, 0), (31, .iconst 0, 1, 0, 0, 0), (32, .ireturn, 1, 0, 0, 0)]
def ct_X1_canBeLaid : List Nat := []
def cd_X1_readItem : List nl_E := [(0, .aload_n 1, 1, 0, 0, 0), (1, .iload_n 3, 1, 0, 0, 0), (2, .iaload, 1, 0, 0, 0), (3, .bipush 110, 2, 0, 0, 0), (5, .if_icmp .ne 7, 3, 12, 0, 0), (8, .iconst 1, 1, 0, 0, 0),
  (9, .goto 4, 3, 13, 0, 0), (12, .iconst 0, 1, 0, 0, 0), (13, .istore 4, 2, 0, 0, 0), (15, .iload 4, 2, 0, 0, 0), (17, .ifCond .ne 13, 3, 30, 0, 0), (20, .aload_n 1, 1, 0, 0, 0),
  (21, .iload_n 3, 1, 0, 0, 0), (22, .iaload, 1, 0, 0, 0), (23, .bipush 104, 2, 0, 0, 0), (25, .if_icmp .eq 5, 3, 30, 0, 0), (28, .iconst (-1), 1, 0, 0, 0), (29, .ireturn, 1, 0, 0, 0),
  (30, .iload 4, 2, 0, 0, 0), (32, .ifCond .eq 7, 3, 39, 0, 0), (35, .iconst 1, 1, 0, 0, 0), (36, .goto 4, 3, 40, 0, 0), (39, .iconst 3, 1, 0, 0, 0), (40, .istore 5, 2, 0, 0, 0),
  (42, .iload_n 3, 1, 0, 0, 0), (43, .iconst 1, 1, 0, 0, 0), (44, .iadd, 1, 0, 0, 0), (45, .istore 6, 2, 0, 0, 0), (47, .iconst 0, 1, 0, 0, 0), (48, .istore 7, 2, 0, 0, 0),
  (50, .iload 7, 2, 0, 0, 0), (52, .iload 5, 2, 0, 0, 0), (54, .if_icmp .ge 69, 3, 123, 0, 0), (57, .aload_n 0, 1, 0, 0, 0), (58, .aload_n 1, 1, 0, 0, 0), (59, .iload_n 2, 1, 0, 0, 0),
  (60, .iload 6, 2, 0, 0, 0), (62, .iload 7, 2, 0, 0, 0), (64, .invokevirtual 41, 3, 12, 4, 5), (67, .istore 8, 2, 0, 0, 0), (69, .iload 7, 2, 0, 0, 0), (71, .iload 5, 2, 0, 0, 0),
  (73, .iconst 1, 1, 0, 0, 0), (74, .isub, 1, 0, 0, 0), (75, .if_icmp .ne 8, 3, 83, 0, 0), (78, .bipush 59, 2, 0, 0, 0), (80, .goto 5, 3, 85, 0, 0), (83, .bipush 44, 2, 0, 0, 0),
  (85, .istore 9, 2, 0, 0, 0), (87, .iload 8, 2, 0, 0, 0), (89, .iload 6, 2, 0, 0, 0), (91, .if_icmp .le 18, 3, 109, 0, 0), (94, .iload 8, 2, 0, 0, 0), (96, .iload_n 2, 1, 0, 0, 0),
  (97, .if_icmp .ge 12, 3, 109, 0, 0), (100, .aload_n 1, 1, 0, 0, 0), (101, .iload 8, 2, 0, 0, 0), (103, .iaload, 1, 0, 0, 0), (104, .iload 9, 2, 0, 0, 0), (106, .if_icmp .eq 5, 3, 111, 0, 0),
  (109, .iconst (-1), 1, 0, 0, 0), (110, .ireturn, 1, 0, 0, 0), (111, .iload 8, 2, 0, 0, 0), (113, .iconst 1, 1, 0, 0, 0), (114, .iadd, 1, 0, 0, 0), (115, .istore 6, 2, 0, 0, 0),
  (117, .iinc 7 1, 3, 0, 0, 0), (120, .goto (-70), 3, 50, 0, 0), (123, .iload 4, 2, 0, 0, 0), (125, .ifCond .eq 10, 3, 135, 0, 0), (128, .aload_n 0, 1, 0, 0, 0), (129, .invokevirtual 45, 3, 13, 0, 5),
  (132, .goto 7, 3, 139, 0, 0), (135, .aload_n 0, 1, 0, 0, 0), (136, .invokevirtual 49, 3, 14, 0, 5), (139, .istore 7, 2, 0, 0, 0), (141, .iload 7, 2, 0, 0, 0), (143, .ifCond .eq 8, 3, 151, 0, 0),
  (146, .iload 6, 2, 0, 0, 0), (148, .goto 4, 3, 152, 0, 0), (151, .iconst (-1), 1, 0, 0, 0), (152, .ireturn, 1, 0, 0, 0)]
def ct_X1_readItem : List Nat := [50]
def cd_X1_readNumber : List nl_E := [(0, .iconst 0, 1, 0, 0, 0), (1, .istore 5, 2, 0, 0, 0), (3, .iload_n 3, 1, 0, 0, 0), (4, .istore 6, 2, 0, 0, 0), (6, .iload 6, 2, 0, 0, 0), (8, .iload_n 2, 1, 0, 0, 0),
  (9, .if_icmp .ge 46, 3, 55, 0, 0), (12, .iload 6, 2, 0, 0, 0), (14, .iload_n 3, 1, 0, 0, 0), (15, .iconst 2, 1, 0, 0, 0), (16, .iadd, 1, 0, 0, 0), (17, .if_icmp .ge 38, 3, 55, 0, 0),
  (20, .aload_n 1, 1, 0, 0, 0), (21, .iload 6, 2, 0, 0, 0), (23, .iaload, 1, 0, 0, 0), (24, .bipush 48, 2, 0, 0, 0), (26, .bipush 57, 2, 0, 0, 0), (28, .invokestatic 52, 3, 71, 3, 1),
  (31, .ifCond .eq 24, 3, 55, 0, 0), (34, .iload 5, 2, 0, 0, 0), (36, .bipush 10, 2, 0, 0, 0), (38, .imul, 1, 0, 0, 0), (39, .aload_n 1, 1, 0, 0, 0), (40, .iload 6, 2, 0, 0, 0),
  (42, .iaload, 1, 0, 0, 0), (43, .iadd, 1, 0, 0, 0), (44, .bipush 48, 2, 0, 0, 0), (46, .isub, 1, 0, 0, 0), (47, .istore 5, 2, 0, 0, 0), (49, .iinc 6 1, 3, 0, 0, 0),
  (52, .goto (-46), 3, 6, 0, 0), (55, .aload_n 0, 1, 0, 0, 0), (56, .getfield 24, 3, 1, 4, 1), (59, .iload 4, 2, 0, 0, 0), (61, .iload 5, 2, 0, 0, 0), (63, .iastore, 1, 0, 0, 0),
  (64, .iload 6, 2, 0, 0, 0), (66, .ireturn, 1, 0, 0, 0)]
def ct_X1_readNumber : List Nat := [6]
def cd_X1_addHour : List nl_E := [(0, .aload_n 0, 1, 0, 0, 0), (1, .getfield 27, 3, 1, 5, 0), (4, .bipush 7, 2, 0, 0, 0), (6, .if_icmp .ge 14, 3, 20, 0, 0), (9, .aload_n 0, 1, 0, 0, 0), (10, .getfield 24, 3, 1, 4, 1),
  (13, .iconst 0, 1, 0, 0, 0), (14, .iaload, 1, 0, 0, 0), (15, .bipush 20, 2, 0, 0, 0), (17, .if_icmp .le 5, 3, 22, 0, 0), (20, .iconst 0, 1, 0, 0, 0), (21, .ireturn, 1, 0, 0, 0),
  (22, .aload_n 0, 1, 0, 0, 0), (23, .getfield 9, 3, 1, 0, 1), (26, .aload_n 0, 1, 0, 0, 0), (27, .getfield 27, 3, 1, 5, 0), (30, .aload_n 0, 1, 0, 0, 0), (31, .getfield 24, 3, 1, 4, 1),
  (34, .iconst 0, 1, 0, 0, 0), (35, .iaload, 1, 0, 0, 0), (36, .iastore, 1, 0, 0, 0), (37, .aload_n 0, 1, 0, 0, 0), (38, .dup, 1, 0, 0, 0), (39, .getfield 27, 3, 1, 5, 0),
  (42, .iconst 1, 1, 0, 0, 0), (43, .iadd, 1, 0, 0, 0), (44, .putfield 27, 3, 1, 5, 0), (47, .iconst 1, 1, 0, 0, 0), (48, .ireturn, 1, 0, 0, 0)]
def ct_X1_addHour : List Nat := []
def cd_X1_addHouse : List nl_E := [(0, .aload_n 0, 1, 0, 0, 0), (1, .getfield 31, 3, 1, 6, 0), (4, .aload_n 0, 1, 0, 0, 0), (5, .getfield 27, 3, 1, 5, 0), (8, .if_icmp .ge 35, 3, 43, 0, 0), (11, .aload_n 0, 1, 0, 0, 0),
  (12, .getfield 24, 3, 1, 4, 1), (15, .iconst 0, 1, 0, 0, 0), (16, .iaload, 1, 0, 0, 0), (17, .iconst 3, 1, 0, 0, 0), (18, .if_icmp .gt 25, 3, 43, 0, 0), (21, .aload_n 0, 1, 0, 0, 0),
  (22, .getfield 24, 3, 1, 4, 1), (25, .iconst 1, 1, 0, 0, 0), (26, .iaload, 1, 0, 0, 0), (27, .bipush 40, 2, 0, 0, 0), (29, .if_icmp .gt 14, 3, 43, 0, 0), (32, .aload_n 0, 1, 0, 0, 0),
  (33, .getfield 24, 3, 1, 4, 1), (36, .iconst 2, 1, 0, 0, 0), (37, .iaload, 1, 0, 0, 0), (38, .bipush 99, 2, 0, 0, 0), (40, .if_icmp .le 5, 3, 45, 0, 0), (43, .iconst 0, 1, 0, 0, 0),
  (44, .ireturn, 1, 0, 0, 0), (45, .aload_n 0, 1, 0, 0, 0), (46, .getfield 15, 3, 1, 1, 1), (49, .aload_n 0, 1, 0, 0, 0), (50, .getfield 31, 3, 1, 6, 0), (53, .aload_n 0, 1, 0, 0, 0),
  (54, .getfield 24, 3, 1, 4, 1), (57, .iconst 0, 1, 0, 0, 0), (58, .iaload, 1, 0, 0, 0), (59, .iastore, 1, 0, 0, 0), (60, .aload_n 0, 1, 0, 0, 0), (61, .getfield 18, 3, 1, 2, 1),
  (64, .aload_n 0, 1, 0, 0, 0), (65, .getfield 31, 3, 1, 6, 0), (68, .aload_n 0, 1, 0, 0, 0), (69, .getfield 24, 3, 1, 4, 1), (72, .iconst 1, 1, 0, 0, 0), (73, .iaload, 1, 0, 0, 0),
  (74, .iastore, 1, 0, 0, 0), (75, .aload_n 0, 1, 0, 0, 0), (76, .getfield 21, 3, 1, 3, 1), (79, .aload_n 0, 1, 0, 0, 0), (80, .getfield 31, 3, 1, 6, 0), (83, .aload_n 0, 1, 0, 0, 0),
  (84, .getfield 24, 3, 1, 4, 1), (87, .iconst 2, 1, 0, 0, 0), (88, .iaload, 1, 0, 0, 0), (89, .iastore, 1, 0, 0, 0), (90, .aload_n 0, 1, 0, 0, 0), (91, .dup, 1, 0, 0, 0),
  (92, .getfield 31, 3, 1, 6, 0), (95, .iconst 1, 1, 0, 0, 0), (96, .iadd, 1, 0, 0, 0), (97, .putfield 31, 3, 1, 6, 0), (100, .iconst 1, 1, 0, 0, 0), (101, .ireturn, 1, 0, 0, 0)]
def ct_X1_addHouse : List Nat := []
def cd_X2_clear : List nl_E := [(0, .aload_n 0, 1, 0, 0, 0), (1, .iconst 0, 1, 0, 0, 0), (2, .putfield 7, 3, 2, 1, 0), (5, .return_, 1, 0, 0, 0)]
def ct_X2_clear : List Nat := []
def cd_X2_put : List nl_E := [(0, .aload_n 0, 1, 0, 0, 0), (1, .getfield 7, 3, 2, 1, 0), (4, .aload_n 0, 1, 0, 0, 0), (5, .getfield 21, 3, 2, 0, 1), (8, .arraylength, 1, 0, 0, 0), (9, .if_icmp .lt 7, 3, 16, 0, 0),
  (12, .aload_n 0, 1, 0, 0, 0), (13, .invokevirtual 26, 3, 17, 0, 8), (16, .aload_n 0, 1, 0, 0, 0), (17, .getfield 21, 3, 2, 0, 1), (20, .aload_n 0, 1, 0, 0, 0), (21, .getfield 7, 3, 2, 1, 0),
  (24, .aaload, 1, 0, 0, 0), (25, .aload_n 1, 1, 0, 0, 0), (26, .invokevirtual 29, 3, 24, 1, 16), (29, .aload_n 0, 1, 0, 0, 0), (30, .dup, 1, 0, 0, 0), (31, .getfield 7, 3, 2, 1, 0),
  (34, .iconst 1, 1, 0, 0, 0), (35, .iadd, 1, 0, 0, 0), (36, .putfield 7, 3, 2, 1, 0), (39, .return_, 1, 0, 0, 0)]
def ct_X2_put : List Nat := []
def cd_X2_dropOldest : List nl_E := [(0, .aload_n 0, 1, 0, 0, 0), (1, .getfield 21, 3, 2, 0, 1), (4, .iconst 0, 1, 0, 0, 0), (5, .aaload, 1, 0, 0, 0), (6, .astore_n 1, 1, 0, 0, 0), (7, .iconst 1, 1, 0, 0, 0),
  (8, .istore_n 2, 1, 0, 0, 0), (9, .iload_n 2, 1, 0, 0, 0), (10, .aload_n 0, 1, 0, 0, 0), (11, .getfield 21, 3, 2, 0, 1), (14, .arraylength, 1, 0, 0, 0), (15, .if_icmp .ge 23, 3, 38, 0, 0),
  (18, .aload_n 0, 1, 0, 0, 0), (19, .getfield 21, 3, 2, 0, 1), (22, .iload_n 2, 1, 0, 0, 0), (23, .iconst 1, 1, 0, 0, 0), (24, .isub, 1, 0, 0, 0), (25, .aload_n 0, 1, 0, 0, 0),
  (26, .getfield 21, 3, 2, 0, 1), (29, .iload_n 2, 1, 0, 0, 0), (30, .aaload, 1, 0, 0, 0), (31, .aastore, 1, 0, 0, 0), (32, .iinc 2 1, 3, 0, 0, 0), (35, .goto (-26), 3, 9, 0, 0),
  (38, .aload_n 0, 1, 0, 0, 0), (39, .getfield 21, 3, 2, 0, 1), (42, .aload_n 0, 1, 0, 0, 0), (43, .getfield 21, 3, 2, 0, 1), (46, .arraylength, 1, 0, 0, 0), (47, .iconst 1, 1, 0, 0, 0),
  (48, .isub, 1, 0, 0, 0), (49, .aload_n 1, 1, 0, 0, 0), (50, .aastore, 1, 0, 0, 0), (51, .aload_n 0, 1, 0, 0, 0), (52, .aload_n 0, 1, 0, 0, 0), (53, .getfield 21, 3, 2, 0, 1),
  (56, .arraylength, 1, 0, 0, 0), (57, .iconst 1, 1, 0, 0, 0), (58, .isub, 1, 0, 0, 0), (59, .putfield 7, 3, 2, 1, 0), (62, .return_, 1, 0, 0, 0)]
def ct_X2_dropOldest : List Nat := [9]
def cd_X2_takeInto : List nl_E := [(0, .aload_n 0, 1, 0, 0, 0), (1, .getfield 7, 3, 2, 1, 0), (4, .iconst 1, 1, 0, 0, 0), (5, .if_icmp .ge 5, 3, 10, 0, 0), (8, .iconst 0, 1, 0, 0, 0), (9, .ireturn, 1, 0, 0, 0),
  (10, .aload_n 0, 1, 0, 0, 0), (11, .dup, 1, 0, 0, 0), (12, .getfield 7, 3, 2, 1, 0), (15, .iconst 1, 1, 0, 0, 0), (16, .isub, 1, 0, 0, 0), (17, .putfield 7, 3, 2, 1, 0),
  (20, .aload_n 1, 1, 0, 0, 0), (21, .aload_n 0, 1, 0, 0, 0), (22, .getfield 21, 3, 2, 0, 1), (25, .aload_n 0, 1, 0, 0, 0), (26, .getfield 7, 3, 2, 1, 0), (29, .aaload, 1, 0, 0, 0),
  (30, .invokevirtual 29, 3, 24, 1, 16), (33, .iconst 1, 1, 0, 0, 0), (34, .ireturn, 1, 0, 0, 0)]
def ct_X2_takeInto : List Nat := []
def cd_X3_clear : List nl_E := [(0, .aload_n 0, 1, 0, 0, 0), (1, .iconst 0, 1, 0, 0, 0), (2, .putfield 22, 3, 3, 3, 0), (5, .return_, 1, 0, 0, 0)]
def ct_X3_clear : List Nat := []
def cd_X3_add : List nl_E := [(0, .aload_n 0, 1, 0, 0, 0), (1, .getfield 22, 3, 3, 3, 0), (4, .bipush 6, 2, 0, 0, 0), (6, .if_icmp .ge 43, 3, 49, 0, 0), (9, .aload_n 0, 1, 0, 0, 0), (10, .getfield 9, 3, 3, 0, 1),
  (13, .aload_n 0, 1, 0, 0, 0), (14, .getfield 22, 3, 3, 3, 0), (17, .iload_n 1, 1, 0, 0, 0), (18, .iastore, 1, 0, 0, 0), (19, .aload_n 0, 1, 0, 0, 0), (20, .getfield 15, 3, 3, 1, 1),
  (23, .aload_n 0, 1, 0, 0, 0), (24, .getfield 22, 3, 3, 3, 0), (27, .iload_n 2, 1, 0, 0, 0), (28, .iastore, 1, 0, 0, 0), (29, .aload_n 0, 1, 0, 0, 0), (30, .getfield 18, 3, 3, 2, 1),
  (33, .aload_n 0, 1, 0, 0, 0), (34, .getfield 22, 3, 3, 3, 0), (37, .iload_n 3, 1, 0, 0, 0), (38, .bastore, 1, 0, 0, 0), (39, .aload_n 0, 1, 0, 0, 0), (40, .dup, 1, 0, 0, 0),
  (41, .getfield 22, 3, 3, 3, 0), (44, .iconst 1, 1, 0, 0, 0), (45, .iadd, 1, 0, 0, 0), (46, .putfield 22, 3, 3, 3, 0), (49, .return_, 1, 0, 0, 0)]
def ct_X3_add : List Nat := []
def cd_X3_lastNight : List nl_E := [(0, .iconst (-1), 1, 0, 0, 0), (1, .istore_n 1, 1, 0, 0, 0), (2, .iconst 0, 1, 0, 0, 0), (3, .istore_n 2, 1, 0, 0, 0), (4, .iload_n 2, 1, 0, 0, 0), (5, .aload_n 0, 1, 0, 0, 0),
  (6, .getfield 22, 3, 3, 3, 0), (9, .if_icmp .ge 20, 3, 29, 0, 0), (12, .iload_n 1, 1, 0, 0, 0), (13, .aload_n 0, 1, 0, 0, 0), (14, .getfield 9, 3, 3, 0, 1), (17, .iload_n 2, 1, 0, 0, 0),
  (18, .iaload, 1, 0, 0, 0), (19, .invokestatic 26, 3, 0, 0, 3), (22, .istore_n 1, 1, 0, 0, 0), (23, .iinc 2 1, 3, 0, 0, 0), (26, .goto (-22), 3, 4, 0, 0), (29, .iload_n 1, 1, 0, 0, 0),
  (30, .ireturn, 1, 0, 0, 0)]
def ct_X3_lastNight : List Nat := [4]
def cd_X3_fit : List nl_E := [(0, .iconst 0, 1, 0, 0, 0), (1, .istore_n 3, 1, 0, 0, 0), (2, .iload_n 3, 1, 0, 0, 0), (3, .aload_n 0, 1, 0, 0, 0), (4, .getfield 22, 3, 3, 3, 0), (7, .if_icmp .ge 40, 3, 47, 0, 0),
  (10, .aload_n 0, 1, 0, 0, 0), (11, .getfield 9, 3, 3, 0, 1), (14, .iload_n 3, 1, 0, 0, 0), (15, .iaload, 1, 0, 0, 0), (16, .iload_n 2, 1, 0, 0, 0), (17, .if_icmp .ne 24, 3, 41, 0, 0),
  (20, .aload_n 1, 1, 0, 0, 0), (21, .aload_n 0, 1, 0, 0, 0), (22, .getfield 15, 3, 3, 1, 1), (25, .iload_n 3, 1, 0, 0, 0), (26, .iaload, 1, 0, 0, 0), (27, .invokevirtual 32, 3, 32, 1, 17),
  (30, .aload_n 0, 1, 0, 0, 0), (31, .getfield 18, 3, 3, 2, 1), (34, .iload_n 3, 1, 0, 0, 0), (35, .baload, 1, 0, 0, 0), (36, .if_icmp .eq 5, 3, 41, 0, 0), (39, .iconst 0, 1, 0, 0, 0),
  (40, .ireturn, 1, 0, 0, 0), (41, .iinc 3 1, 3, 0, 0, 0), (44, .goto (-42), 3, 2, 0, 0), (47, .iconst 1, 1, 0, 0, 0), (48, .ireturn, 1, 0, 0, 0)]
def ct_X3_fit : List Nat := [2]
def cd_X4_settle : List nl_E := [(0, .aload_n 0, 1, 0, 0, 0), (1, .aload_n 1, 1, 0, 0, 0), (2, .getfield 46, 3, 1, 6, 0), (5, .bipush 7, 2, 0, 0, 0), (7, .invokestatic 49, 3, 0, 0, 4), (10, .putfield 9, 3, 4, 0, 0),
  (13, .aload_n 0, 1, 0, 0, 0), (14, .iconst 0, 1, 0, 0, 0), (15, .putfield 15, 3, 4, 1, 0), (18, .aload_n 0, 1, 0, 0, 0), (19, .iconst 0, 1, 0, 0, 0), (20, .putfield 18, 3, 4, 2, 0),
  (23, .iconst 0, 1, 0, 0, 0), (24, .istore_n 2, 1, 0, 0, 0), (25, .iload_n 2, 1, 0, 0, 0), (26, .bipush 7, 2, 0, 0, 0), (28, .if_icmp .ge 78, 3, 106, 0, 0), (31, .aload_n 0, 1, 0, 0, 0),
  (32, .getfield 21, 3, 4, 3, 1), (35, .iload_n 2, 1, 0, 0, 0), (36, .aload_n 1, 1, 0, 0, 0), (37, .getfield 55, 3, 1, 0, 1), (40, .iload_n 2, 1, 0, 0, 0), (41, .iaload, 1, 0, 0, 0),
  (42, .iastore, 1, 0, 0, 0), (43, .aload_n 0, 1, 0, 0, 0), (44, .getfield 25, 3, 4, 4, 1), (47, .iload_n 2, 1, 0, 0, 0), (48, .aload_n 1, 1, 0, 0, 0), (49, .getfield 56, 3, 1, 1, 1),
  (52, .iload_n 2, 1, 0, 0, 0), (53, .iaload, 1, 0, 0, 0), (54, .iastore, 1, 0, 0, 0), (55, .aload_n 0, 1, 0, 0, 0), (56, .getfield 28, 3, 4, 5, 1), (59, .iload_n 2, 1, 0, 0, 0),
  (60, .aload_n 1, 1, 0, 0, 0), (61, .getfield 57, 3, 1, 2, 1), (64, .iload_n 2, 1, 0, 0, 0), (65, .iaload, 1, 0, 0, 0), (66, .iastore, 1, 0, 0, 0), (67, .aload_n 0, 1, 0, 0, 0),
  (68, .getfield 31, 3, 4, 6, 1), (71, .iload_n 2, 1, 0, 0, 0), (72, .aload_n 1, 1, 0, 0, 0), (73, .getfield 58, 3, 1, 3, 1), (76, .iload_n 2, 1, 0, 0, 0), (77, .iaload, 1, 0, 0, 0),
  (78, .iastore, 1, 0, 0, 0), (79, .aload_n 0, 1, 0, 0, 0), (80, .getfield 34, 3, 4, 7, 1), (83, .iload_n 2, 1, 0, 0, 0), (84, .iconst 0, 1, 0, 0, 0), (85, .iastore, 1, 0, 0, 0),
  (86, .aload_n 0, 1, 0, 0, 0), (87, .getfield 37, 3, 4, 8, 1), (90, .iload_n 2, 1, 0, 0, 0), (91, .iload_n 2, 1, 0, 0, 0), (92, .iastore, 1, 0, 0, 0), (93, .aload_n 0, 1, 0, 0, 0),
  (94, .getfield 40, 3, 4, 9, 1), (97, .iload_n 2, 1, 0, 0, 0), (98, .iconst 0, 1, 0, 0, 0), (99, .iastore, 1, 0, 0, 0), (100, .iinc 2 1, 3, 0, 0, 0), (103, .goto (-78), 3, 25, 0, 0),
  (106, .iconst 0, 1, 0, 0, 0), (107, .istore_n 2, 1, 0, 0, 0), (108, .iload_n 2, 1, 0, 0, 0), (109, .aload_n 0, 1, 0, 0, 0), (110, .getfield 43, 3, 4, 10, 1), (113, .arraylength, 1, 0, 0, 0),
  (114, .if_icmp .ge 16, 3, 130, 0, 0), (117, .aload_n 0, 1, 0, 0, 0), (118, .getfield 43, 3, 4, 10, 1), (121, .iload_n 2, 1, 0, 0, 0), (122, .iconst 0, 1, 0, 0, 0), (123, .iastore, 1, 0, 0, 0),
  (124, .iinc 2 1, 3, 0, 0, 0), (127, .goto (-19), 3, 108, 0, 0), (130, .return_, 1, 0, 0, 0)]
def ct_X4_settle : List Nat := [25, 108]
def cd_X4_copyFrom : List nl_E := [(0, .aload_n 0, 1, 0, 0, 0), (1, .aload_n 1, 1, 0, 0, 0), (2, .getfield 9, 3, 4, 0, 0), (5, .putfield 9, 3, 4, 0, 0), (8, .aload_n 0, 1, 0, 0, 0), (9, .aload_n 1, 1, 0, 0, 0),
  (10, .getfield 15, 3, 4, 1, 0), (13, .putfield 15, 3, 4, 1, 0), (16, .aload_n 0, 1, 0, 0, 0), (17, .aload_n 1, 1, 0, 0, 0), (18, .getfield 18, 3, 4, 2, 0), (21, .putfield 18, 3, 4, 2, 0),
  (24, .iconst 0, 1, 0, 0, 0), (25, .istore_n 2, 1, 0, 0, 0), (26, .iload_n 2, 1, 0, 0, 0), (27, .bipush 7, 2, 0, 0, 0), (29, .if_icmp .ge 93, 3, 122, 0, 0), (32, .aload_n 0, 1, 0, 0, 0),
  (33, .getfield 21, 3, 4, 3, 1), (36, .iload_n 2, 1, 0, 0, 0), (37, .aload_n 1, 1, 0, 0, 0), (38, .getfield 21, 3, 4, 3, 1), (41, .iload_n 2, 1, 0, 0, 0), (42, .iaload, 1, 0, 0, 0),
  (43, .iastore, 1, 0, 0, 0), (44, .aload_n 0, 1, 0, 0, 0), (45, .getfield 25, 3, 4, 4, 1), (48, .iload_n 2, 1, 0, 0, 0), (49, .aload_n 1, 1, 0, 0, 0), (50, .getfield 25, 3, 4, 4, 1),
  (53, .iload_n 2, 1, 0, 0, 0), (54, .iaload, 1, 0, 0, 0), (55, .iastore, 1, 0, 0, 0), (56, .aload_n 0, 1, 0, 0, 0), (57, .getfield 28, 3, 4, 5, 1), (60, .iload_n 2, 1, 0, 0, 0),
  (61, .aload_n 1, 1, 0, 0, 0), (62, .getfield 28, 3, 4, 5, 1), (65, .iload_n 2, 1, 0, 0, 0), (66, .iaload, 1, 0, 0, 0), (67, .iastore, 1, 0, 0, 0), (68, .aload_n 0, 1, 0, 0, 0),
  (69, .getfield 31, 3, 4, 6, 1), (72, .iload_n 2, 1, 0, 0, 0), (73, .aload_n 1, 1, 0, 0, 0), (74, .getfield 31, 3, 4, 6, 1), (77, .iload_n 2, 1, 0, 0, 0), (78, .iaload, 1, 0, 0, 0),
  (79, .iastore, 1, 0, 0, 0), (80, .aload_n 0, 1, 0, 0, 0), (81, .getfield 34, 3, 4, 7, 1), (84, .iload_n 2, 1, 0, 0, 0), (85, .aload_n 1, 1, 0, 0, 0), (86, .getfield 34, 3, 4, 7, 1),
  (89, .iload_n 2, 1, 0, 0, 0), (90, .iaload, 1, 0, 0, 0), (91, .iastore, 1, 0, 0, 0), (92, .aload_n 0, 1, 0, 0, 0), (93, .getfield 37, 3, 4, 8, 1), (96, .iload_n 2, 1, 0, 0, 0),
  (97, .aload_n 1, 1, 0, 0, 0), (98, .getfield 37, 3, 4, 8, 1), (101, .iload_n 2, 1, 0, 0, 0), (102, .iaload, 1, 0, 0, 0), (103, .iastore, 1, 0, 0, 0), (104, .aload_n 0, 1, 0, 0, 0),
  (105, .getfield 40, 3, 4, 9, 1), (108, .iload_n 2, 1, 0, 0, 0), (109, .aload_n 1, 1, 0, 0, 0), (110, .getfield 40, 3, 4, 9, 1), (113, .iload_n 2, 1, 0, 0, 0), (114, .iaload, 1, 0, 0, 0),
  (115, .iastore, 1, 0, 0, 0), (116, .iinc 2 1, 3, 0, 0, 0), (119, .goto (-93), 3, 26, 0, 0), (122, .iconst 0, 1, 0, 0, 0), (123, .istore_n 2, 1, 0, 0, 0), (124, .iload_n 2, 1, 0, 0, 0),
  (125, .aload_n 0, 1, 0, 0, 0), (126, .getfield 43, 3, 4, 10, 1), (129, .arraylength, 1, 0, 0, 0), (130, .if_icmp .ge 21, 3, 151, 0, 0), (133, .aload_n 0, 1, 0, 0, 0), (134, .getfield 43, 3, 4, 10, 1),
  (137, .iload_n 2, 1, 0, 0, 0), (138, .aload_n 1, 1, 0, 0, 0), (139, .getfield 43, 3, 4, 10, 1), (142, .iload_n 2, 1, 0, 0, 0), (143, .iaload, 1, 0, 0, 0), (144, .iastore, 1, 0, 0, 0),
  (145, .iinc 2 1, 3, 0, 0, 0), (148, .goto (-24), 3, 124, 0, 0), (151, .return_, 1, 0, 0, 0)]
def ct_X4_copyFrom : List Nat := [26, 124]
def cd_X4_isHouse : List nl_E := [(0, .iload_n 1, 1, 0, 0, 0), (1, .ifCond .lt 15, 3, 16, 0, 0), (4, .iload_n 1, 1, 0, 0, 0), (5, .aload_n 0, 1, 0, 0, 0), (6, .getfield 9, 3, 4, 0, 0), (9, .if_icmp .ge 7, 3, 16, 0, 0),
  (12, .iconst 1, 1, 0, 0, 0), (13, .goto 4, 3, 17, 0, 0), (16, .iconst 0, 1, 0, 0, 0), (17, .ireturn, 1, 0, 0, 0)]
def ct_X4_isHouse : List Nat := []
def cd_X4_isHour : List nl_E := [(0, .iload_n 1, 1, 0, 0, 0), (1, .ifCond .lt 15, 3, 16, 0, 0), (4, .iload_n 1, 1, 0, 0, 0), (5, .aload_n 0, 1, 0, 0, 0), (6, .getfield 9, 3, 4, 0, 0), (9, .if_icmp .ge 7, 3, 16, 0, 0),
  (12, .iconst 1, 1, 0, 0, 0), (13, .goto 4, 3, 17, 0, 0), (16, .iconst 0, 1, 0, 0, 0), (17, .ireturn, 1, 0, 0, 0)]
def ct_X4_isHour : List Nat := []
def cd_X4_houseWith : List nl_E := [(0, .iconst 0, 1, 0, 0, 0), (1, .istore_n 2, 1, 0, 0, 0), (2, .iload_n 2, 1, 0, 0, 0), (3, .aload_n 0, 1, 0, 0, 0), (4, .getfield 9, 3, 4, 0, 0), (7, .if_icmp .ge 21, 3, 28, 0, 0),
  (10, .aload_n 0, 1, 0, 0, 0), (11, .getfield 37, 3, 4, 8, 1), (14, .iload_n 2, 1, 0, 0, 0), (15, .iaload, 1, 0, 0, 0), (16, .iload_n 1, 1, 0, 0, 0), (17, .if_icmp .ne 5, 3, 22, 0, 0),
  (20, .iload_n 2, 1, 0, 0, 0), (21, .ireturn, 1, 0, 0, 0), (22, .iinc 2 1, 3, 0, 0, 0), (25, .goto (-23), 3, 2, 0, 0), (28, .iconst (-1), 1, 0, 0, 0), (29, .ireturn, 1, 0, 0, 0)]
def ct_X4_houseWith : List Nat := [2]
def cd_X4_timesHad : List nl_E := [(0, .aload_n 0, 1, 0, 0, 0), (1, .getfield 43, 3, 4, 10, 1), (4, .iload_n 1, 1, 0, 0, 0), (5, .bipush 7, 2, 0, 0, 0), (7, .imul, 1, 0, 0, 0), (8, .iload_n 2, 1, 0, 0, 0),
  (9, .iadd, 1, 0, 0, 0), (10, .iaload, 1, 0, 0, 0), (11, .ireturn, 1, 0, 0, 0)]
def ct_X4_timesHad : List Nat := []
def cd_X4_heaviness : List nl_E := [(0, .aload_n 0, 1, 0, 0, 0), (1, .getfield 21, 3, 4, 3, 1), (4, .iload_n 2, 1, 0, 0, 0), (5, .iaload, 1, 0, 0, 0), (6, .istore_n 3, 1, 0, 0, 0), (7, .aload_n 0, 1, 0, 0, 0),
  (8, .getfield 25, 3, 4, 4, 1), (11, .iload_n 1, 1, 0, 0, 0), (12, .iaload, 1, 0, 0, 0), (13, .tableswitch 74 1 3 #[27, 31, 48], 27, 87, 64008232, 3), (40, .iconst 2, 1, 0, 0, 0), (41, .iload_n 3, 1, 0, 0, 0),
  (42, .imul, 1, 0, 0, 0), (43, .ireturn, 1, 0, 0, 0), (44, .iload_n 2, 1, 0, 0, 0), (45, .aload_n 0, 1, 0, 0, 0), (46, .iload_n 1, 1, 0, 0, 0), (47, .invokevirtual 59, 3, 30, 1, 17),
  (50, .if_icmp .ne 9, 3, 59, 0, 0), (53, .iload_n 3, 1, 0, 0, 0), (54, .iconst 2, 1, 0, 0, 0), (55, .idiv, 1, 0, 0, 0), (56, .goto 4, 3, 60, 0, 0), (59, .iload_n 3, 1, 0, 0, 0),
  (60, .ireturn, 1, 0, 0, 0), (61, .iload_n 2, 1, 0, 0, 0), (62, .ifCond .eq 13, 3, 75, 0, 0), (65, .iload_n 2, 1, 0, 0, 0), (66, .aload_n 0, 1, 0, 0, 0), (67, .getfield 9, 3, 4, 0, 0),
  (70, .iconst 1, 1, 0, 0, 0), (71, .isub, 1, 0, 0, 0), (72, .if_icmp .ne 13, 3, 85, 0, 0), (75, .iload_n 3, 1, 0, 0, 0), (76, .iconst 3, 1, 0, 0, 0), (77, .isub, 1, 0, 0, 0),
  (78, .iconst 0, 1, 0, 0, 0), (79, .invokestatic 63, 3, 0, 0, 3), (82, .goto 4, 3, 86, 0, 0), (85, .iload_n 3, 1, 0, 0, 0), (86, .ireturn, 1, 0, 0, 0), (87, .iload_n 3, 1, 0, 0, 0),
  (88, .ireturn, 1, 0, 0, 0)]
def ct_X4_heaviness : List Nat := []
def cd_X4_hourHadMost : List nl_E := [(0, .iconst 0, 1, 0, 0, 0), (1, .istore_n 2, 1, 0, 0, 0), (2, .iconst (-1), 1, 0, 0, 0), (3, .istore_n 3, 1, 0, 0, 0), (4, .iconst 0, 1, 0, 0, 0), (5, .istore 4, 2, 0, 0, 0),
  (7, .iload 4, 2, 0, 0, 0), (9, .aload_n 0, 1, 0, 0, 0), (10, .getfield 9, 3, 4, 0, 0), (13, .if_icmp .ge 35, 3, 48, 0, 0), (16, .aload_n 0, 1, 0, 0, 0), (17, .getfield 43, 3, 4, 10, 1),
  (20, .iload_n 1, 1, 0, 0, 0), (21, .bipush 7, 2, 0, 0, 0), (23, .imul, 1, 0, 0, 0), (24, .iload 4, 2, 0, 0, 0), (26, .iadd, 1, 0, 0, 0), (27, .iaload, 1, 0, 0, 0),
  (28, .istore 5, 2, 0, 0, 0), (30, .iload 5, 2, 0, 0, 0), (32, .iload_n 2, 1, 0, 0, 0), (33, .if_icmp .le 9, 3, 42, 0, 0), (36, .iload 5, 2, 0, 0, 0), (38, .istore_n 2, 1, 0, 0, 0),
  (39, .iload 4, 2, 0, 0, 0), (41, .istore_n 3, 1, 0, 0, 0), (42, .iinc 4 1, 3, 0, 0, 0), (45, .goto (-38), 3, 7, 0, 0), (48, .iload_n 3, 1, 0, 0, 0), (49, .ireturn, 1, 0, 0, 0)]
def ct_X4_hourHadMost : List Nat := [7]
def cd_X4_wouldKeep : List nl_E := [(0, .aload_n 0, 1, 0, 0, 0), (1, .iload_n 1, 1, 0, 0, 0), (2, .iload_n 2, 1, 0, 0, 0), (3, .invokevirtual 66, 3, 29, 2, 17), (6, .aload_n 0, 1, 0, 0, 0), (7, .getfield 28, 3, 4, 5, 1),
  (10, .iload_n 1, 1, 0, 0, 0), (11, .iaload, 1, 0, 0, 0), (12, .iload_n 3, 1, 0, 0, 0), (13, .isub, 1, 0, 0, 0), (14, .if_icmp .gt 7, 3, 21, 0, 0), (17, .iconst 1, 1, 0, 0, 0),
  (18, .goto 4, 3, 22, 0, 0), (21, .iconst 0, 1, 0, 0, 0), (22, .ireturn, 1, 0, 0, 0)]
def ct_X4_wouldKeep : List Nat := []
def cd_X4_isGapAt : List nl_E := [(0, .aload_n 0, 1, 0, 0, 0), (1, .iload_n 1, 1, 0, 0, 0), (2, .invokevirtual 69, 3, 27, 1, 17), (5, .istore_n 2, 1, 0, 0, 0), (6, .iload_n 2, 1, 0, 0, 0), (7, .iconst (-1), 1, 0, 0, 0),
  (8, .if_icmp .eq 22, 3, 30, 0, 0), (11, .aload_n 0, 1, 0, 0, 0), (12, .iload_n 2, 1, 0, 0, 0), (13, .iload_n 1, 1, 0, 0, 0), (14, .aload_n 0, 1, 0, 0, 0), (15, .getfield 34, 3, 4, 7, 1),
  (18, .iload_n 2, 1, 0, 0, 0), (19, .iaload, 1, 0, 0, 0), (20, .invokevirtual 72, 3, 31, 3, 17), (23, .ifCond .ne 7, 3, 30, 0, 0), (26, .iconst 1, 1, 0, 0, 0), (27, .goto 4, 3, 31, 0, 0),
  (30, .iconst 0, 1, 0, 0, 0), (31, .ireturn, 1, 0, 0, 0)]
def ct_X4_isGapAt : List Nat := []
def cd_X4_seeThrough : List nl_E := [(0, .aload_n 0, 1, 0, 0, 0), (1, .getfield 37, 3, 4, 8, 1), (4, .iload_n 1, 1, 0, 0, 0), (5, .iaload, 1, 0, 0, 0), (6, .istore_n 2, 1, 0, 0, 0), (7, .aload_n 0, 1, 0, 0, 0),
  (8, .iload_n 2, 1, 0, 0, 0), (9, .invokevirtual 76, 3, 26, 1, 17), (12, .ifCond .ne 5, 3, 17, 0, 0), (15, .iconst 1, 1, 0, 0, 0), (16, .ireturn, 1, 0, 0, 0), (17, .aload_n 0, 1, 0, 0, 0),
  (18, .iload_n 1, 1, 0, 0, 0), (19, .iload_n 2, 1, 0, 0, 0), (20, .aload_n 0, 1, 0, 0, 0), (21, .getfield 34, 3, 4, 7, 1), (24, .iload_n 1, 1, 0, 0, 0), (25, .iaload, 1, 0, 0, 0),
  (26, .invokevirtual 72, 3, 31, 3, 17), (29, .istore_n 3, 1, 0, 0, 0), (30, .iload_n 3, 1, 0, 0, 0), (31, .ifCond .eq 25, 3, 56, 0, 0), (34, .aload_n 0, 1, 0, 0, 0), (35, .getfield 34, 3, 4, 7, 1),
  (38, .iload_n 1, 1, 0, 0, 0), (39, .aload_n 0, 1, 0, 0, 0), (40, .getfield 34, 3, 4, 7, 1), (43, .iload_n 1, 1, 0, 0, 0), (44, .iaload, 1, 0, 0, 0), (45, .iconst 2, 1, 0, 0, 0),
  (46, .iadd, 1, 0, 0, 0), (47, .bipush 40, 2, 0, 0, 0), (49, .invokestatic 49, 3, 0, 0, 4), (52, .iastore, 1, 0, 0, 0), (53, .goto 31, 3, 84, 0, 0), (56, .aload_n 0, 1, 0, 0, 0),
  (57, .getfield 34, 3, 4, 7, 1), (60, .iload_n 1, 1, 0, 0, 0), (61, .aload_n 0, 1, 0, 0, 0), (62, .getfield 34, 3, 4, 7, 1), (65, .iload_n 1, 1, 0, 0, 0), (66, .iaload, 1, 0, 0, 0),
  (67, .iconst 3, 1, 0, 0, 0), (68, .isub, 1, 0, 0, 0), (69, .iconst 0, 1, 0, 0, 0), (70, .invokestatic 63, 3, 0, 0, 3), (73, .iastore, 1, 0, 0, 0), (74, .aload_n 0, 1, 0, 0, 0),
  (75, .getfield 40, 3, 4, 9, 1), (78, .iload_n 1, 1, 0, 0, 0), (79, .dup2, 1, 0, 0, 0), (80, .iaload, 1, 0, 0, 0), (81, .iconst 1, 1, 0, 0, 0), (82, .iadd, 1, 0, 0, 0),
  (83, .iastore, 1, 0, 0, 0), (84, .aload_n 0, 1, 0, 0, 0), (85, .getfield 43, 3, 4, 10, 1), (88, .iload_n 1, 1, 0, 0, 0), (89, .bipush 7, 2, 0, 0, 0), (91, .imul, 1, 0, 0, 0),
  (92, .iload_n 2, 1, 0, 0, 0), (93, .iadd, 1, 0, 0, 0), (94, .dup2, 1, 0, 0, 0), (95, .iaload, 1, 0, 0, 0), (96, .iconst 1, 1, 0, 0, 0), (97, .iadd, 1, 0, 0, 0),
  (98, .iastore, 1, 0, 0, 0), (99, .aload_n 0, 1, 0, 0, 0), (100, .getfield 37, 3, 4, 8, 1), (103, .iload_n 1, 1, 0, 0, 0), (104, .iload_n 2, 1, 0, 0, 0), (105, .iconst 1, 1, 0, 0, 0),
  (106, .iadd, 1, 0, 0, 0), (107, .aload_n 0, 1, 0, 0, 0), (108, .getfield 9, 3, 4, 0, 0), (111, .if_icmp .ge 9, 3, 120, 0, 0), (114, .iload_n 2, 1, 0, 0, 0), (115, .iconst 1, 1, 0, 0, 0),
  (116, .iadd, 1, 0, 0, 0), (117, .goto 4, 3, 121, 0, 0), (120, .iconst 0, 1, 0, 0, 0), (121, .iastore, 1, 0, 0, 0), (122, .iload_n 3, 1, 0, 0, 0), (123, .ireturn, 1, 0, 0, 0)]
def ct_X4_seeThrough : List Nat := []
def cd_X4_letNightsPass : List nl_E := [(0, .iconst 0, 1, 0, 0, 0), (1, .istore_n 2, 1, 0, 0, 0), (2, .iconst 0, 1, 0, 0, 0), (3, .istore_n 3, 1, 0, 0, 0), (4, .iload_n 3, 1, 0, 0, 0), (5, .iload_n 1, 1, 0, 0, 0),
  (6, .if_icmp .ge 54, 3, 60, 0, 0), (9, .iconst 0, 1, 0, 0, 0), (10, .istore 4, 2, 0, 0, 0), (12, .iload 4, 2, 0, 0, 0), (14, .aload_n 0, 1, 0, 0, 0), (15, .getfield 9, 3, 4, 0, 0),
  (18, .if_icmp .ge 26, 3, 44, 0, 0), (21, .iload_n 2, 1, 0, 0, 0), (22, .aload_n 0, 1, 0, 0, 0), (23, .iload 4, 2, 0, 0, 0), (25, .invokevirtual 80, 3, 33, 1, 17), (28, .ifCond .eq 7, 3, 35, 0, 0),
  (31, .iconst 0, 1, 0, 0, 0), (32, .goto 4, 3, 36, 0, 0), (35, .iconst 1, 1, 0, 0, 0), (36, .iadd, 1, 0, 0, 0), (37, .istore_n 2, 1, 0, 0, 0), (38, .iinc 4 1, 3, 0, 0, 0),
  (41, .goto (-29), 3, 12, 0, 0), (44, .aload_n 0, 1, 0, 0, 0), (45, .dup, 1, 0, 0, 0), (46, .getfield 15, 3, 4, 1, 0), (49, .iconst 1, 1, 0, 0, 0), (50, .iadd, 1, 0, 0, 0),
  (51, .putfield 15, 3, 4, 1, 0), (54, .iinc 3 1, 3, 0, 0, 0), (57, .goto (-53), 3, 4, 0, 0), (60, .aload_n 0, 1, 0, 0, 0), (61, .dup, 1, 0, 0, 0), (62, .getfield 18, 3, 4, 2, 0),
  (65, .iload_n 2, 1, 0, 0, 0), (66, .iadd, 1, 0, 0, 0), (67, .putfield 18, 3, 4, 2, 0), (70, .iload_n 2, 1, 0, 0, 0), (71, .ireturn, 1, 0, 0, 0)]
def ct_X4_letNightsPass : List Nat := [4, 12]
def cd_X4_trade : List nl_E := [(0, .aload_n 0, 1, 0, 0, 0), (1, .getfield 37, 3, 4, 8, 1), (4, .iload_n 1, 1, 0, 0, 0), (5, .iaload, 1, 0, 0, 0), (6, .istore_n 3, 1, 0, 0, 0), (7, .aload_n 0, 1, 0, 0, 0),
  (8, .getfield 37, 3, 4, 8, 1), (11, .iload_n 1, 1, 0, 0, 0), (12, .aload_n 0, 1, 0, 0, 0), (13, .getfield 37, 3, 4, 8, 1), (16, .iload_n 2, 1, 0, 0, 0), (17, .iaload, 1, 0, 0, 0),
  (18, .iastore, 1, 0, 0, 0), (19, .aload_n 0, 1, 0, 0, 0), (20, .getfield 37, 3, 4, 8, 1), (23, .iload_n 2, 1, 0, 0, 0), (24, .iload_n 3, 1, 0, 0, 0), (25, .iastore, 1, 0, 0, 0),
  (26, .return_, 1, 0, 0, 0)]
def ct_X4_trade : List Nat := []
def cd_X4_giveRest : List nl_E := [(0, .aload_n 0, 1, 0, 0, 0), (1, .getfield 34, 3, 4, 7, 1), (4, .iload_n 1, 1, 0, 0, 0), (5, .aload_n 0, 1, 0, 0, 0), (6, .getfield 34, 3, 4, 7, 1), (9, .iload_n 1, 1, 0, 0, 0),
  (10, .iaload, 1, 0, 0, 0), (11, .iconst 5, 1, 0, 0, 0), (12, .isub, 1, 0, 0, 0), (13, .iconst 0, 1, 0, 0, 0), (14, .invokestatic 63, 3, 0, 0, 3), (17, .iastore, 1, 0, 0, 0),
  (18, .return_, 1, 0, 0, 0)]
def ct_X4_giveRest : List Nat := []
def cd_X4_setBurden : List nl_E := [(0, .aload_n 0, 1, 0, 0, 0), (1, .iload_n 1, 1, 0, 0, 0), (2, .invokevirtual 76, 3, 26, 1, 17), (5, .ifCond .eq 10, 3, 15, 0, 0), (8, .aload_n 0, 1, 0, 0, 0), (9, .getfield 21, 3, 4, 3, 1),
  (12, .iload_n 1, 1, 0, 0, 0), (13, .iload_n 2, 1, 0, 0, 0), (14, .iastore, 1, 0, 0, 0), (15, .return_, 1, 0, 0, 0)]
def ct_X4_setBurden : List Nat := []
def cd_X4_tiredTogether : List nl_E := [(0, .iconst 0, 1, 0, 0, 0), (1, .istore_n 1, 1, 0, 0, 0), (2, .iconst 0, 1, 0, 0, 0), (3, .istore_n 2, 1, 0, 0, 0), (4, .iload_n 2, 1, 0, 0, 0), (5, .aload_n 0, 1, 0, 0, 0),
  (6, .getfield 9, 3, 4, 0, 0), (9, .if_icmp .ge 18, 3, 27, 0, 0), (12, .iload_n 1, 1, 0, 0, 0), (13, .aload_n 0, 1, 0, 0, 0), (14, .getfield 34, 3, 4, 7, 1), (17, .iload_n 2, 1, 0, 0, 0),
  (18, .iaload, 1, 0, 0, 0), (19, .iadd, 1, 0, 0, 0), (20, .istore_n 1, 1, 0, 0, 0), (21, .iinc 2 1, 3, 0, 0, 0), (24, .goto (-20), 3, 4, 0, 0), (27, .iload_n 1, 1, 0, 0, 0),
  (28, .ireturn, 1, 0, 0, 0)]
def ct_X4_tiredTogether : List Nat := [4]
def cd_X4_handingOver : List nl_E := [(0, .iconst 0, 1, 0, 0, 0), (1, .istore_n 1, 1, 0, 0, 0), (2, .iconst 1, 1, 0, 0, 0), (3, .istore_n 2, 1, 0, 0, 0), (4, .iload_n 2, 1, 0, 0, 0), (5, .aload_n 0, 1, 0, 0, 0),
  (6, .getfield 9, 3, 4, 0, 0), (9, .if_icmp .ge 55, 3, 64, 0, 0), (12, .aload_n 0, 1, 0, 0, 0), (13, .iload_n 2, 1, 0, 0, 0), (14, .iconst 1, 1, 0, 0, 0), (15, .isub, 1, 0, 0, 0),
  (16, .invokevirtual 69, 3, 27, 1, 17), (19, .istore_n 3, 1, 0, 0, 0), (20, .aload_n 0, 1, 0, 0, 0), (21, .iload_n 2, 1, 0, 0, 0), (22, .invokevirtual 69, 3, 27, 1, 17), (25, .istore 4, 2, 0, 0, 0),
  (27, .iload_n 3, 1, 0, 0, 0), (28, .iconst (-1), 1, 0, 0, 0), (29, .if_icmp .eq 29, 3, 58, 0, 0), (32, .iload 4, 2, 0, 0, 0), (34, .iconst (-1), 1, 0, 0, 0), (35, .if_icmp .eq 23, 3, 58, 0, 0),
  (38, .iload_n 1, 1, 0, 0, 0), (39, .aload_n 0, 1, 0, 0, 0), (40, .getfield 31, 3, 4, 6, 1), (43, .iload 4, 2, 0, 0, 0), (45, .iaload, 1, 0, 0, 0), (46, .aload_n 0, 1, 0, 0, 0),
  (47, .getfield 31, 3, 4, 6, 1), (50, .iload_n 3, 1, 0, 0, 0), (51, .iaload, 1, 0, 0, 0), (52, .isub, 1, 0, 0, 0), (53, .invokestatic 83, 3, 0, 0, 5), (56, .iadd, 1, 0, 0, 0),
  (57, .istore_n 1, 1, 0, 0, 0), (58, .iinc 2 1, 3, 0, 0, 0), (61, .goto (-57), 3, 4, 0, 0), (64, .iload_n 1, 1, 0, 0, 0), (65, .ireturn, 1, 0, 0, 0)]
def ct_X4_handingOver : List Nat := [4]
def cd_X4_lengthOfRoad : List nl_E := [(0, .bipush 99, 2, 0, 0, 0), (2, .istore_n 1, 1, 0, 0, 0), (3, .iconst 0, 1, 0, 0, 0), (4, .istore_n 2, 1, 0, 0, 0), (5, .iconst 0, 1, 0, 0, 0), (6, .istore_n 3, 1, 0, 0, 0),
  (7, .iload_n 3, 1, 0, 0, 0), (8, .aload_n 0, 1, 0, 0, 0), (9, .getfield 9, 3, 4, 0, 0), (12, .if_icmp .ge 31, 3, 43, 0, 0), (15, .iload_n 1, 1, 0, 0, 0), (16, .aload_n 0, 1, 0, 0, 0),
  (17, .getfield 31, 3, 4, 6, 1), (20, .iload_n 3, 1, 0, 0, 0), (21, .iaload, 1, 0, 0, 0), (22, .invokestatic 49, 3, 0, 0, 4), (25, .istore_n 1, 1, 0, 0, 0), (26, .iload_n 2, 1, 0, 0, 0),
  (27, .aload_n 0, 1, 0, 0, 0), (28, .getfield 31, 3, 4, 6, 1), (31, .iload_n 3, 1, 0, 0, 0), (32, .iaload, 1, 0, 0, 0), (33, .invokestatic 63, 3, 0, 0, 3), (36, .istore_n 2, 1, 0, 0, 0),
  (37, .iinc 3 1, 3, 0, 0, 0), (40, .goto (-33), 3, 7, 0, 0), (43, .iload_n 2, 1, 0, 0, 0), (44, .iload_n 1, 1, 0, 0, 0), (45, .isub, 1, 0, 0, 0), (46, .iconst 0, 1, 0, 0, 0),
  (47, .invokestatic 63, 3, 0, 0, 3), (50, .ireturn, 1, 0, 0, 0)]
def ct_X4_lengthOfRoad : List Nat := [7]
def cd_X4_stir : List nl_E := [(0, .aload_n 0, 1, 0, 0, 0), (1, .getfield 9, 3, 4, 0, 0), (4, .iconst 1, 1, 0, 0, 0), (5, .if_icmp .lt 7, 3, 12, 0, 0), (8, .iload_n 1, 1, 0, 0, 0), (9, .ifCond .ge 4, 3, 13, 0, 0),
  (12, .return_, 1, 0, 0, 0), (13, .iload_n 1, 1, 0, 0, 0), (14, .aload_n 0, 1, 0, 0, 0), (15, .getfield 9, 3, 4, 0, 0), (18, .irem, 1, 0, 0, 0), (19, .istore_n 2, 1, 0, 0, 0),
  (20, .iload_n 1, 1, 0, 0, 0), (21, .bipush 8, 2, 0, 0, 0), (23, .idiv, 1, 0, 0, 0), (24, .aload_n 0, 1, 0, 0, 0), (25, .getfield 9, 3, 4, 0, 0), (28, .irem, 1, 0, 0, 0),
  (29, .istore_n 3, 1, 0, 0, 0), (30, .iload_n 1, 1, 0, 0, 0), (31, .bipush 64, 2, 0, 0, 0), (33, .idiv, 1, 0, 0, 0), (34, .iconst 4, 1, 0, 0, 0), (35, .irem, 1, 0, 0, 0),
  (36, .tableswitch 66 0 2 #[28, 37, 45], 28, 102, 85009472, 3), (64, .aload_n 0, 1, 0, 0, 0), (65, .iload_n 2, 1, 0, 0, 0), (66, .iload_n 3, 1, 0, 0, 0), (67, .invokevirtual 86, 3, 35, 2, 16), (70, .goto 32, 3, 102, 0, 0),
  (73, .aload_n 0, 1, 0, 0, 0), (74, .iload_n 2, 1, 0, 0, 0), (75, .invokevirtual 90, 3, 36, 1, 16), (78, .goto 24, 3, 102, 0, 0), (81, .aload_n 0, 1, 0, 0, 0), (82, .aload_n 0, 1, 0, 0, 0),
  (83, .getfield 37, 3, 4, 8, 1), (86, .iload_n 2, 1, 0, 0, 0), (87, .iaload, 1, 0, 0, 0), (88, .iload_n 1, 1, 0, 0, 0), (89, .sipush 256, 3, 0, 0, 0), (92, .idiv, 1, 0, 0, 0),
  (93, .bipush 21, 2, 0, 0, 0), (95, .irem, 1, 0, 0, 0), (96, .invokevirtual 94, 3, 37, 2, 16), (99, .goto 3, 3, 102, 0, 0), (102, .return_, 1, 0, 0, 0)]
def ct_X4_stir : List Nat := [30]
def cd_X5_write : List nl_E := [(0, .iload_n 1, 1, 0, 0, 0), (1, .bipush 32, 2, 0, 0, 0), (3, .bipush 126, 2, 0, 0, 0), (5, .invokestatic 82, 3, 71, 3, 1), (8, .ifCond .ne 5, 3, 13, 0, 0), (11, .iconst (-1), 1, 0, 0, 0),
  (12, .ireturn, 1, 0, 0, 0), (13, .aload_n 0, 1, 0, 0, 0), (14, .getfield 13, 3, 5, 1, 0), (17, .sipush 200, 3, 0, 0, 0), (20, .if_icmp .lt 6, 3, 26, 0, 0), (23, .bipush (-3), 2, 0, 0, 0),
  (25, .ireturn, 1, 0, 0, 0), (26, .aload_n 0, 1, 0, 0, 0), (27, .getfield 9, 3, 5, 0, 1), (30, .aload_n 0, 1, 0, 0, 0), (31, .getfield 13, 3, 5, 1, 0), (34, .iload_n 1, 1, 0, 0, 0),
  (35, .iastore, 1, 0, 0, 0), (36, .aload_n 0, 1, 0, 0, 0), (37, .dup, 1, 0, 0, 0), (38, .getfield 13, 3, 5, 1, 0), (41, .iconst 1, 1, 0, 0, 0), (42, .iadd, 1, 0, 0, 0),
  (43, .putfield 13, 3, 5, 1, 0), (46, .aload_n 0, 1, 0, 0, 0), (47, .getfield 13, 3, 5, 1, 0), (50, .ireturn, 1, 0, 0, 0)]
def ct_X5_write : List Nat := []
def cd_X5_wipe : List nl_E := [(0, .aload_n 0, 1, 0, 0, 0), (1, .getfield 13, 3, 5, 1, 0), (4, .istore_n 1, 1, 0, 0, 0), (5, .aload_n 0, 1, 0, 0, 0), (6, .iconst 0, 1, 0, 0, 0), (7, .putfield 13, 3, 5, 1, 0),
  (10, .iload_n 1, 1, 0, 0, 0), (11, .ireturn, 1, 0, 0, 0)]
def ct_X5_wipe : List Nat := []
def cd_X5_fault : List nl_E := [(0, .aload_n 0, 1, 0, 0, 0), (1, .getfield 20, 3, 5, 2, 34), (4, .aload_n 0, 1, 0, 0, 0), (5, .getfield 9, 3, 5, 0, 1), (8, .aload_n 0, 1, 0, 0, 0), (9, .getfield 13, 3, 5, 1, 0),
  (12, .invokevirtual 86, 3, 9, 2, 4), (15, .aload_n 0, 1, 0, 0, 0), (16, .getfield 20, 3, 5, 2, 34), (19, .getfield 90, 3, 1, 7, 0), (22, .iconst (-1), 1, 0, 0, 0), (23, .if_icmp .ne 8, 3, 31, 0, 0),
  (26, .bipush (-4), 2, 0, 0, 0), (28, .goto 10, 3, 38, 0, 0), (31, .aload_n 0, 1, 0, 0, 0), (32, .getfield 20, 3, 5, 2, 34), (35, .getfield 90, 3, 1, 7, 0), (38, .ireturn, 1, 0, 0, 0)]
def ct_X5_fault : List Nat := []
def cd_X5_lay : List nl_E := [(0, .aload_n 0, 1, 0, 0, 0), (1, .getfield 20, 3, 5, 2, 34), (4, .aload_n 0, 1, 0, 0, 0), (5, .getfield 9, 3, 5, 0, 1), (8, .aload_n 0, 1, 0, 0, 0), (9, .getfield 13, 3, 5, 1, 0),
  (12, .invokevirtual 86, 3, 9, 2, 4), (15, .aload_n 0, 1, 0, 0, 0), (16, .getfield 20, 3, 5, 2, 34), (19, .invokevirtual 93, 3, 10, 0, 5), (22, .ifCond .ne 6, 3, 28, 0, 0), (25, .bipush (-2), 2, 0, 0, 0),
  (27, .ireturn, 1, 0, 0, 0), (28, .aload_n 0, 1, 0, 0, 0), (29, .getfield 27, 3, 5, 3, 130), (32, .aload_n 0, 1, 0, 0, 0), (33, .getfield 20, 3, 5, 2, 34), (36, .invokevirtual 97, 3, 23, 1, 16),
  (39, .aload_n 0, 1, 0, 0, 0), (40, .getfield 39, 3, 5, 5, 66), (43, .invokevirtual 101, 3, 15, 0, 8), (46, .aload_n 0, 1, 0, 0, 0), (47, .getfield 43, 3, 5, 6, 67), (50, .invokevirtual 101, 3, 15, 0, 8),
  (53, .aload_n 0, 1, 0, 0, 0), (54, .getfield 49, 3, 5, 7, 98), (57, .invokevirtual 104, 3, 19, 0, 12), (60, .aload_n 0, 1, 0, 0, 0), (61, .getfield 27, 3, 5, 3, 130), (64, .getfield 105, 3, 4, 0, 0),
  (67, .ireturn, 1, 0, 0, 0)]
def ct_X5_lay : List Nat := []
def cd_X5_house : List nl_E := [(0, .aload_n 0, 1, 0, 0, 0), (1, .getfield 27, 3, 5, 3, 130), (4, .iload_n 1, 1, 0, 0, 0), (5, .invokevirtual 108, 3, 25, 1, 17), (8, .ifCond .ne 5, 3, 13, 0, 0), (11, .iconst (-1), 1, 0, 0, 0),
  (12, .ireturn, 1, 0, 0, 0), (13, .iload_n 2, 1, 0, 0, 0), (14, .tableswitch 98 0 5 #[38, 48, 58, 68, 78, 88], 38, 112, 114943033690093620, 6), (52, .aload_n 0, 1, 0, 0, 0), (53, .getfield 27, 3, 5, 3, 130), (56, .getfield 112, 3, 4, 4, 1),
  (59, .iload_n 1, 1, 0, 0, 0), (60, .iaload, 1, 0, 0, 0), (61, .ireturn, 1, 0, 0, 0), (62, .aload_n 0, 1, 0, 0, 0), (63, .getfield 27, 3, 5, 3, 130), (66, .getfield 115, 3, 4, 5, 1),
  (69, .iload_n 1, 1, 0, 0, 0), (70, .iaload, 1, 0, 0, 0), (71, .ireturn, 1, 0, 0, 0), (72, .aload_n 0, 1, 0, 0, 0), (73, .getfield 27, 3, 5, 3, 130), (76, .getfield 118, 3, 4, 6, 1),
  (79, .iload_n 1, 1, 0, 0, 0), (80, .iaload, 1, 0, 0, 0), (81, .ireturn, 1, 0, 0, 0), (82, .aload_n 0, 1, 0, 0, 0), (83, .getfield 27, 3, 5, 3, 130), (86, .getfield 121, 3, 4, 7, 1),
  (89, .iload_n 1, 1, 0, 0, 0), (90, .iaload, 1, 0, 0, 0), (91, .ireturn, 1, 0, 0, 0), (92, .aload_n 0, 1, 0, 0, 0), (93, .getfield 27, 3, 5, 3, 130), (96, .getfield 124, 3, 4, 8, 1),
  (99, .iload_n 1, 1, 0, 0, 0), (100, .iaload, 1, 0, 0, 0), (101, .ireturn, 1, 0, 0, 0), (102, .aload_n 0, 1, 0, 0, 0), (103, .getfield 27, 3, 5, 3, 130), (106, .getfield 127, 3, 4, 9, 1),
  (109, .iload_n 1, 1, 0, 0, 0), (110, .iaload, 1, 0, 0, 0), (111, .ireturn, 1, 0, 0, 0), (112, .iconst (-1), 1, 0, 0, 0), (113, .ireturn, 1, 0, 0, 0)]
def ct_X5_house : List Nat := []
def cd_X5_hour : List nl_E := [(0, .aload_n 0, 1, 0, 0, 0), (1, .getfield 27, 3, 5, 3, 130), (4, .iload_n 1, 1, 0, 0, 0), (5, .invokevirtual 130, 3, 26, 1, 17), (8, .ifCond .eq 12, 3, 20, 0, 0), (11, .iload_n 2, 1, 0, 0, 0),
  (12, .iconst 0, 1, 0, 0, 0), (13, .iconst 1, 1, 0, 0, 0), (14, .invokestatic 82, 3, 71, 3, 1), (17, .ifCond .ne 5, 3, 22, 0, 0), (20, .iconst (-1), 1, 0, 0, 0), (21, .ireturn, 1, 0, 0, 0),
  (22, .iload_n 2, 1, 0, 0, 0), (23, .ifCond .ne 15, 3, 38, 0, 0), (26, .aload_n 0, 1, 0, 0, 0), (27, .getfield 27, 3, 5, 3, 130), (30, .getfield 133, 3, 4, 3, 1), (33, .iload_n 1, 1, 0, 0, 0),
  (34, .iaload, 1, 0, 0, 0), (35, .goto 11, 3, 46, 0, 0), (38, .aload_n 0, 1, 0, 0, 0), (39, .getfield 27, 3, 5, 3, 130), (42, .iload_n 1, 1, 0, 0, 0), (43, .invokevirtual 136, 3, 27, 1, 17),
  (46, .ireturn, 1, 0, 0, 0)]
def ct_X5_hour : List Nat := []
def cd_X5_heavy : List nl_E := [(0, .aload_n 0, 1, 0, 0, 0), (1, .getfield 27, 3, 5, 3, 130), (4, .iload_n 1, 1, 0, 0, 0), (5, .invokevirtual 108, 3, 25, 1, 17), (8, .ifCond .eq 14, 3, 22, 0, 0), (11, .aload_n 0, 1, 0, 0, 0),
  (12, .getfield 27, 3, 5, 3, 130), (15, .iload_n 2, 1, 0, 0, 0), (16, .invokevirtual 130, 3, 26, 1, 17), (19, .ifCond .ne 5, 3, 24, 0, 0), (22, .iconst (-1), 1, 0, 0, 0), (23, .ireturn, 1, 0, 0, 0),
  (24, .aload_n 0, 1, 0, 0, 0), (25, .getfield 27, 3, 5, 3, 130), (28, .iload_n 1, 1, 0, 0, 0), (29, .iload_n 2, 1, 0, 0, 0), (30, .invokevirtual 139, 3, 29, 2, 17), (33, .ireturn, 1, 0, 0, 0)]
def ct_X5_heavy : List Nat := []
def cd_X5_had : List nl_E := [(0, .aload_n 0, 1, 0, 0, 0), (1, .getfield 27, 3, 5, 3, 130), (4, .iload_n 1, 1, 0, 0, 0), (5, .invokevirtual 108, 3, 25, 1, 17), (8, .ifCond .eq 14, 3, 22, 0, 0), (11, .aload_n 0, 1, 0, 0, 0),
  (12, .getfield 27, 3, 5, 3, 130), (15, .iload_n 2, 1, 0, 0, 0), (16, .invokevirtual 130, 3, 26, 1, 17), (19, .ifCond .ne 5, 3, 24, 0, 0), (22, .iconst (-1), 1, 0, 0, 0), (23, .ireturn, 1, 0, 0, 0),
  (24, .aload_n 0, 1, 0, 0, 0), (25, .getfield 27, 3, 5, 3, 130), (28, .iload_n 1, 1, 0, 0, 0), (29, .iload_n 2, 1, 0, 0, 0), (30, .invokevirtual 143, 3, 28, 2, 17), (33, .ireturn, 1, 0, 0, 0)]
def ct_X5_had : List Nat := []
def cd_X5_pass : List nl_E := [(0, .iload_n 1, 1, 0, 0, 0), (1, .iconst 1, 1, 0, 0, 0), (2, .bipush 20, 2, 0, 0, 0), (4, .invokestatic 82, 3, 71, 3, 1), (7, .ifCond .ne 5, 3, 12, 0, 0), (10, .iconst (-1), 1, 0, 0, 0),
  (11, .ireturn, 1, 0, 0, 0), (12, .aload_n 0, 1, 0, 0, 0), (13, .getfield 27, 3, 5, 3, 130), (16, .getfield 146, 3, 4, 1, 0), (19, .iload_n 1, 1, 0, 0, 0), (20, .iadd, 1, 0, 0, 0),
  (21, .sipush 999, 3, 0, 0, 0), (24, .if_icmp .le 6, 3, 30, 0, 0), (27, .bipush (-2), 2, 0, 0, 0), (29, .ireturn, 1, 0, 0, 0), (30, .aload_n 0, 1, 0, 0, 0), (31, .getfield 39, 3, 5, 5, 66),
  (34, .aload_n 0, 1, 0, 0, 0), (35, .getfield 27, 3, 5, 3, 130), (38, .invokevirtual 149, 3, 16, 1, 8), (41, .aload_n 0, 1, 0, 0, 0), (42, .getfield 27, 3, 5, 3, 130), (45, .iload_n 1, 1, 0, 0, 0),
  (46, .invokevirtual 153, 3, 34, 1, 17), (49, .ireturn, 1, 0, 0, 0)]
def ct_X5_pass : List Nat := []
def cd_X5_swap : List nl_E := [(0, .aload_n 0, 1, 0, 0, 0), (1, .getfield 27, 3, 5, 3, 130), (4, .iload_n 1, 1, 0, 0, 0), (5, .invokevirtual 108, 3, 25, 1, 17), (8, .ifCond .eq 19, 3, 27, 0, 0), (11, .aload_n 0, 1, 0, 0, 0),
  (12, .getfield 27, 3, 5, 3, 130), (15, .iload_n 2, 1, 0, 0, 0), (16, .invokevirtual 108, 3, 25, 1, 17), (19, .ifCond .eq 8, 3, 27, 0, 0), (22, .iload_n 1, 1, 0, 0, 0), (23, .iload_n 2, 1, 0, 0, 0),
  (24, .if_icmp .ne 5, 3, 29, 0, 0), (27, .iconst (-1), 1, 0, 0, 0), (28, .ireturn, 1, 0, 0, 0), (29, .aload_n 0, 1, 0, 0, 0), (30, .getfield 39, 3, 5, 5, 66), (33, .aload_n 0, 1, 0, 0, 0),
  (34, .getfield 27, 3, 5, 3, 130), (37, .invokevirtual 149, 3, 16, 1, 8), (40, .aload_n 0, 1, 0, 0, 0), (41, .getfield 27, 3, 5, 3, 130), (44, .iload_n 1, 1, 0, 0, 0), (45, .iload_n 2, 1, 0, 0, 0),
  (46, .invokevirtual 156, 3, 35, 2, 16), (49, .aload_n 0, 1, 0, 0, 0), (50, .getfield 27, 3, 5, 3, 130), (53, .getfield 124, 3, 4, 8, 1), (56, .iload_n 1, 1, 0, 0, 0), (57, .iaload, 1, 0, 0, 0),
  (58, .ireturn, 1, 0, 0, 0)]
def ct_X5_swap : List Nat := []
def cd_X5_rest : List nl_E := [(0, .aload_n 0, 1, 0, 0, 0), (1, .getfield 27, 3, 5, 3, 130), (4, .iload_n 1, 1, 0, 0, 0), (5, .invokevirtual 108, 3, 25, 1, 17), (8, .ifCond .ne 5, 3, 13, 0, 0), (11, .iconst (-1), 1, 0, 0, 0),
  (12, .ireturn, 1, 0, 0, 0), (13, .aload_n 0, 1, 0, 0, 0), (14, .getfield 27, 3, 5, 3, 130), (17, .getfield 121, 3, 4, 7, 1), (20, .iload_n 1, 1, 0, 0, 0), (21, .iaload, 1, 0, 0, 0),
  (22, .ifCond .ne 6, 3, 28, 0, 0), (25, .bipush (-2), 2, 0, 0, 0), (27, .ireturn, 1, 0, 0, 0), (28, .aload_n 0, 1, 0, 0, 0), (29, .getfield 39, 3, 5, 5, 66), (32, .aload_n 0, 1, 0, 0, 0),
  (33, .getfield 27, 3, 5, 3, 130), (36, .invokevirtual 149, 3, 16, 1, 8), (39, .aload_n 0, 1, 0, 0, 0), (40, .getfield 27, 3, 5, 3, 130), (43, .iload_n 1, 1, 0, 0, 0), (44, .invokevirtual 160, 3, 36, 1, 16),
  (47, .aload_n 0, 1, 0, 0, 0), (48, .getfield 27, 3, 5, 3, 130), (51, .getfield 121, 3, 4, 7, 1), (54, .iload_n 1, 1, 0, 0, 0), (55, .iaload, 1, 0, 0, 0), (56, .ireturn, 1, 0, 0, 0)]
def ct_X5_rest : List Nat := []
def cd_X5_burden : List nl_E := [(0, .aload_n 0, 1, 0, 0, 0), (1, .getfield 27, 3, 5, 3, 130), (4, .iload_n 1, 1, 0, 0, 0), (5, .invokevirtual 130, 3, 26, 1, 17), (8, .ifCond .eq 13, 3, 21, 0, 0), (11, .iload_n 2, 1, 0, 0, 0),
  (12, .iconst 0, 1, 0, 0, 0), (13, .bipush 20, 2, 0, 0, 0), (15, .invokestatic 82, 3, 71, 3, 1), (18, .ifCond .ne 5, 3, 23, 0, 0), (21, .iconst (-1), 1, 0, 0, 0), (22, .ireturn, 1, 0, 0, 0),
  (23, .aload_n 0, 1, 0, 0, 0), (24, .getfield 27, 3, 5, 3, 130), (27, .getfield 133, 3, 4, 3, 1), (30, .iload_n 1, 1, 0, 0, 0), (31, .iaload, 1, 0, 0, 0), (32, .istore_n 3, 1, 0, 0, 0),
  (33, .iload_n 3, 1, 0, 0, 0), (34, .iload_n 2, 1, 0, 0, 0), (35, .if_icmp .ne 6, 3, 41, 0, 0), (38, .bipush (-2), 2, 0, 0, 0), (40, .ireturn, 1, 0, 0, 0), (41, .aload_n 0, 1, 0, 0, 0),
  (42, .getfield 39, 3, 5, 5, 66), (45, .aload_n 0, 1, 0, 0, 0), (46, .getfield 27, 3, 5, 3, 130), (49, .invokevirtual 149, 3, 16, 1, 8), (52, .aload_n 0, 1, 0, 0, 0), (53, .getfield 27, 3, 5, 3, 130),
  (56, .iload_n 1, 1, 0, 0, 0), (57, .iload_n 2, 1, 0, 0, 0), (58, .invokevirtual 163, 3, 37, 2, 16), (61, .iload_n 3, 1, 0, 0, 0), (62, .ireturn, 1, 0, 0, 0)]
def ct_X5_burden : List Nat := []
def cd_X5_undo : List nl_E := [(0, .aload_n 0, 1, 0, 0, 0), (1, .getfield 39, 3, 5, 5, 66), (4, .aload_n 0, 1, 0, 0, 0), (5, .getfield 27, 3, 5, 3, 130), (8, .invokevirtual 166, 3, 18, 1, 9), (11, .ifCond .ne 6, 3, 17, 0, 0),
  (14, .bipush (-2), 2, 0, 0, 0), (16, .ireturn, 1, 0, 0, 0), (17, .aload_n 0, 1, 0, 0, 0), (18, .getfield 39, 3, 5, 5, 66), (21, .getfield 170, 3, 2, 1, 0), (24, .ireturn, 1, 0, 0, 0)]
def ct_X5_undo : List Nat := []
def cd_X5_behind : List nl_E := [(0, .iload_n 1, 1, 0, 0, 0), (1, .iconst 0, 1, 0, 0, 0), (2, .bipush 40, 2, 0, 0, 0), (4, .invokestatic 82, 3, 71, 3, 1), (7, .ifCond .eq 23, 3, 30, 0, 0), (10, .aload_n 0, 1, 0, 0, 0),
  (11, .getfield 27, 3, 5, 3, 130), (14, .iload_n 2, 1, 0, 0, 0), (15, .invokevirtual 108, 3, 25, 1, 17), (18, .ifCond .eq 12, 3, 30, 0, 0), (21, .iload_n 3, 1, 0, 0, 0), (22, .iconst 0, 1, 0, 0, 0),
  (23, .iconst 1, 1, 0, 0, 0), (24, .invokestatic 82, 3, 71, 3, 1), (27, .ifCond .ne 5, 3, 32, 0, 0), (30, .iconst (-1), 1, 0, 0, 0), (31, .ireturn, 1, 0, 0, 0), (32, .aload_n 0, 1, 0, 0, 0),
  (33, .getfield 31, 3, 5, 4, 131), (36, .aload_n 0, 1, 0, 0, 0), (37, .getfield 27, 3, 5, 3, 130), (40, .invokevirtual 173, 3, 24, 1, 16), (43, .aload_n 0, 1, 0, 0, 0), (44, .getfield 31, 3, 5, 4, 131),
  (47, .iload_n 1, 1, 0, 0, 0), (48, .invokevirtual 153, 3, 34, 1, 17), (51, .pop, 1, 0, 0, 0), (52, .iload_n 3, 1, 0, 0, 0), (53, .ifCond .ne 15, 3, 68, 0, 0), (56, .aload_n 0, 1, 0, 0, 0),
  (57, .getfield 31, 3, 5, 4, 131), (60, .getfield 121, 3, 4, 7, 1), (63, .iload_n 2, 1, 0, 0, 0), (64, .iaload, 1, 0, 0, 0), (65, .goto 12, 3, 77, 0, 0), (68, .aload_n 0, 1, 0, 0, 0),
  (69, .getfield 31, 3, 5, 4, 131), (72, .getfield 124, 3, 4, 8, 1), (75, .iload_n 2, 1, 0, 0, 0), (76, .iaload, 1, 0, 0, 0), (77, .ireturn, 1, 0, 0, 0)]
def ct_X5_behind : List Nat := []
def cd_X5_gaps : List nl_E := [(0, .iconst 0, 1, 0, 0, 0), (1, .istore_n 1, 1, 0, 0, 0), (2, .iconst 0, 1, 0, 0, 0), (3, .istore_n 2, 1, 0, 0, 0), (4, .iload_n 2, 1, 0, 0, 0), (5, .aload_n 0, 1, 0, 0, 0),
  (6, .getfield 27, 3, 5, 3, 130), (9, .getfield 105, 3, 4, 0, 0), (12, .if_icmp .ge 26, 3, 38, 0, 0), (15, .aload_n 0, 1, 0, 0, 0), (16, .getfield 27, 3, 5, 3, 130), (19, .iload_n 2, 1, 0, 0, 0),
  (20, .invokevirtual 176, 3, 32, 1, 17), (23, .ifCond .eq 9, 3, 32, 0, 0), (26, .iload_n 1, 1, 0, 0, 0), (27, .iconst 1, 1, 0, 0, 0), (28, .iload_n 2, 1, 0, 0, 0), (29, .ishl, 1, 0, 0, 0),
  (30, .ior, 1, 0, 0, 0), (31, .istore_n 1, 1, 0, 0, 0), (32, .iinc 2 1, 3, 0, 0, 0), (35, .goto (-31), 3, 4, 0, 0), (38, .iload_n 1, 1, 0, 0, 0), (39, .ireturn, 1, 0, 0, 0)]
def ct_X5_gaps : List Nat := [4]
def cd_X5_first : List nl_E := [(0, .aload_n 0, 1, 0, 0, 0), (1, .getfield 27, 3, 5, 3, 130), (4, .iload_n 1, 1, 0, 0, 0), (5, .invokevirtual 108, 3, 25, 1, 17), (8, .ifCond .ne 5, 3, 13, 0, 0), (11, .iconst (-1), 1, 0, 0, 0),
  (12, .ireturn, 1, 0, 0, 0), (13, .aload_n 0, 1, 0, 0, 0), (14, .getfield 31, 3, 5, 4, 131), (17, .aload_n 0, 1, 0, 0, 0), (18, .getfield 27, 3, 5, 3, 130), (21, .invokevirtual 173, 3, 24, 1, 16),
  (24, .aload_n 0, 1, 0, 0, 0), (25, .iload_n 1, 1, 0, 0, 0), (26, .bipush 40, 2, 0, 0, 0), (28, .invokevirtual 179, 3, 74, 2, 21), (31, .istore_n 2, 1, 0, 0, 0), (32, .iload_n 2, 1, 0, 0, 0),
  (33, .iconst (-1), 1, 0, 0, 0), (34, .if_icmp .ne 8, 3, 42, 0, 0), (37, .bipush (-4), 2, 0, 0, 0), (39, .goto 4, 3, 43, 0, 0), (42, .iload_n 2, 1, 0, 0, 0), (43, .ireturn, 1, 0, 0, 0)]
def ct_X5_first : List Nat := []
def cd_X5_even : List nl_E := [(0, .iload_n 1, 1, 0, 0, 0), (1, .iconst (-1), 1, 0, 0, 0), (2, .if_icmp .eq 16, 3, 18, 0, 0), (5, .aload_n 0, 1, 0, 0, 0), (6, .getfield 27, 3, 5, 3, 130), (9, .iload_n 1, 1, 0, 0, 0),
  (10, .invokevirtual 108, 3, 25, 1, 17), (13, .ifCond .ne 5, 3, 18, 0, 0), (16, .iconst (-1), 1, 0, 0, 0), (17, .ireturn, 1, 0, 0, 0), (18, .aload_n 0, 1, 0, 0, 0), (19, .getfield 56, 3, 5, 8, 2),
  (22, .aload_n 0, 1, 0, 0, 0), (23, .getfield 27, 3, 5, 3, 130), (26, .invokevirtual 182, 3, 0, 1, 0), (29, .iload_n 1, 1, 0, 0, 0), (30, .iconst (-1), 1, 0, 0, 0), (31, .if_icmp .ne 13, 3, 44, 0, 0),
  (34, .aload_n 0, 1, 0, 0, 0), (35, .getfield 56, 3, 5, 8, 2), (38, .getfield 185, 3, 0, 5, 0), (41, .goto 12, 3, 53, 0, 0), (44, .aload_n 0, 1, 0, 0, 0), (45, .getfield 56, 3, 5, 8, 2),
  (48, .getfield 188, 3, 0, 2, 1), (51, .iload_n 1, 1, 0, 0, 0), (52, .iaload, 1, 0, 0, 0), (53, .ireturn, 1, 0, 0, 0)]
def ct_X5_even : List Nat := []
def cd_X5_swaps : List nl_E := [(0, .aload_n 0, 1, 0, 0, 0), (1, .getfield 56, 3, 5, 8, 2), (4, .aload_n 0, 1, 0, 0, 0), (5, .getfield 27, 3, 5, 3, 130), (8, .invokevirtual 182, 3, 0, 1, 0), (11, .aload_n 0, 1, 0, 0, 0),
  (12, .getfield 56, 3, 5, 8, 2), (15, .getfield 185, 3, 0, 5, 0), (18, .ifCond .le 6, 3, 24, 0, 0), (21, .bipush (-4), 2, 0, 0, 0), (23, .ireturn, 1, 0, 0, 0), (24, .aload_n 0, 1, 0, 0, 0),
  (25, .getfield 56, 3, 5, 8, 2), (28, .aload_n 0, 1, 0, 0, 0), (29, .getfield 27, 3, 5, 3, 130), (32, .invokevirtual 191, 3, 6, 1, 1), (35, .ireturn, 1, 0, 0, 0)]
def ct_X5_swaps : List Nat := []
def cd_X5_far : List nl_E := [(0, .iload_n 1, 1, 0, 0, 0), (1, .iconst 0, 1, 0, 0, 0), (2, .iconst 1, 1, 0, 0, 0), (3, .invokestatic 82, 3, 71, 3, 1), (6, .ifCond .ne 5, 3, 11, 0, 0), (9, .iconst (-1), 1, 0, 0, 0),
  (10, .ireturn, 1, 0, 0, 0), (11, .iload_n 1, 1, 0, 0, 0), (12, .ifCond .ne 13, 3, 25, 0, 0), (15, .aload_n 0, 1, 0, 0, 0), (16, .getfield 27, 3, 5, 3, 130), (19, .invokevirtual 195, 3, 39, 0, 17),
  (22, .goto 10, 3, 32, 0, 0), (25, .aload_n 0, 1, 0, 0, 0), (26, .getfield 27, 3, 5, 3, 130), (29, .invokevirtual 198, 3, 40, 0, 17), (32, .ireturn, 1, 0, 0, 0)]
def ct_X5_far : List Nat := []
def cd_X5_lamps : List nl_E := [(0, .iload_n 1, 1, 0, 0, 0), (1, .iconst 1, 1, 0, 0, 0), (2, .bipush 40, 2, 0, 0, 0), (4, .invokestatic 82, 3, 71, 3, 1), (7, .ifCond .eq 12, 3, 19, 0, 0), (10, .iload_n 2, 1, 0, 0, 0),
  (11, .iconst 0, 1, 0, 0, 0), (12, .iconst 1, 1, 0, 0, 0), (13, .invokestatic 82, 3, 71, 3, 1), (16, .ifCond .ne 5, 3, 21, 0, 0), (19, .iconst (-1), 1, 0, 0, 0), (20, .ireturn, 1, 0, 0, 0),
  (21, .iconst 0, 1, 0, 0, 0), (22, .istore_n 3, 1, 0, 0, 0), (23, .iconst 0, 1, 0, 0, 0), (24, .istore 4, 2, 0, 0, 0), (26, .iload 4, 2, 0, 0, 0), (28, .aload_n 0, 1, 0, 0, 0),
  (29, .getfield 27, 3, 5, 3, 130), (32, .getfield 105, 3, 4, 0, 0), (35, .if_icmp .ge 72, 3, 107, 0, 0), (38, .aload_n 0, 1, 0, 0, 0), (39, .getfield 31, 3, 5, 4, 131), (42, .aload_n 0, 1, 0, 0, 0),
  (43, .getfield 27, 3, 5, 3, 130), (46, .invokevirtual 173, 3, 24, 1, 16), (49, .aload_n 0, 1, 0, 0, 0), (50, .iload 4, 2, 0, 0, 0), (52, .iload_n 1, 1, 0, 0, 0), (53, .invokevirtual 179, 3, 74, 2, 21),
  (56, .iconst (-1), 1, 0, 0, 0), (57, .if_icmp .eq 44, 3, 101, 0, 0), (60, .aload_n 0, 1, 0, 0, 0), (61, .getfield 31, 3, 5, 4, 131), (64, .aload_n 0, 1, 0, 0, 0), (65, .getfield 27, 3, 5, 3, 130),
  (68, .invokevirtual 173, 3, 24, 1, 16), (71, .aload_n 0, 1, 0, 0, 0), (72, .getfield 31, 3, 5, 4, 131), (75, .iload 4, 2, 0, 0, 0), (77, .invokevirtual 160, 3, 36, 1, 16), (80, .aload_n 0, 1, 0, 0, 0),
  (81, .iload 4, 2, 0, 0, 0), (83, .iload_n 1, 1, 0, 0, 0), (84, .invokevirtual 179, 3, 74, 2, 21), (87, .iconst (-1), 1, 0, 0, 0), (88, .if_icmp .eq 6, 3, 94, 0, 0), (91, .bipush (-4), 2, 0, 0, 0),
  (93, .ireturn, 1, 0, 0, 0), (94, .iload_n 3, 1, 0, 0, 0), (95, .iconst 1, 1, 0, 0, 0), (96, .iload 4, 2, 0, 0, 0), (98, .ishl, 1, 0, 0, 0), (99, .ior, 1, 0, 0, 0),
  (100, .istore_n 3, 1, 0, 0, 0), (101, .iinc 4 1, 3, 0, 0, 0), (104, .goto (-78), 3, 26, 0, 0), (107, .iload_n 2, 1, 0, 0, 0), (108, .ifCond .ne 10, 3, 118, 0, 0), (111, .iload_n 3, 1, 0, 0, 0),
  (112, .invokestatic 201, 3, 142, 1, 1), (115, .goto 4, 3, 119, 0, 0), (118, .iload_n 3, 1, 0, 0, 0), (119, .ireturn, 1, 0, 0, 0)]
def ct_X5_lamps : List Nat := [26]
def cd_X5_seen : List nl_E := [(0, .iload_n 1, 1, 0, 0, 0), (1, .iconst 0, 1, 0, 0, 0), (2, .bipush 20, 2, 0, 0, 0), (4, .invokestatic 82, 3, 71, 3, 1), (7, .ifCond .eq 23, 3, 30, 0, 0), (10, .aload_n 0, 1, 0, 0, 0),
  (11, .getfield 27, 3, 5, 3, 130), (14, .iload_n 2, 1, 0, 0, 0), (15, .invokevirtual 130, 3, 26, 1, 17), (18, .ifCond .eq 12, 3, 30, 0, 0), (21, .iload_n 3, 1, 0, 0, 0), (22, .iconst 0, 1, 0, 0, 0),
  (23, .iconst 1, 1, 0, 0, 0), (24, .invokestatic 82, 3, 71, 3, 1), (27, .ifCond .ne 5, 3, 32, 0, 0), (30, .iconst (-1), 1, 0, 0, 0), (31, .ireturn, 1, 0, 0, 0), (32, .aload_n 0, 1, 0, 0, 0),
  (33, .getfield 49, 3, 5, 7, 98), (36, .getfield 206, 3, 3, 3, 0), (39, .bipush 6, 2, 0, 0, 0), (41, .if_icmp .lt 6, 3, 47, 0, 0), (44, .bipush (-3), 2, 0, 0, 0), (46, .ireturn, 1, 0, 0, 0),
  (47, .aload_n 0, 1, 0, 0, 0), (48, .getfield 49, 3, 5, 7, 98), (51, .iload_n 1, 1, 0, 0, 0), (52, .iload_n 2, 1, 0, 0, 0), (53, .iload_n 3, 1, 0, 0, 0), (54, .iconst 1, 1, 0, 0, 0),
  (55, .if_icmp .ne 7, 3, 62, 0, 0), (58, .iconst 1, 1, 0, 0, 0), (59, .goto 4, 3, 63, 0, 0), (62, .iconst 0, 1, 0, 0, 0), (63, .invokevirtual 207, 3, 20, 3, 12), (66, .aload_n 0, 1, 0, 0, 0),
  (67, .getfield 49, 3, 5, 7, 98), (70, .getfield 206, 3, 3, 3, 0), (73, .ireturn, 1, 0, 0, 0)]
def ct_X5_seen : List Nat := []
def cd_X5_forget : List nl_E := [(0, .aload_n 0, 1, 0, 0, 0), (1, .getfield 49, 3, 5, 7, 98), (4, .getfield 206, 3, 3, 3, 0), (7, .istore_n 1, 1, 0, 0, 0), (8, .aload_n 0, 1, 0, 0, 0), (9, .getfield 49, 3, 5, 7, 98),
  (12, .invokevirtual 104, 3, 19, 0, 12), (15, .iload_n 1, 1, 0, 0, 0), (16, .ireturn, 1, 0, 0, 0)]
def ct_X5_forget : List Nat := []
def cd_X5_kinds : List nl_E := [(0, .aload_n 0, 1, 0, 0, 0), (1, .getfield 27, 3, 5, 3, 130), (4, .iload_n 1, 1, 0, 0, 0), (5, .invokevirtual 108, 3, 25, 1, 17), (8, .ifCond .ne 5, 3, 13, 0, 0), (11, .iconst (-1), 1, 0, 0, 0),
  (12, .ireturn, 1, 0, 0, 0), (13, .iconst 0, 1, 0, 0, 0), (14, .istore_n 2, 1, 0, 0, 0), (15, .iconst 0, 1, 0, 0, 0), (16, .istore_n 3, 1, 0, 0, 0), (17, .iload_n 3, 1, 0, 0, 0),
  (18, .iconst 3, 1, 0, 0, 0), (19, .if_icmp .gt 33, 3, 52, 0, 0), (22, .aload_n 0, 1, 0, 0, 0), (23, .iload_n 1, 1, 0, 0, 0), (24, .iload_n 3, 1, 0, 0, 0), (25, .aload_n 0, 1, 0, 0, 0),
  (26, .getfield 27, 3, 5, 3, 130), (29, .getfield 115, 3, 4, 5, 1), (32, .iload_n 1, 1, 0, 0, 0), (33, .iaload, 1, 0, 0, 0), (34, .invokevirtual 211, 3, 75, 3, 21), (37, .ifCond .eq 9, 3, 46, 0, 0),
  (40, .iload_n 2, 1, 0, 0, 0), (41, .iconst 1, 1, 0, 0, 0), (42, .iload_n 3, 1, 0, 0, 0), (43, .ishl, 1, 0, 0, 0), (44, .ior, 1, 0, 0, 0), (45, .istore_n 2, 1, 0, 0, 0),
  (46, .iinc 3 1, 3, 0, 0, 0), (49, .goto (-32), 3, 17, 0, 0), (52, .iload_n 2, 1, 0, 0, 0), (53, .ireturn, 1, 0, 0, 0)]
def ct_X5_kinds : List Nat := [17]
def cd_X5_strengths : List nl_E := [(0, .aload_n 0, 1, 0, 0, 0), (1, .getfield 27, 3, 5, 3, 130), (4, .iload_n 1, 1, 0, 0, 0), (5, .invokevirtual 108, 3, 25, 1, 17), (8, .ifCond .eq 12, 3, 20, 0, 0), (11, .iload_n 2, 1, 0, 0, 0),
  (12, .iconst 0, 1, 0, 0, 0), (13, .iconst 1, 1, 0, 0, 0), (14, .invokestatic 82, 3, 71, 3, 1), (17, .ifCond .ne 5, 3, 22, 0, 0), (20, .iconst (-1), 1, 0, 0, 0), (21, .ireturn, 1, 0, 0, 0),
  (22, .iconst 0, 1, 0, 0, 0), (23, .istore_n 3, 1, 0, 0, 0), (24, .bipush (-4), 2, 0, 0, 0), (26, .istore 4, 2, 0, 0, 0), (28, .bipush 40, 2, 0, 0, 0), (30, .istore 5, 2, 0, 0, 0),
  (32, .iload 5, 2, 0, 0, 0), (34, .ifCond .lt 35, 3, 69, 0, 0), (37, .aload_n 0, 1, 0, 0, 0), (38, .iload_n 1, 1, 0, 0, 0), (39, .aload_n 0, 1, 0, 0, 0), (40, .getfield 27, 3, 5, 3, 130),
  (43, .getfield 112, 3, 4, 4, 1), (46, .iload_n 1, 1, 0, 0, 0), (47, .iaload, 1, 0, 0, 0), (48, .iload 5, 2, 0, 0, 0), (50, .invokevirtual 211, 3, 75, 3, 21), (53, .ifCond .eq 10, 3, 63, 0, 0),
  (56, .iinc 3 1, 3, 0, 0, 0), (59, .iload 5, 2, 0, 0, 0), (61, .istore 4, 2, 0, 0, 0), (63, .iinc 5 (-1), 3, 0, 0, 0), (66, .goto (-34), 3, 32, 0, 0), (69, .iload_n 2, 1, 0, 0, 0),
  (70, .ifCond .ne 7, 3, 77, 0, 0), (73, .iload_n 3, 1, 0, 0, 0), (74, .goto 5, 3, 79, 0, 0), (77, .iload 4, 2, 0, 0, 0), (79, .ireturn, 1, 0, 0, 0)]
def ct_X5_strengths : List Nat := [32]
def cd_X5_likely : List nl_E := [(0, .aload_n 0, 1, 0, 0, 0), (1, .getfield 27, 3, 5, 3, 130), (4, .iload_n 1, 1, 0, 0, 0), (5, .invokevirtual 108, 3, 25, 1, 17), (8, .ifCond .eq 22, 3, 30, 0, 0), (11, .iload_n 2, 1, 0, 0, 0),
  (12, .iconst 0, 1, 0, 0, 0), (13, .bipush 9, 2, 0, 0, 0), (15, .invokestatic 82, 3, 71, 3, 1), (18, .ifCond .eq 12, 3, 30, 0, 0), (21, .iload_n 3, 1, 0, 0, 0), (22, .iconst 0, 1, 0, 0, 0),
  (23, .iconst 1, 1, 0, 0, 0), (24, .invokestatic 82, 3, 71, 3, 1), (27, .ifCond .ne 5, 3, 32, 0, 0), (30, .iconst (-1), 1, 0, 0, 0), (31, .ireturn, 1, 0, 0, 0), (32, .aload_n 0, 1, 0, 0, 0),
  (33, .getfield 27, 3, 5, 3, 130), (36, .getfield 121, 3, 4, 7, 1), (39, .iload_n 1, 1, 0, 0, 0), (40, .iaload, 1, 0, 0, 0), (41, .istore 4, 2, 0, 0, 0), (43, .iload 4, 2, 0, 0, 0),
  (45, .iload_n 2, 1, 0, 0, 0), (46, .iadd, 1, 0, 0, 0), (47, .bipush 40, 2, 0, 0, 0), (49, .invokestatic 214, 3, 0, 0, 4), (52, .istore 5, 2, 0, 0, 0), (54, .iconst 0, 1, 0, 0, 0),
  (55, .istore 6, 2, 0, 0, 0), (57, .iconst 0, 1, 0, 0, 0), (58, .istore 7, 2, 0, 0, 0), (60, .iload 7, 2, 0, 0, 0), (62, .aload_n 0, 1, 0, 0, 0), (63, .getfield 27, 3, 5, 3, 130),
  (66, .getfield 105, 3, 4, 0, 0), (69, .if_icmp .ge 62, 3, 131, 0, 0), (72, .iload 6, 2, 0, 0, 0), (74, .aload_n 0, 1, 0, 0, 0), (75, .getfield 27, 3, 5, 3, 130), (78, .iload_n 1, 1, 0, 0, 0),
  (79, .iload 7, 2, 0, 0, 0), (81, .iload 4, 2, 0, 0, 0), (83, .invokevirtual 219, 3, 31, 3, 17), (86, .ifCond .eq 10, 3, 96, 0, 0), (89, .bipush 10, 2, 0, 0, 0), (91, .iload_n 2, 1, 0, 0, 0),
  (92, .isub, 1, 0, 0, 0), (93, .goto 4, 3, 97, 0, 0), (96, .iconst 0, 1, 0, 0, 0), (97, .iadd, 1, 0, 0, 0), (98, .istore 6, 2, 0, 0, 0), (100, .iload 6, 2, 0, 0, 0),
  (102, .aload_n 0, 1, 0, 0, 0), (103, .getfield 27, 3, 5, 3, 130), (106, .iload_n 1, 1, 0, 0, 0), (107, .iload 7, 2, 0, 0, 0), (109, .iload 5, 2, 0, 0, 0), (111, .invokevirtual 219, 3, 31, 3, 17),
  (114, .ifCond .eq 7, 3, 121, 0, 0), (117, .iload_n 2, 1, 0, 0, 0), (118, .goto 4, 3, 122, 0, 0), (121, .iconst 0, 1, 0, 0, 0), (122, .iadd, 1, 0, 0, 0), (123, .istore 6, 2, 0, 0, 0),
  (125, .iinc 7 1, 3, 0, 0, 0), (128, .goto (-68), 3, 60, 0, 0), (131, .bipush 10, 2, 0, 0, 0), (133, .aload_n 0, 1, 0, 0, 0), (134, .getfield 27, 3, 5, 3, 130), (137, .getfield 105, 3, 4, 0, 0),
  (140, .imul, 1, 0, 0, 0), (141, .istore 7, 2, 0, 0, 0), (143, .iload 6, 2, 0, 0, 0), (145, .iload 7, 2, 0, 0, 0), (147, .invokestatic 222, 3, 72, 2, 1), (150, .istore 8, 2, 0, 0, 0),
  (152, .iload_n 3, 1, 0, 0, 0), (153, .ifCond .ne 11, 3, 164, 0, 0), (156, .iload 6, 2, 0, 0, 0), (158, .iload 8, 2, 0, 0, 0), (160, .idiv, 1, 0, 0, 0), (161, .goto 8, 3, 169, 0, 0),
  (164, .iload 7, 2, 0, 0, 0), (166, .iload 8, 2, 0, 0, 0), (168, .idiv, 1, 0, 0, 0), (169, .ireturn, 1, 0, 0, 0)]
def ct_X5_likely : List Nat := [60]
def cd_X5_winter : List nl_E := [(0, .iload_n 1, 1, 0, 0, 0), (1, .iconst 0, 1, 0, 0, 0), (2, .sipush 9999, 3, 0, 0, 0), (5, .invokestatic 82, 3, 71, 3, 1), (8, .ifCond .eq 22, 3, 30, 0, 0), (11, .iload_n 2, 1, 0, 0, 0),
  (12, .iconst 1, 1, 0, 0, 0), (13, .bipush 60, 2, 0, 0, 0), (15, .invokestatic 82, 3, 71, 3, 1), (18, .ifCond .eq 12, 3, 30, 0, 0), (21, .iload_n 3, 1, 0, 0, 0), (22, .iconst 0, 1, 0, 0, 0),
  (23, .iconst 2, 1, 0, 0, 0), (24, .invokestatic 82, 3, 71, 3, 1), (27, .ifCond .ne 5, 3, 32, 0, 0), (30, .iconst (-1), 1, 0, 0, 0), (31, .ireturn, 1, 0, 0, 0), (32, .aload_n 0, 1, 0, 0, 0),
  (33, .getfield 31, 3, 5, 4, 131), (36, .aload_n 0, 1, 0, 0, 0), (37, .getfield 27, 3, 5, 3, 130), (40, .invokevirtual 173, 3, 24, 1, 16), (43, .iconst 0, 1, 0, 0, 0), (44, .istore 4, 2, 0, 0, 0),
  (46, .iconst 0, 1, 0, 0, 0), (47, .istore 5, 2, 0, 0, 0), (49, .iload 5, 2, 0, 0, 0), (51, .iload_n 2, 1, 0, 0, 0), (52, .if_icmp .ge 35, 3, 87, 0, 0), (55, .aload_n 0, 1, 0, 0, 0),
  (56, .getfield 31, 3, 5, 4, 131), (59, .iload_n 1, 1, 0, 0, 0), (60, .iload 5, 2, 0, 0, 0), (62, .invokestatic 225, 3, 73, 2, 1), (65, .invokevirtual 228, 3, 41, 1, 16), (68, .iload 4, 2, 0, 0, 0),
  (70, .aload_n 0, 1, 0, 0, 0), (71, .getfield 31, 3, 5, 4, 131), (74, .iconst 1, 1, 0, 0, 0), (75, .invokevirtual 153, 3, 34, 1, 17), (78, .iadd, 1, 0, 0, 0), (79, .istore 4, 2, 0, 0, 0),
  (81, .iinc 5 1, 3, 0, 0, 0), (84, .goto (-35), 3, 49, 0, 0), (87, .iload_n 3, 1, 0, 0, 0), (88, .ifCond .ne 6, 3, 94, 0, 0), (91, .iload 4, 2, 0, 0, 0), (93, .ireturn, 1, 0, 0, 0),
  (94, .iload_n 3, 1, 0, 0, 0), (95, .iconst 1, 1, 0, 0, 0), (96, .if_icmp .ne 13, 3, 109, 0, 0), (99, .aload_n 0, 1, 0, 0, 0), (100, .getfield 31, 3, 5, 4, 131), (103, .invokevirtual 231, 3, 38, 0, 17),
  (106, .goto 12, 3, 118, 0, 0), (109, .aload_n 0, 1, 0, 0, 0), (110, .getfield 31, 3, 5, 4, 131), (113, .getfield 124, 3, 4, 8, 1), (116, .iconst 0, 1, 0, 0, 0), (117, .iaload, 1, 0, 0, 0),
  (118, .ireturn, 1, 0, 0, 0)]
def ct_X5_winter : List Nat := [49]
def cd_X5_keep : List nl_E := [(0, .aload_n 0, 1, 0, 0, 0), (1, .getfield 43, 3, 5, 6, 67), (4, .getfield 170, 3, 2, 1, 0), (7, .iconst 2, 1, 0, 0, 0), (8, .if_icmp .lt 6, 3, 14, 0, 0), (11, .bipush (-3), 2, 0, 0, 0),
  (13, .ireturn, 1, 0, 0, 0), (14, .aload_n 0, 1, 0, 0, 0), (15, .getfield 43, 3, 5, 6, 67), (18, .aload_n 0, 1, 0, 0, 0), (19, .getfield 27, 3, 5, 3, 130), (22, .invokevirtual 149, 3, 16, 1, 8),
  (25, .aload_n 0, 1, 0, 0, 0), (26, .getfield 43, 3, 5, 6, 67), (29, .getfield 170, 3, 2, 1, 0), (32, .ireturn, 1, 0, 0, 0)]
def ct_X5_keep : List Nat := []
def cd_X5_back : List nl_E := [(0, .aload_n 0, 1, 0, 0, 0), (1, .getfield 43, 3, 5, 6, 67), (4, .aload_n 0, 1, 0, 0, 0), (5, .getfield 27, 3, 5, 3, 130), (8, .invokevirtual 166, 3, 18, 1, 9), (11, .ifCond .ne 6, 3, 17, 0, 0),
  (14, .bipush (-2), 2, 0, 0, 0), (16, .ireturn, 1, 0, 0, 0), (17, .aload_n 0, 1, 0, 0, 0), (18, .getfield 39, 3, 5, 5, 66), (21, .invokevirtual 101, 3, 15, 0, 8), (24, .aload_n 0, 1, 0, 0, 0),
  (25, .getfield 43, 3, 5, 6, 67), (28, .getfield 170, 3, 2, 1, 0), (31, .ireturn, 1, 0, 0, 0)]
def ct_X5_back : List Nat := []
def cd_X5_count : List nl_E := [(0, .iload_n 1, 1, 0, 0, 0), (1, .tableswitch 108 0 7 #[47, 55, 63, 71, 79, 87, 95, 103], 47, 109, 122892308186283141816368, 8), (48, .aload_n 0, 1, 0, 0, 0), (49, .getfield 27, 3, 5, 3, 130), (52, .getfield 105, 3, 4, 0, 0), (55, .ireturn, 1, 0, 0, 0),
  (56, .aload_n 0, 1, 0, 0, 0), (57, .getfield 27, 3, 5, 3, 130), (60, .getfield 146, 3, 4, 1, 0), (63, .ireturn, 1, 0, 0, 0), (64, .aload_n 0, 1, 0, 0, 0), (65, .getfield 27, 3, 5, 3, 130),
  (68, .getfield 234, 3, 4, 2, 0), (71, .ireturn, 1, 0, 0, 0), (72, .aload_n 0, 1, 0, 0, 0), (73, .getfield 27, 3, 5, 3, 130), (76, .invokevirtual 231, 3, 38, 0, 17), (79, .ireturn, 1, 0, 0, 0),
  (80, .aload_n 0, 1, 0, 0, 0), (81, .getfield 49, 3, 5, 7, 98), (84, .getfield 206, 3, 3, 3, 0), (87, .ireturn, 1, 0, 0, 0), (88, .aload_n 0, 1, 0, 0, 0), (89, .getfield 39, 3, 5, 5, 66),
  (92, .getfield 170, 3, 2, 1, 0), (95, .ireturn, 1, 0, 0, 0), (96, .aload_n 0, 1, 0, 0, 0), (97, .getfield 43, 3, 5, 6, 67), (100, .getfield 170, 3, 2, 1, 0), (103, .ireturn, 1, 0, 0, 0),
  (104, .aload_n 0, 1, 0, 0, 0), (105, .getfield 13, 3, 5, 1, 0), (108, .ireturn, 1, 0, 0, 0), (109, .iconst (-1), 1, 0, 0, 0), (110, .ireturn, 1, 0, 0, 0)]
def ct_X5_count : List Nat := []
def cd_X5_isWithin : List nl_E := [(0, .iload_n 0, 1, 0, 0, 0), (1, .iload_n 1, 1, 0, 0, 0), (2, .if_icmp .lt 12, 3, 14, 0, 0), (5, .iload_n 0, 1, 0, 0, 0), (6, .iload_n 2, 1, 0, 0, 0), (7, .if_icmp .gt 7, 3, 14, 0, 0),
  (10, .iconst 1, 1, 0, 0, 0), (11, .goto 4, 3, 15, 0, 0), (14, .iconst 0, 1, 0, 0, 0), (15, .ireturn, 1, 0, 0, 0)]
def ct_X5_isWithin : List Nat := []
def cd_X5_largestDivisor : List nl_E := [(0, .iload_n 1, 1, 0, 0, 0), (1, .istore_n 2, 1, 0, 0, 0), (2, .iload_n 2, 1, 0, 0, 0), (3, .iconst 1, 1, 0, 0, 0), (4, .if_icmp .le 23, 3, 27, 0, 0), (7, .iload_n 0, 1, 0, 0, 0),
  (8, .iload_n 2, 1, 0, 0, 0), (9, .irem, 1, 0, 0, 0), (10, .ifCond .ne 11, 3, 21, 0, 0), (13, .iload_n 1, 1, 0, 0, 0), (14, .iload_n 2, 1, 0, 0, 0), (15, .irem, 1, 0, 0, 0),
  (16, .ifCond .ne 5, 3, 21, 0, 0), (19, .iload_n 2, 1, 0, 0, 0), (20, .ireturn, 1, 0, 0, 0), (21, .iinc 2 (-1), 3, 0, 0, 0), (24, .goto (-22), 3, 2, 0, 0), (27, .iconst 1, 1, 0, 0, 0),
  (28, .ireturn, 1, 0, 0, 0)]
def ct_X5_largestDivisor : List Nat := [2]
def cd_X5_drawFor : List nl_E := [(0, .ldc2_w 237, 3, 7919, 0, 0), (3, .iload_n 0, 1, 0, 0, 0), (4, .i2l, 1, 0, 0, 0), (5, .lmul, 1, 0, 0, 0), (6, .ldc2_w 239, 3, 6151, 0, 0), (9, .iload_n 1, 1, 0, 0, 0),
  (10, .i2l, 1, 0, 0, 0), (11, .lmul, 1, 0, 0, 0), (12, .ladd, 1, 0, 0, 0), (13, .lconst 1, 1, 0, 0, 0), (14, .ladd, 1, 0, 0, 0), (15, .lstore_n 2, 1, 0, 0, 0),
  (16, .lload_n 2, 1, 0, 0, 0), (17, .lload_n 2, 1, 0, 0, 0), (18, .lmul, 1, 0, 0, 0), (19, .ldc2_w 241, 3, 65521, 0, 0), (22, .lrem, 1, 0, 0, 0), (23, .ldc2_w 243, 3, 2, 0, 0),
  (26, .ldiv, 1, 0, 0, 0), (27, .l2i, 1, 0, 0, 0), (28, .ireturn, 1, 0, 0, 0)]
def ct_X5_drawFor : List Nat := []
def cd_X5_nextMissAhead : List nl_E := [(0, .iconst 1, 1, 0, 0, 0), (1, .istore_n 3, 1, 0, 0, 0), (2, .iload_n 3, 1, 0, 0, 0), (3, .iload_n 2, 1, 0, 0, 0), (4, .if_icmp .gt 22, 3, 26, 0, 0), (7, .aload_n 0, 1, 0, 0, 0),
  (8, .getfield 31, 3, 5, 4, 131), (11, .iload_n 1, 1, 0, 0, 0), (12, .invokevirtual 245, 3, 33, 1, 17), (15, .ifCond .ne 5, 3, 20, 0, 0), (18, .iload_n 3, 1, 0, 0, 0), (19, .ireturn, 1, 0, 0, 0),
  (20, .iinc 3 1, 3, 0, 0, 0), (23, .goto (-21), 3, 2, 0, 0), (26, .iconst (-1), 1, 0, 0, 0), (27, .ireturn, 1, 0, 0, 0)]
def ct_X5_nextMissAhead : List Nat := [2]
def cd_X5_fitsAllSeen : List nl_E := [(0, .aload_n 0, 1, 0, 0, 0), (1, .getfield 31, 3, 5, 4, 131), (4, .aload_n 0, 1, 0, 0, 0), (5, .getfield 27, 3, 5, 3, 130), (8, .invokevirtual 173, 3, 24, 1, 16), (11, .aload_n 0, 1, 0, 0, 0),
  (12, .getfield 31, 3, 5, 4, 131), (15, .getfield 112, 3, 4, 4, 1), (18, .iload_n 1, 1, 0, 0, 0), (19, .iload_n 2, 1, 0, 0, 0), (20, .iastore, 1, 0, 0, 0), (21, .aload_n 0, 1, 0, 0, 0),
  (22, .getfield 31, 3, 5, 4, 131), (25, .getfield 115, 3, 4, 5, 1), (28, .iload_n 1, 1, 0, 0, 0), (29, .iload_n 3, 1, 0, 0, 0), (30, .iastore, 1, 0, 0, 0), (31, .aload_n 0, 1, 0, 0, 0),
  (32, .getfield 49, 3, 5, 7, 98), (35, .invokevirtual 248, 3, 21, 0, 13), (38, .istore 4, 2, 0, 0, 0), (40, .iconst 0, 1, 0, 0, 0), (41, .istore 5, 2, 0, 0, 0), (43, .iload 5, 2, 0, 0, 0),
  (45, .iload 4, 2, 0, 0, 0), (47, .if_icmp .gt 36, 3, 83, 0, 0), (50, .aload_n 0, 1, 0, 0, 0), (51, .getfield 49, 3, 5, 7, 98), (54, .aload_n 0, 1, 0, 0, 0), (55, .getfield 31, 3, 5, 4, 131),
  (58, .iload 5, 2, 0, 0, 0), (60, .invokevirtual 251, 3, 22, 2, 13), (63, .ifCond .ne 5, 3, 68, 0, 0), (66, .iconst 0, 1, 0, 0, 0), (67, .ireturn, 1, 0, 0, 0), (68, .aload_n 0, 1, 0, 0, 0),
  (69, .getfield 31, 3, 5, 4, 131), (72, .iconst 1, 1, 0, 0, 0), (73, .invokevirtual 153, 3, 34, 1, 17), (76, .pop, 1, 0, 0, 0), (77, .iinc 5 1, 3, 0, 0, 0), (80, .goto (-37), 3, 43, 0, 0),
  (83, .iconst 1, 1, 0, 0, 0), (84, .ireturn, 1, 0, 0, 0)]
def ct_X5_fitsAllSeen : List Nat := [43]
def cd_X6_in : List nl_E := [(0, .iload_n 0, 1, 0, 0, 0), (1, .iload_n 1, 1, 0, 0, 0), (2, .if_icmp .lt 12, 3, 14, 0, 0), (5, .iload_n 0, 1, 0, 0, 0), (6, .iload_n 2, 1, 0, 0, 0), (7, .if_icmp .gt 7, 3, 14, 0, 0),
  (10, .iconst 1, 1, 0, 0, 0), (11, .goto 4, 3, 15, 0, 0), (14, .iconst 0, 1, 0, 0, 0), (15, .ireturn, 1, 0, 0, 0)]
def ct_X6_in : List Nat := []
def cd_X6_has : List nl_E := [(0, .iload_n 0, 1, 0, 0, 0), (1, .iload_n 1, 1, 0, 0, 0), (2, .ishr, 1, 0, 0, 0), (3, .iconst 1, 1, 0, 0, 0), (4, .iand, 1, 0, 0, 0), (5, .iconst 1, 1, 0, 0, 0),
  (6, .if_icmp .ne 7, 3, 13, 0, 0), (9, .iconst 1, 1, 0, 0, 0), (10, .goto 4, 3, 14, 0, 0), (13, .iconst 0, 1, 0, 0, 0), (14, .ireturn, 1, 0, 0, 0)]
def ct_X6_has : List Nat := []
def cd_X6_bits : List nl_E := [(0, .iconst 0, 1, 0, 0, 0), (1, .istore_n 1, 1, 0, 0, 0), (2, .iconst 0, 1, 0, 0, 0), (3, .istore_n 2, 1, 0, 0, 0), (4, .iload_n 2, 1, 0, 0, 0), (5, .bipush 7, 2, 0, 0, 0),
  (7, .if_icmp .ge 17, 3, 24, 0, 0), (10, .iload_n 1, 1, 0, 0, 0), (11, .iload_n 0, 1, 0, 0, 0), (12, .iload_n 2, 1, 0, 0, 0), (13, .ishr, 1, 0, 0, 0), (14, .iconst 1, 1, 0, 0, 0),
  (15, .iand, 1, 0, 0, 0), (16, .iadd, 1, 0, 0, 0), (17, .istore_n 1, 1, 0, 0, 0), (18, .iinc 2 1, 3, 0, 0, 0), (21, .goto (-17), 3, 4, 0, 0), (24, .iload_n 1, 1, 0, 0, 0),
  (25, .ireturn, 1, 0, 0, 0)]
def ct_X6_bits : List Nat := [4]
def cd_X6_lesser : List nl_E := [(0, .iload_n 0, 1, 0, 0, 0), (1, .iload_n 1, 1, 0, 0, 0), (2, .if_icmp .ge 7, 3, 9, 0, 0), (5, .iload_n 0, 1, 0, 0, 0), (6, .goto 4, 3, 10, 0, 0), (9, .iload_n 1, 1, 0, 0, 0),
  (10, .ireturn, 1, 0, 0, 0)]
def ct_X6_lesser : List Nat := []
def cd_X6_greater : List nl_E := [(0, .iload_n 0, 1, 0, 0, 0), (1, .iload_n 1, 1, 0, 0, 0), (2, .if_icmp .le 7, 3, 9, 0, 0), (5, .iload_n 0, 1, 0, 0, 0), (6, .goto 4, 3, 10, 0, 0), (9, .iload_n 1, 1, 0, 0, 0),
  (10, .ireturn, 1, 0, 0, 0)]
def ct_X6_greater : List Nat := []
def cd_X6_firstHouse : List nl_E := [(0, .aload_n 0, 1, 0, 0, 0), (1, .getfield 9, 3, 6, 1, 1), (4, .aload_n 0, 1, 0, 0, 0), (5, .getfield 74, 3, 6, 0, 0), (8, .iload_n 1, 1, 0, 0, 0), (9, .iastore, 1, 0, 0, 0),
  (10, .aload_n 0, 1, 0, 0, 0), (11, .getfield 13, 3, 6, 2, 1), (14, .aload_n 0, 1, 0, 0, 0), (15, .getfield 74, 3, 6, 0, 0), (18, .iload_n 2, 1, 0, 0, 0), (19, .iastore, 1, 0, 0, 0),
  (20, .aload_n 0, 1, 0, 0, 0), (21, .getfield 16, 3, 6, 3, 1), (24, .aload_n 0, 1, 0, 0, 0), (25, .getfield 74, 3, 6, 0, 0), (28, .iload_n 3, 1, 0, 0, 0), (29, .iastore, 1, 0, 0, 0),
  (30, .aload_n 0, 1, 0, 0, 0), (31, .getfield 31, 3, 6, 10, 1), (34, .aload_n 0, 1, 0, 0, 0), (35, .getfield 74, 3, 6, 0, 0), (38, .iload 4, 2, 0, 0, 0), (40, .iastore, 1, 0, 0, 0),
  (41, .aload_n 0, 1, 0, 0, 0), (42, .dup, 1, 0, 0, 0), (43, .getfield 74, 3, 6, 0, 0), (46, .iconst 1, 1, 0, 0, 0), (47, .iadd, 1, 0, 0, 0), (48, .putfield 74, 3, 6, 0, 0),
  (51, .return_, 1, 0, 0, 0)]
def ct_X6_firstHouse : List Nat := []
def cd_X6_begin : List nl_E := [(0, .aload_n 0, 1, 0, 0, 0), (1, .iconst 0, 1, 0, 0, 0), (2, .putfield 78, 3, 6, 4, 0), (5, .aload_n 0, 1, 0, 0, 0), (6, .iconst 0, 1, 0, 0, 0), (7, .putfield 81, 3, 6, 5, 0),
  (10, .iconst 0, 1, 0, 0, 0), (11, .istore_n 1, 1, 0, 0, 0), (12, .iload_n 1, 1, 0, 0, 0), (13, .bipush 7, 2, 0, 0, 0), (15, .if_icmp .ge 30, 3, 45, 0, 0), (18, .aload_n 0, 1, 0, 0, 0),
  (19, .getfield 19, 3, 6, 6, 1), (22, .iload_n 1, 1, 0, 0, 0), (23, .iload_n 1, 1, 0, 0, 0), (24, .iastore, 1, 0, 0, 0), (25, .aload_n 0, 1, 0, 0, 0), (26, .getfield 22, 3, 6, 7, 1),
  (29, .iload_n 1, 1, 0, 0, 0), (30, .iconst 0, 1, 0, 0, 0), (31, .iastore, 1, 0, 0, 0), (32, .aload_n 0, 1, 0, 0, 0), (33, .getfield 25, 3, 6, 8, 1), (36, .iload_n 1, 1, 0, 0, 0),
  (37, .iconst 0, 1, 0, 0, 0), (38, .iastore, 1, 0, 0, 0), (39, .iinc 1 1, 3, 0, 0, 0), (42, .goto (-30), 3, 12, 0, 0), (45, .iconst 0, 1, 0, 0, 0), (46, .istore_n 1, 1, 0, 0, 0),
  (47, .iload_n 1, 1, 0, 0, 0), (48, .bipush 49, 2, 0, 0, 0), (50, .if_icmp .ge 16, 3, 66, 0, 0), (53, .aload_n 0, 1, 0, 0, 0), (54, .getfield 28, 3, 6, 9, 1), (57, .iload_n 1, 1, 0, 0, 0),
  (58, .iconst 0, 1, 0, 0, 0), (59, .iastore, 1, 0, 0, 0), (60, .iinc 1 1, 3, 0, 0, 0), (63, .goto (-16), 3, 47, 0, 0), (66, .return_, 1, 0, 0, 0)]
def ct_X6_begin : List Nat := [12, 47]
def cd_X6_isOne : List nl_E := [(0, .iload_n 1, 1, 0, 0, 0), (1, .iconst 0, 1, 0, 0, 0), (2, .aload_n 0, 1, 0, 0, 0), (3, .getfield 74, 3, 6, 0, 0), (6, .iconst 1, 1, 0, 0, 0), (7, .isub, 1, 0, 0, 0),
  (8, .invokestatic 84, 3, 76, 3, 1), (11, .ireturn, 1, 0, 0, 0)]
def ct_X6_isOne : List Nat := []
def cd_X6_write : List nl_E := [(0, .iload_n 1, 1, 0, 0, 0), (1, .bipush 32, 2, 0, 0, 0), (3, .bipush 126, 2, 0, 0, 0), (5, .invokestatic 84, 3, 76, 3, 1), (8, .ifCond .ne 5, 3, 13, 0, 0), (11, .iconst (-1), 1, 0, 0, 0),
  (12, .ireturn, 1, 0, 0, 0), (13, .aload_n 0, 1, 0, 0, 0), (14, .getfield 88, 3, 6, 16, 0), (17, .sipush 200, 3, 0, 0, 0), (20, .if_icmp .ne 6, 3, 26, 0, 0), (23, .bipush (-3), 2, 0, 0, 0),
  (25, .ireturn, 1, 0, 0, 0), (26, .aload_n 0, 1, 0, 0, 0), (27, .getfield 43, 3, 6, 15, 1), (30, .aload_n 0, 1, 0, 0, 0), (31, .getfield 88, 3, 6, 16, 0), (34, .iload_n 1, 1, 0, 0, 0),
  (35, .iastore, 1, 0, 0, 0), (36, .aload_n 0, 1, 0, 0, 0), (37, .dup, 1, 0, 0, 0), (38, .getfield 88, 3, 6, 16, 0), (41, .iconst 1, 1, 0, 0, 0), (42, .iadd, 1, 0, 0, 0),
  (43, .putfield 88, 3, 6, 16, 0), (46, .aload_n 0, 1, 0, 0, 0), (47, .getfield 88, 3, 6, 16, 0), (50, .ireturn, 1, 0, 0, 0)]
def ct_X6_write : List Nat := []
def cd_X6_wipe : List nl_E := [(0, .aload_n 0, 1, 0, 0, 0), (1, .getfield 88, 3, 6, 16, 0), (4, .istore_n 1, 1, 0, 0, 0), (5, .aload_n 0, 1, 0, 0, 0), (6, .iconst 0, 1, 0, 0, 0), (7, .putfield 88, 3, 6, 16, 0),
  (10, .iload_n 1, 1, 0, 0, 0), (11, .ireturn, 1, 0, 0, 0)]
def ct_X6_wipe : List Nat := []
def cd_X6_here : List nl_E := [(0, .aload_n 0, 1, 0, 0, 0), (1, .getfield 91, 3, 6, 17, 0), (4, .aload_n 0, 1, 0, 0, 0), (5, .getfield 88, 3, 6, 16, 0), (8, .if_icmp .ge 15, 3, 23, 0, 0), (11, .aload_n 0, 1, 0, 0, 0),
  (12, .getfield 43, 3, 6, 15, 1), (15, .aload_n 0, 1, 0, 0, 0), (16, .getfield 91, 3, 6, 17, 0), (19, .iaload, 1, 0, 0, 0), (20, .goto 4, 3, 24, 0, 0), (23, .iconst 0, 1, 0, 0, 0),
  (24, .ireturn, 1, 0, 0, 0)]
def ct_X6_here : List Nat := []
def cd_X6_isFigure : List nl_E := [(0, .aload_n 0, 1, 0, 0, 0), (1, .invokevirtual 94, 3, 86, 0, 25), (4, .bipush 48, 2, 0, 0, 0), (6, .bipush 57, 2, 0, 0, 0), (8, .invokestatic 84, 3, 76, 3, 1), (11, .ireturn, 1, 0, 0, 0)]
def ct_X6_isFigure : List Nat := []
def cd_X6_number : List nl_E := [(0, .aload_n 0, 1, 0, 0, 0), (1, .invokevirtual 98, 3, 87, 0, 25), (4, .ifCond .ne 5, 3, 9, 0, 0), (7, .iconst 0, 1, 0, 0, 0), (8, .ireturn, 1, 0, 0, 0), (9, .aload_n 0, 1, 0, 0, 0),
  (10, .invokevirtual 94, 3, 86, 0, 25), (13, .bipush 48, 2, 0, 0, 0), (15, .isub, 1, 0, 0, 0), (16, .istore 4, 2, 0, 0, 0), (18, .aload_n 0, 1, 0, 0, 0), (19, .dup, 1, 0, 0, 0),
  (20, .getfield 91, 3, 6, 17, 0), (23, .iconst 1, 1, 0, 0, 0), (24, .iadd, 1, 0, 0, 0), (25, .putfield 91, 3, 6, 17, 0), (28, .aload_n 0, 1, 0, 0, 0), (29, .invokevirtual 98, 3, 87, 0, 25),
  (32, .ifCond .eq 28, 3, 60, 0, 0), (35, .bipush 10, 2, 0, 0, 0), (37, .iload 4, 2, 0, 0, 0), (39, .imul, 1, 0, 0, 0), (40, .aload_n 0, 1, 0, 0, 0), (41, .invokevirtual 94, 3, 86, 0, 25),
  (44, .iadd, 1, 0, 0, 0), (45, .bipush 48, 2, 0, 0, 0), (47, .isub, 1, 0, 0, 0), (48, .istore 4, 2, 0, 0, 0), (50, .aload_n 0, 1, 0, 0, 0), (51, .dup, 1, 0, 0, 0),
  (52, .getfield 91, 3, 6, 17, 0), (55, .iconst 1, 1, 0, 0, 0), (56, .iadd, 1, 0, 0, 0), (57, .putfield 91, 3, 6, 17, 0), (60, .aload_n 0, 1, 0, 0, 0), (61, .iload 4, 2, 0, 0, 0),
  (63, .putfield 102, 3, 6, 22, 0), (66, .aload_n 0, 1, 0, 0, 0), (67, .invokevirtual 94, 3, 86, 0, 25), (70, .iload_n 3, 1, 0, 0, 0), (71, .if_icmp .ne 13, 3, 84, 0, 0), (74, .iload 4, 2, 0, 0, 0),
  (76, .iload_n 1, 1, 0, 0, 0), (77, .iload_n 2, 1, 0, 0, 0), (78, .invokestatic 84, 3, 76, 3, 1), (81, .ifCond .ne 5, 3, 86, 0, 0), (84, .iconst 0, 1, 0, 0, 0), (85, .ireturn, 1, 0, 0, 0),
  (86, .aload_n 0, 1, 0, 0, 0), (87, .dup, 1, 0, 0, 0), (88, .getfield 91, 3, 6, 17, 0), (91, .iconst 1, 1, 0, 0, 0), (92, .iadd, 1, 0, 0, 0), (93, .putfield 91, 3, 6, 17, 0),
  (96, .iconst 1, 1, 0, 0, 0), (97, .ireturn, 1, 0, 0, 0)]
def ct_X6_number : List Nat := []
def cd_X6_readsHour : List nl_E := [(0, .aload_n 0, 1, 0, 0, 0), (1, .getfield 105, 3, 6, 18, 0), (4, .bipush 7, 2, 0, 0, 0), (6, .if_icmp .eq 15, 3, 21, 0, 0), (9, .aload_n 0, 1, 0, 0, 0), (10, .iconst 0, 1, 0, 0, 0),
  (11, .bipush 20, 2, 0, 0, 0), (13, .bipush 59, 2, 0, 0, 0), (15, .invokevirtual 108, 3, 88, 3, 25), (18, .ifCond .ne 5, 3, 23, 0, 0), (21, .iconst 0, 1, 0, 0, 0), (22, .ireturn, 1, 0, 0, 0),
  (23, .aload_n 0, 1, 0, 0, 0), (24, .getfield 46, 3, 6, 20, 1), (27, .aload_n 0, 1, 0, 0, 0), (28, .getfield 105, 3, 6, 18, 0), (31, .aload_n 0, 1, 0, 0, 0), (32, .getfield 102, 3, 6, 22, 0),
  (35, .iastore, 1, 0, 0, 0), (36, .aload_n 0, 1, 0, 0, 0), (37, .dup, 1, 0, 0, 0), (38, .getfield 105, 3, 6, 18, 0), (41, .iconst 1, 1, 0, 0, 0), (42, .iadd, 1, 0, 0, 0),
  (43, .putfield 105, 3, 6, 18, 0), (46, .iconst 1, 1, 0, 0, 0), (47, .ireturn, 1, 0, 0, 0)]
def ct_X6_readsHour : List Nat := []
def cd_X6_readsHouse : List nl_E := [(0, .aload_n 0, 1, 0, 0, 0), (1, .getfield 111, 3, 6, 19, 0), (4, .aload_n 0, 1, 0, 0, 0), (5, .getfield 105, 3, 6, 18, 0), (8, .if_icmp .eq 14, 3, 22, 0, 0), (11, .aload_n 0, 1, 0, 0, 0),
  (12, .iconst 0, 1, 0, 0, 0), (13, .iconst 3, 1, 0, 0, 0), (14, .bipush 44, 2, 0, 0, 0), (16, .invokevirtual 108, 3, 88, 3, 25), (19, .ifCond .ne 5, 3, 24, 0, 0), (22, .iconst 0, 1, 0, 0, 0),
  (23, .ireturn, 1, 0, 0, 0), (24, .iconst 3, 1, 0, 0, 0), (25, .aload_n 0, 1, 0, 0, 0), (26, .getfield 111, 3, 6, 19, 0), (29, .imul, 1, 0, 0, 0), (30, .istore_n 1, 1, 0, 0, 0),
  (31, .aload_n 0, 1, 0, 0, 0), (32, .getfield 49, 3, 6, 21, 1), (35, .iload_n 1, 1, 0, 0, 0), (36, .aload_n 0, 1, 0, 0, 0), (37, .getfield 102, 3, 6, 22, 0), (40, .iastore, 1, 0, 0, 0),
  (41, .aload_n 0, 1, 0, 0, 0), (42, .iconst 0, 1, 0, 0, 0), (43, .bipush 40, 2, 0, 0, 0), (45, .bipush 44, 2, 0, 0, 0), (47, .invokevirtual 108, 3, 88, 3, 25), (50, .ifCond .ne 5, 3, 55, 0, 0),
  (53, .iconst 0, 1, 0, 0, 0), (54, .ireturn, 1, 0, 0, 0), (55, .aload_n 0, 1, 0, 0, 0), (56, .getfield 49, 3, 6, 21, 1), (59, .iload_n 1, 1, 0, 0, 0), (60, .iconst 1, 1, 0, 0, 0),
  (61, .iadd, 1, 0, 0, 0), (62, .aload_n 0, 1, 0, 0, 0), (63, .getfield 102, 3, 6, 22, 0), (66, .iastore, 1, 0, 0, 0), (67, .aload_n 0, 1, 0, 0, 0), (68, .iconst 0, 1, 0, 0, 0),
  (69, .bipush 99, 2, 0, 0, 0), (71, .bipush 59, 2, 0, 0, 0), (73, .invokevirtual 108, 3, 88, 3, 25), (76, .ifCond .ne 5, 3, 81, 0, 0), (79, .iconst 0, 1, 0, 0, 0), (80, .ireturn, 1, 0, 0, 0),
  (81, .aload_n 0, 1, 0, 0, 0), (82, .getfield 49, 3, 6, 21, 1), (85, .iload_n 1, 1, 0, 0, 0), (86, .iconst 2, 1, 0, 0, 0), (87, .iadd, 1, 0, 0, 0), (88, .aload_n 0, 1, 0, 0, 0),
  (89, .getfield 102, 3, 6, 22, 0), (92, .iastore, 1, 0, 0, 0), (93, .aload_n 0, 1, 0, 0, 0), (94, .dup, 1, 0, 0, 0), (95, .getfield 111, 3, 6, 19, 0), (98, .iconst 1, 1, 0, 0, 0),
  (99, .iadd, 1, 0, 0, 0), (100, .putfield 111, 3, 6, 19, 0), (103, .iconst 1, 1, 0, 0, 0), (104, .ireturn, 1, 0, 0, 0)]
def ct_X6_readsHouse : List Nat := []
def cd_X6_readsItem : List nl_E := [(0, .aload_n 0, 1, 0, 0, 0), (1, .invokevirtual 94, 3, 86, 0, 25), (4, .istore_n 1, 1, 0, 0, 0), (5, .aload_n 0, 1, 0, 0, 0), (6, .dup, 1, 0, 0, 0), (7, .getfield 91, 3, 6, 17, 0),
  (10, .iconst 1, 1, 0, 0, 0), (11, .iadd, 1, 0, 0, 0), (12, .putfield 91, 3, 6, 17, 0), (15, .iload_n 1, 1, 0, 0, 0), (16, .bipush 110, 2, 0, 0, 0), (18, .if_icmp .ne 10, 3, 28, 0, 0),
  (21, .aload_n 0, 1, 0, 0, 0), (22, .invokevirtual 114, 3, 89, 0, 25), (25, .goto 21, 3, 46, 0, 0), (28, .iload_n 1, 1, 0, 0, 0), (29, .bipush 104, 2, 0, 0, 0), (31, .if_icmp .ne 14, 3, 45, 0, 0),
  (34, .aload_n 0, 1, 0, 0, 0), (35, .invokevirtual 117, 3, 90, 0, 25), (38, .ifCond .eq 7, 3, 45, 0, 0), (41, .iconst 1, 1, 0, 0, 0), (42, .goto 4, 3, 46, 0, 0), (45, .iconst 0, 1, 0, 0, 0),
  (46, .ireturn, 1, 0, 0, 0)]
def ct_X6_readsItem : List Nat := []
def cd_X6_fault : List nl_E := [(0, .aload_n 0, 1, 0, 0, 0), (1, .iconst 0, 1, 0, 0, 0), (2, .putfield 91, 3, 6, 17, 0), (5, .aload_n 0, 1, 0, 0, 0), (6, .iconst 0, 1, 0, 0, 0), (7, .putfield 105, 3, 6, 18, 0),
  (10, .aload_n 0, 1, 0, 0, 0), (11, .iconst 0, 1, 0, 0, 0), (12, .putfield 111, 3, 6, 19, 0), (15, .aload_n 0, 1, 0, 0, 0), (16, .getfield 91, 3, 6, 17, 0), (19, .aload_n 0, 1, 0, 0, 0),
  (20, .getfield 88, 3, 6, 16, 0), (23, .if_icmp .ge 20, 3, 43, 0, 0), (26, .aload_n 0, 1, 0, 0, 0), (27, .getfield 91, 3, 6, 17, 0), (30, .istore_n 1, 1, 0, 0, 0), (31, .aload_n 0, 1, 0, 0, 0),
  (32, .invokevirtual 120, 3, 91, 0, 25), (35, .ifCond .ne 5, 3, 40, 0, 0), (38, .iload_n 1, 1, 0, 0, 0), (39, .ireturn, 1, 0, 0, 0), (40, .goto (-25), 3, 15, 0, 0), (43, .bipush (-4), 2, 0, 0, 0),
  (45, .ireturn, 1, 0, 0, 0)]
def ct_X6_fault : List Nat := [15]
def cd_X6_lay : List nl_E := [(0, .aload_n 0, 1, 0, 0, 0), (1, .invokevirtual 123, 3, 92, 0, 25), (4, .bipush (-4), 2, 0, 0, 0), (6, .if_icmp .ne 22, 3, 28, 0, 0), (9, .aload_n 0, 1, 0, 0, 0), (10, .getfield 105, 3, 6, 18, 0),
  (13, .iconst 2, 1, 0, 0, 0), (14, .if_icmp .lt 14, 3, 28, 0, 0), (17, .aload_n 0, 1, 0, 0, 0), (18, .getfield 111, 3, 6, 19, 0), (21, .aload_n 0, 1, 0, 0, 0), (22, .getfield 105, 3, 6, 18, 0),
  (25, .if_icmp .eq 6, 3, 31, 0, 0), (28, .bipush (-2), 2, 0, 0, 0), (30, .ireturn, 1, 0, 0, 0), (31, .aload_n 0, 1, 0, 0, 0), (32, .iconst 0, 1, 0, 0, 0), (33, .putfield 74, 3, 6, 0, 0),
  (36, .iconst 0, 1, 0, 0, 0), (37, .istore_n 1, 1, 0, 0, 0), (38, .iload_n 1, 1, 0, 0, 0), (39, .aload_n 0, 1, 0, 0, 0), (40, .getfield 111, 3, 6, 19, 0), (43, .if_icmp .ge 47, 3, 90, 0, 0),
  (46, .aload_n 0, 1, 0, 0, 0), (47, .aload_n 0, 1, 0, 0, 0), (48, .getfield 49, 3, 6, 21, 1), (51, .iconst 3, 1, 0, 0, 0), (52, .iload_n 1, 1, 0, 0, 0), (53, .imul, 1, 0, 0, 0),
  (54, .iaload, 1, 0, 0, 0), (55, .aload_n 0, 1, 0, 0, 0), (56, .getfield 49, 3, 6, 21, 1), (59, .iconst 3, 1, 0, 0, 0), (60, .iload_n 1, 1, 0, 0, 0), (61, .imul, 1, 0, 0, 0),
  (62, .iconst 1, 1, 0, 0, 0), (63, .iadd, 1, 0, 0, 0), (64, .iaload, 1, 0, 0, 0), (65, .aload_n 0, 1, 0, 0, 0), (66, .getfield 49, 3, 6, 21, 1), (69, .iconst 3, 1, 0, 0, 0),
  (70, .iload_n 1, 1, 0, 0, 0), (71, .imul, 1, 0, 0, 0), (72, .iconst 2, 1, 0, 0, 0), (73, .iadd, 1, 0, 0, 0), (74, .iaload, 1, 0, 0, 0), (75, .aload_n 0, 1, 0, 0, 0),
  (76, .getfield 46, 3, 6, 20, 1), (79, .iload_n 1, 1, 0, 0, 0), (80, .iaload, 1, 0, 0, 0), (81, .invokevirtual 67, 3, 81, 4, 24), (84, .iinc 1 1, 3, 0, 0, 0), (87, .goto (-49), 3, 38, 0, 0),
  (90, .aload_n 0, 1, 0, 0, 0), (91, .invokevirtual 71, 3, 82, 0, 24), (94, .aload_n 0, 1, 0, 0, 0), (95, .iconst 0, 1, 0, 0, 0), (96, .putfield 126, 3, 6, 11, 0), (99, .aload_n 0, 1, 0, 0, 0),
  (100, .iconst 0, 1, 0, 0, 0), (101, .putfield 129, 3, 6, 24, 0), (104, .aload_n 0, 1, 0, 0, 0), (105, .iconst 0, 1, 0, 0, 0), (106, .putfield 132, 3, 6, 29, 0), (109, .aload_n 0, 1, 0, 0, 0),
  (110, .getfield 74, 3, 6, 0, 0), (113, .ireturn, 1, 0, 0, 0)]
def ct_X6_lay : List Nat := [38]
def cd_X6_mostOften : List nl_E := [(0, .bipush (-4), 2, 0, 0, 0), (2, .istore_n 2, 1, 0, 0, 0), (3, .iconst 0, 1, 0, 0, 0), (4, .istore_n 3, 1, 0, 0, 0), (5, .iconst 0, 1, 0, 0, 0), (6, .istore 4, 2, 0, 0, 0),
  (8, .iload 4, 2, 0, 0, 0), (10, .aload_n 0, 1, 0, 0, 0), (11, .getfield 74, 3, 6, 0, 0), (14, .if_icmp .ge 43, 3, 57, 0, 0), (17, .aload_n 0, 1, 0, 0, 0), (18, .getfield 28, 3, 6, 9, 1),
  (21, .bipush 7, 2, 0, 0, 0), (23, .iload_n 1, 1, 0, 0, 0), (24, .imul, 1, 0, 0, 0), (25, .iload 4, 2, 0, 0, 0), (27, .iadd, 1, 0, 0, 0), (28, .iaload, 1, 0, 0, 0),
  (29, .istore 5, 2, 0, 0, 0), (31, .iload 5, 2, 0, 0, 0), (33, .iload_n 3, 1, 0, 0, 0), (34, .if_icmp .le 8, 3, 42, 0, 0), (37, .iload 4, 2, 0, 0, 0), (39, .goto 4, 3, 43, 0, 0),
  (42, .iload_n 2, 1, 0, 0, 0), (43, .istore_n 2, 1, 0, 0, 0), (44, .iload_n 3, 1, 0, 0, 0), (45, .iload 5, 2, 0, 0, 0), (47, .invokestatic 135, 3, 80, 2, 1), (50, .istore_n 3, 1, 0, 0, 0),
  (51, .iinc 4 1, 3, 0, 0, 0), (54, .goto (-46), 3, 8, 0, 0), (57, .iload_n 2, 1, 0, 0, 0), (58, .ireturn, 1, 0, 0, 0)]
def ct_X6_mostOften : List Nat := [8]
def cd_X6_weight : List nl_E := [(0, .aload_n 0, 1, 0, 0, 0), (1, .getfield 31, 3, 6, 10, 1), (4, .iload_n 2, 1, 0, 0, 0), (5, .iaload, 1, 0, 0, 0), (6, .istore_n 3, 1, 0, 0, 0), (7, .aload_n 0, 1, 0, 0, 0),
  (8, .getfield 9, 3, 6, 1, 1), (11, .iload_n 1, 1, 0, 0, 0), (12, .iaload, 1, 0, 0, 0), (13, .tableswitch 74 1 3 #[27, 31, 48], 27, 87, 64008232, 3), (40, .iconst 2, 1, 0, 0, 0), (41, .iload_n 3, 1, 0, 0, 0),
  (42, .imul, 1, 0, 0, 0), (43, .ireturn, 1, 0, 0, 0), (44, .aload_n 0, 1, 0, 0, 0), (45, .iload_n 1, 1, 0, 0, 0), (46, .invokevirtual 139, 3, 94, 1, 25), (49, .iload_n 2, 1, 0, 0, 0),
  (50, .if_icmp .ne 9, 3, 59, 0, 0), (53, .iload_n 3, 1, 0, 0, 0), (54, .iconst 2, 1, 0, 0, 0), (55, .idiv, 1, 0, 0, 0), (56, .goto 4, 3, 60, 0, 0), (59, .iload_n 3, 1, 0, 0, 0),
  (60, .ireturn, 1, 0, 0, 0), (61, .iload_n 2, 1, 0, 0, 0), (62, .ifCond .eq 13, 3, 75, 0, 0), (65, .iload_n 2, 1, 0, 0, 0), (66, .aload_n 0, 1, 0, 0, 0), (67, .getfield 74, 3, 6, 0, 0),
  (70, .iconst 1, 1, 0, 0, 0), (71, .isub, 1, 0, 0, 0), (72, .if_icmp .ne 13, 3, 85, 0, 0), (75, .iconst 0, 1, 0, 0, 0), (76, .iload_n 3, 1, 0, 0, 0), (77, .iconst 3, 1, 0, 0, 0),
  (78, .isub, 1, 0, 0, 0), (79, .invokestatic 135, 3, 80, 2, 1), (82, .goto 4, 3, 86, 0, 0), (85, .iload_n 3, 1, 0, 0, 0), (86, .ireturn, 1, 0, 0, 0), (87, .iload_n 3, 1, 0, 0, 0),
  (88, .ireturn, 1, 0, 0, 0)]
def ct_X6_weight : List Nat := []
def cd_X6_keeps : List nl_E := [(0, .aload_n 0, 1, 0, 0, 0), (1, .iload_n 1, 1, 0, 0, 0), (2, .iload_n 2, 1, 0, 0, 0), (3, .invokevirtual 143, 3, 95, 2, 25), (6, .aload_n 0, 1, 0, 0, 0), (7, .getfield 13, 3, 6, 2, 1),
  (10, .iload_n 1, 1, 0, 0, 0), (11, .iaload, 1, 0, 0, 0), (12, .aload_n 0, 1, 0, 0, 0), (13, .getfield 22, 3, 6, 7, 1), (16, .iload_n 1, 1, 0, 0, 0), (17, .iaload, 1, 0, 0, 0),
  (18, .isub, 1, 0, 0, 0), (19, .if_icmp .gt 7, 3, 26, 0, 0), (22, .iconst 1, 1, 0, 0, 0), (23, .goto 4, 3, 27, 0, 0), (26, .iconst 0, 1, 0, 0, 0), (27, .ireturn, 1, 0, 0, 0)]
def ct_X6_keeps : List Nat := []
def cd_X6_gapSet : List nl_E := [(0, .iconst 0, 1, 0, 0, 0), (1, .istore_n 1, 1, 0, 0, 0), (2, .iconst 0, 1, 0, 0, 0), (3, .istore_n 2, 1, 0, 0, 0), (4, .iload_n 2, 1, 0, 0, 0), (5, .aload_n 0, 1, 0, 0, 0),
  (6, .getfield 74, 3, 6, 0, 0), (9, .if_icmp .ge 38, 3, 47, 0, 0), (12, .iload_n 1, 1, 0, 0, 0), (13, .aload_n 0, 1, 0, 0, 0), (14, .iload_n 2, 1, 0, 0, 0), (15, .aload_n 0, 1, 0, 0, 0),
  (16, .getfield 19, 3, 6, 6, 1), (19, .iload_n 2, 1, 0, 0, 0), (20, .iaload, 1, 0, 0, 0), (21, .invokevirtual 146, 3, 96, 2, 25), (24, .ifCond .eq 7, 3, 31, 0, 0), (27, .iconst 0, 1, 0, 0, 0),
  (28, .goto 11, 3, 39, 0, 0), (31, .iconst 1, 1, 0, 0, 0), (32, .aload_n 0, 1, 0, 0, 0), (33, .getfield 19, 3, 6, 6, 1), (36, .iload_n 2, 1, 0, 0, 0), (37, .iaload, 1, 0, 0, 0),
  (38, .ishl, 1, 0, 0, 0), (39, .ior, 1, 0, 0, 0), (40, .istore_n 1, 1, 0, 0, 0), (41, .iinc 2 1, 3, 0, 0, 0), (44, .goto (-40), 3, 4, 0, 0), (47, .iload_n 1, 1, 0, 0, 0),
  (48, .ireturn, 1, 0, 0, 0)]
def ct_X6_gapSet : List Nat := [4]
def cd_X6_passes : List nl_E := [(0, .iconst 0, 1, 0, 0, 0), (1, .istore_n 1, 1, 0, 0, 0), (2, .iconst 0, 1, 0, 0, 0), (3, .istore_n 2, 1, 0, 0, 0), (4, .iload_n 2, 1, 0, 0, 0), (5, .aload_n 0, 1, 0, 0, 0),
  (6, .getfield 74, 3, 6, 0, 0), (9, .if_icmp .ge 116, 3, 125, 0, 0), (12, .aload_n 0, 1, 0, 0, 0), (13, .getfield 19, 3, 6, 6, 1), (16, .iload_n 2, 1, 0, 0, 0), (17, .iaload, 1, 0, 0, 0),
  (18, .istore_n 3, 1, 0, 0, 0), (19, .aload_n 0, 1, 0, 0, 0), (20, .iload_n 2, 1, 0, 0, 0), (21, .iload_n 3, 1, 0, 0, 0), (22, .invokevirtual 146, 3, 96, 2, 25), (25, .ifCond .eq 25, 3, 50, 0, 0),
  (28, .aload_n 0, 1, 0, 0, 0), (29, .getfield 22, 3, 6, 7, 1), (32, .iload_n 2, 1, 0, 0, 0), (33, .bipush 40, 2, 0, 0, 0), (35, .aload_n 0, 1, 0, 0, 0), (36, .getfield 22, 3, 6, 7, 1),
  (39, .iload_n 2, 1, 0, 0, 0), (40, .iaload, 1, 0, 0, 0), (41, .iconst 2, 1, 0, 0, 0), (42, .iadd, 1, 0, 0, 0), (43, .invokestatic 150, 3, 79, 2, 1), (46, .iastore, 1, 0, 0, 0),
  (47, .goto 34, 3, 81, 0, 0), (50, .aload_n 0, 1, 0, 0, 0), (51, .getfield 22, 3, 6, 7, 1), (54, .iload_n 2, 1, 0, 0, 0), (55, .iconst 0, 1, 0, 0, 0), (56, .aload_n 0, 1, 0, 0, 0),
  (57, .getfield 22, 3, 6, 7, 1), (60, .iload_n 2, 1, 0, 0, 0), (61, .iaload, 1, 0, 0, 0), (62, .iconst 3, 1, 0, 0, 0), (63, .isub, 1, 0, 0, 0), (64, .invokestatic 135, 3, 80, 2, 1),
  (67, .iastore, 1, 0, 0, 0), (68, .aload_n 0, 1, 0, 0, 0), (69, .getfield 25, 3, 6, 8, 1), (72, .iload_n 2, 1, 0, 0, 0), (73, .dup2, 1, 0, 0, 0), (74, .iaload, 1, 0, 0, 0),
  (75, .iconst 1, 1, 0, 0, 0), (76, .iadd, 1, 0, 0, 0), (77, .iastore, 1, 0, 0, 0), (78, .iinc 1 1, 3, 0, 0, 0), (81, .aload_n 0, 1, 0, 0, 0), (82, .getfield 28, 3, 6, 9, 1),
  (85, .bipush 7, 2, 0, 0, 0), (87, .iload_n 2, 1, 0, 0, 0), (88, .imul, 1, 0, 0, 0), (89, .iload_n 3, 1, 0, 0, 0), (90, .iadd, 1, 0, 0, 0), (91, .dup2, 1, 0, 0, 0),
  (92, .iaload, 1, 0, 0, 0), (93, .iconst 1, 1, 0, 0, 0), (94, .iadd, 1, 0, 0, 0), (95, .iastore, 1, 0, 0, 0), (96, .aload_n 0, 1, 0, 0, 0), (97, .getfield 19, 3, 6, 6, 1),
  (100, .iload_n 2, 1, 0, 0, 0), (101, .iload_n 3, 1, 0, 0, 0), (102, .iconst 1, 1, 0, 0, 0), (103, .iadd, 1, 0, 0, 0), (104, .aload_n 0, 1, 0, 0, 0), (105, .getfield 74, 3, 6, 0, 0),
  (108, .if_icmp .ge 9, 3, 117, 0, 0), (111, .iload_n 3, 1, 0, 0, 0), (112, .iconst 1, 1, 0, 0, 0), (113, .iadd, 1, 0, 0, 0), (114, .goto 4, 3, 118, 0, 0), (117, .iconst 0, 1, 0, 0, 0),
  (118, .iastore, 1, 0, 0, 0), (119, .iinc 2 1, 3, 0, 0, 0), (122, .goto (-118), 3, 4, 0, 0), (125, .aload_n 0, 1, 0, 0, 0), (126, .dup, 1, 0, 0, 0), (127, .getfield 78, 3, 6, 4, 0),
  (130, .iconst 1, 1, 0, 0, 0), (131, .iadd, 1, 0, 0, 0), (132, .putfield 78, 3, 6, 4, 0), (135, .aload_n 0, 1, 0, 0, 0), (136, .dup, 1, 0, 0, 0), (137, .getfield 81, 3, 6, 5, 0),
  (140, .iload_n 1, 1, 0, 0, 0), (141, .iadd, 1, 0, 0, 0), (142, .putfield 81, 3, 6, 5, 0), (145, .iload_n 1, 1, 0, 0, 0), (146, .ireturn, 1, 0, 0, 0)]
def ct_X6_passes : List Nat := [4]
def cd_X6_goesOn : List nl_E := [(0, .iconst 0, 1, 0, 0, 0), (1, .istore_n 2, 1, 0, 0, 0), (2, .iconst 0, 1, 0, 0, 0), (3, .istore_n 3, 1, 0, 0, 0), (4, .iload_n 3, 1, 0, 0, 0), (5, .iload_n 1, 1, 0, 0, 0),
  (6, .if_icmp .ge 16, 3, 22, 0, 0), (9, .iload_n 2, 1, 0, 0, 0), (10, .aload_n 0, 1, 0, 0, 0), (11, .invokevirtual 153, 3, 98, 0, 25), (14, .iadd, 1, 0, 0, 0), (15, .istore_n 2, 1, 0, 0, 0),
  (16, .iinc 3 1, 3, 0, 0, 0), (19, .goto (-15), 3, 4, 0, 0), (22, .iload_n 2, 1, 0, 0, 0), (23, .ireturn, 1, 0, 0, 0)]
def ct_X6_goesOn : List Nat := [4]
def cd_X6_house : List nl_E := [(0, .aload_n 0, 1, 0, 0, 0), (1, .iload_n 1, 1, 0, 0, 0), (2, .invokevirtual 156, 3, 83, 1, 25), (5, .ifCond .eq 12, 3, 17, 0, 0), (8, .iload_n 2, 1, 0, 0, 0), (9, .iconst 0, 1, 0, 0, 0),
  (10, .iconst 5, 1, 0, 0, 0), (11, .invokestatic 84, 3, 76, 3, 1), (14, .ifCond .ne 5, 3, 19, 0, 0), (17, .iconst (-1), 1, 0, 0, 0), (18, .ireturn, 1, 0, 0, 0), (19, .iload_n 2, 1, 0, 0, 0),
  (20, .tableswitch 71 0 4 #[36, 43, 50, 57, 64], 36, 91, 92441728318520, 5), (56, .aload_n 0, 1, 0, 0, 0), (57, .getfield 9, 3, 6, 1, 1), (60, .iload_n 1, 1, 0, 0, 0), (61, .iaload, 1, 0, 0, 0), (62, .ireturn, 1, 0, 0, 0),
  (63, .aload_n 0, 1, 0, 0, 0), (64, .getfield 13, 3, 6, 2, 1), (67, .iload_n 1, 1, 0, 0, 0), (68, .iaload, 1, 0, 0, 0), (69, .ireturn, 1, 0, 0, 0), (70, .aload_n 0, 1, 0, 0, 0),
  (71, .getfield 16, 3, 6, 3, 1), (74, .iload_n 1, 1, 0, 0, 0), (75, .iaload, 1, 0, 0, 0), (76, .ireturn, 1, 0, 0, 0), (77, .aload_n 0, 1, 0, 0, 0), (78, .getfield 22, 3, 6, 7, 1),
  (81, .iload_n 1, 1, 0, 0, 0), (82, .iaload, 1, 0, 0, 0), (83, .ireturn, 1, 0, 0, 0), (84, .aload_n 0, 1, 0, 0, 0), (85, .getfield 19, 3, 6, 6, 1), (88, .iload_n 1, 1, 0, 0, 0),
  (89, .iaload, 1, 0, 0, 0), (90, .ireturn, 1, 0, 0, 0), (91, .aload_n 0, 1, 0, 0, 0), (92, .getfield 25, 3, 6, 8, 1), (95, .iload_n 1, 1, 0, 0, 0), (96, .iaload, 1, 0, 0, 0),
  (97, .ireturn, 1, 0, 0, 0)]
def ct_X6_house : List Nat := []
def cd_X6_whoHas : List nl_E := [(0, .iconst 0, 1, 0, 0, 0), (1, .istore_n 2, 1, 0, 0, 0), (2, .aload_n 0, 1, 0, 0, 0), (3, .getfield 19, 3, 6, 6, 1), (6, .iload_n 2, 1, 0, 0, 0), (7, .iaload, 1, 0, 0, 0),
  (8, .iload_n 1, 1, 0, 0, 0), (9, .if_icmp .eq 9, 3, 18, 0, 0), (12, .iinc 2 1, 3, 0, 0, 0), (15, .goto (-13), 3, 2, 0, 0), (18, .iload_n 2, 1, 0, 0, 0), (19, .ireturn, 1, 0, 0, 0)]
def ct_X6_whoHas : List Nat := [2]
def cd_X6_hour : List nl_E := [(0, .aload_n 0, 1, 0, 0, 0), (1, .iload_n 1, 1, 0, 0, 0), (2, .invokevirtual 156, 3, 83, 1, 25), (5, .ifCond .eq 12, 3, 17, 0, 0), (8, .iload_n 2, 1, 0, 0, 0), (9, .iconst 0, 1, 0, 0, 0),
  (10, .iconst 1, 1, 0, 0, 0), (11, .invokestatic 84, 3, 76, 3, 1), (14, .ifCond .ne 5, 3, 19, 0, 0), (17, .iconst (-1), 1, 0, 0, 0), (18, .ireturn, 1, 0, 0, 0), (19, .iload_n 2, 1, 0, 0, 0),
  (20, .ifCond .ne 12, 3, 32, 0, 0), (23, .aload_n 0, 1, 0, 0, 0), (24, .getfield 31, 3, 6, 10, 1), (27, .iload_n 1, 1, 0, 0, 0), (28, .iaload, 1, 0, 0, 0), (29, .goto 8, 3, 37, 0, 0),
  (32, .aload_n 0, 1, 0, 0, 0), (33, .iload_n 1, 1, 0, 0, 0), (34, .invokevirtual 160, 3, 101, 1, 25), (37, .ireturn, 1, 0, 0, 0)]
def ct_X6_hour : List Nat := []
def cd_X6_heavy : List nl_E := [(0, .aload_n 0, 1, 0, 0, 0), (1, .iload_n 1, 1, 0, 0, 0), (2, .invokevirtual 156, 3, 83, 1, 25), (5, .ifCond .eq 20, 3, 25, 0, 0), (8, .aload_n 0, 1, 0, 0, 0), (9, .iload_n 2, 1, 0, 0, 0),
  (10, .invokevirtual 156, 3, 83, 1, 25), (13, .ifCond .eq 12, 3, 25, 0, 0), (16, .aload_n 0, 1, 0, 0, 0), (17, .iload_n 1, 1, 0, 0, 0), (18, .iload_n 2, 1, 0, 0, 0), (19, .invokevirtual 143, 3, 95, 2, 25),
  (22, .goto 4, 3, 26, 0, 0), (25, .iconst (-1), 1, 0, 0, 0), (26, .ireturn, 1, 0, 0, 0)]
def ct_X6_heavy : List Nat := []
def cd_X6_had : List nl_E := [(0, .aload_n 0, 1, 0, 0, 0), (1, .iload_n 1, 1, 0, 0, 0), (2, .invokevirtual 156, 3, 83, 1, 25), (5, .ifCond .eq 25, 3, 30, 0, 0), (8, .aload_n 0, 1, 0, 0, 0), (9, .iload_n 2, 1, 0, 0, 0),
  (10, .invokevirtual 156, 3, 83, 1, 25), (13, .ifCond .eq 17, 3, 30, 0, 0), (16, .aload_n 0, 1, 0, 0, 0), (17, .getfield 28, 3, 6, 9, 1), (20, .bipush 7, 2, 0, 0, 0), (22, .iload_n 1, 1, 0, 0, 0),
  (23, .imul, 1, 0, 0, 0), (24, .iload_n 2, 1, 0, 0, 0), (25, .iadd, 1, 0, 0, 0), (26, .iaload, 1, 0, 0, 0), (27, .goto 4, 3, 31, 0, 0), (30, .iconst (-1), 1, 0, 0, 0),
  (31, .ireturn, 1, 0, 0, 0)]
def ct_X6_had : List Nat := []
def cd_X6_lays : List nl_E := [(0, .aload_n 1, 1, 0, 0, 0), (1, .iload_n 2, 1, 0, 0, 0), (2, .aload_n 0, 1, 0, 0, 0), (3, .getfield 78, 3, 6, 4, 0), (6, .iastore, 1, 0, 0, 0), (7, .aload_n 1, 1, 0, 0, 0),
  (8, .iload_n 2, 1, 0, 0, 0), (9, .iconst 1, 1, 0, 0, 0), (10, .iadd, 1, 0, 0, 0), (11, .aload_n 0, 1, 0, 0, 0), (12, .getfield 81, 3, 6, 5, 0), (15, .iastore, 1, 0, 0, 0),
  (16, .iconst 0, 1, 0, 0, 0), (17, .istore_n 3, 1, 0, 0, 0), (18, .iload_n 3, 1, 0, 0, 0), (19, .bipush 7, 2, 0, 0, 0), (21, .if_icmp .ge 64, 3, 85, 0, 0), (24, .aload_n 1, 1, 0, 0, 0),
  (25, .iload_n 2, 1, 0, 0, 0), (26, .iconst 2, 1, 0, 0, 0), (27, .iadd, 1, 0, 0, 0), (28, .iload_n 3, 1, 0, 0, 0), (29, .iadd, 1, 0, 0, 0), (30, .aload_n 0, 1, 0, 0, 0),
  (31, .getfield 19, 3, 6, 6, 1), (34, .iload_n 3, 1, 0, 0, 0), (35, .iaload, 1, 0, 0, 0), (36, .iastore, 1, 0, 0, 0), (37, .aload_n 1, 1, 0, 0, 0), (38, .iload_n 2, 1, 0, 0, 0),
  (39, .bipush 9, 2, 0, 0, 0), (41, .iadd, 1, 0, 0, 0), (42, .iload_n 3, 1, 0, 0, 0), (43, .iadd, 1, 0, 0, 0), (44, .aload_n 0, 1, 0, 0, 0), (45, .getfield 22, 3, 6, 7, 1),
  (48, .iload_n 3, 1, 0, 0, 0), (49, .iaload, 1, 0, 0, 0), (50, .iastore, 1, 0, 0, 0), (51, .aload_n 1, 1, 0, 0, 0), (52, .iload_n 2, 1, 0, 0, 0), (53, .bipush 16, 2, 0, 0, 0),
  (55, .iadd, 1, 0, 0, 0), (56, .iload_n 3, 1, 0, 0, 0), (57, .iadd, 1, 0, 0, 0), (58, .aload_n 0, 1, 0, 0, 0), (59, .getfield 25, 3, 6, 8, 1), (62, .iload_n 3, 1, 0, 0, 0),
  (63, .iaload, 1, 0, 0, 0), (64, .iastore, 1, 0, 0, 0), (65, .aload_n 1, 1, 0, 0, 0), (66, .iload_n 2, 1, 0, 0, 0), (67, .bipush 23, 2, 0, 0, 0), (69, .iadd, 1, 0, 0, 0),
  (70, .iload_n 3, 1, 0, 0, 0), (71, .iadd, 1, 0, 0, 0), (72, .aload_n 0, 1, 0, 0, 0), (73, .getfield 31, 3, 6, 10, 1), (76, .iload_n 3, 1, 0, 0, 0), (77, .iaload, 1, 0, 0, 0),
  (78, .iastore, 1, 0, 0, 0), (79, .iinc 3 1, 3, 0, 0, 0), (82, .goto (-64), 3, 18, 0, 0), (85, .iconst 0, 1, 0, 0, 0), (86, .istore_n 3, 1, 0, 0, 0), (87, .iload_n 3, 1, 0, 0, 0),
  (88, .bipush 49, 2, 0, 0, 0), (90, .if_icmp .ge 23, 3, 113, 0, 0), (93, .aload_n 1, 1, 0, 0, 0), (94, .iload_n 2, 1, 0, 0, 0), (95, .bipush 30, 2, 0, 0, 0), (97, .iadd, 1, 0, 0, 0),
  (98, .iload_n 3, 1, 0, 0, 0), (99, .iadd, 1, 0, 0, 0), (100, .aload_n 0, 1, 0, 0, 0), (101, .getfield 28, 3, 6, 9, 1), (104, .iload_n 3, 1, 0, 0, 0), (105, .iaload, 1, 0, 0, 0),
  (106, .iastore, 1, 0, 0, 0), (107, .iinc 3 1, 3, 0, 0, 0), (110, .goto (-23), 3, 87, 0, 0), (113, .return_, 1, 0, 0, 0)]
def ct_X6_lays : List Nat := [18, 87]
def cd_X6_takes : List nl_E := [(0, .aload_n 0, 1, 0, 0, 0), (1, .aload_n 1, 1, 0, 0, 0), (2, .iload_n 2, 1, 0, 0, 0), (3, .iaload, 1, 0, 0, 0), (4, .putfield 78, 3, 6, 4, 0), (7, .aload_n 0, 1, 0, 0, 0),
  (8, .aload_n 1, 1, 0, 0, 0), (9, .iload_n 2, 1, 0, 0, 0), (10, .iconst 1, 1, 0, 0, 0), (11, .iadd, 1, 0, 0, 0), (12, .iaload, 1, 0, 0, 0), (13, .putfield 81, 3, 6, 5, 0),
  (16, .iconst 0, 1, 0, 0, 0), (17, .istore_n 3, 1, 0, 0, 0), (18, .iload_n 3, 1, 0, 0, 0), (19, .bipush 7, 2, 0, 0, 0), (21, .if_icmp .ge 64, 3, 85, 0, 0), (24, .aload_n 0, 1, 0, 0, 0),
  (25, .getfield 19, 3, 6, 6, 1), (28, .iload_n 3, 1, 0, 0, 0), (29, .aload_n 1, 1, 0, 0, 0), (30, .iload_n 2, 1, 0, 0, 0), (31, .iconst 2, 1, 0, 0, 0), (32, .iadd, 1, 0, 0, 0),
  (33, .iload_n 3, 1, 0, 0, 0), (34, .iadd, 1, 0, 0, 0), (35, .iaload, 1, 0, 0, 0), (36, .iastore, 1, 0, 0, 0), (37, .aload_n 0, 1, 0, 0, 0), (38, .getfield 22, 3, 6, 7, 1),
  (41, .iload_n 3, 1, 0, 0, 0), (42, .aload_n 1, 1, 0, 0, 0), (43, .iload_n 2, 1, 0, 0, 0), (44, .bipush 9, 2, 0, 0, 0), (46, .iadd, 1, 0, 0, 0), (47, .iload_n 3, 1, 0, 0, 0),
  (48, .iadd, 1, 0, 0, 0), (49, .iaload, 1, 0, 0, 0), (50, .iastore, 1, 0, 0, 0), (51, .aload_n 0, 1, 0, 0, 0), (52, .getfield 25, 3, 6, 8, 1), (55, .iload_n 3, 1, 0, 0, 0),
  (56, .aload_n 1, 1, 0, 0, 0), (57, .iload_n 2, 1, 0, 0, 0), (58, .bipush 16, 2, 0, 0, 0), (60, .iadd, 1, 0, 0, 0), (61, .iload_n 3, 1, 0, 0, 0), (62, .iadd, 1, 0, 0, 0),
  (63, .iaload, 1, 0, 0, 0), (64, .iastore, 1, 0, 0, 0), (65, .aload_n 0, 1, 0, 0, 0), (66, .getfield 31, 3, 6, 10, 1), (69, .iload_n 3, 1, 0, 0, 0), (70, .aload_n 1, 1, 0, 0, 0),
  (71, .iload_n 2, 1, 0, 0, 0), (72, .bipush 23, 2, 0, 0, 0), (74, .iadd, 1, 0, 0, 0), (75, .iload_n 3, 1, 0, 0, 0), (76, .iadd, 1, 0, 0, 0), (77, .iaload, 1, 0, 0, 0),
  (78, .iastore, 1, 0, 0, 0), (79, .iinc 3 1, 3, 0, 0, 0), (82, .goto (-64), 3, 18, 0, 0), (85, .iconst 0, 1, 0, 0, 0), (86, .istore_n 3, 1, 0, 0, 0), (87, .iload_n 3, 1, 0, 0, 0),
  (88, .bipush 49, 2, 0, 0, 0), (90, .if_icmp .ge 23, 3, 113, 0, 0), (93, .aload_n 0, 1, 0, 0, 0), (94, .getfield 28, 3, 6, 9, 1), (97, .iload_n 3, 1, 0, 0, 0), (98, .aload_n 1, 1, 0, 0, 0),
  (99, .iload_n 2, 1, 0, 0, 0), (100, .bipush 30, 2, 0, 0, 0), (102, .iadd, 1, 0, 0, 0), (103, .iload_n 3, 1, 0, 0, 0), (104, .iadd, 1, 0, 0, 0), (105, .iaload, 1, 0, 0, 0),
  (106, .iastore, 1, 0, 0, 0), (107, .iinc 3 1, 3, 0, 0, 0), (110, .goto (-23), 3, 87, 0, 0), (113, .return_, 1, 0, 0, 0)]
def ct_X6_takes : List Nat := [18, 87]
def cd_X6_notes : List nl_E := [(0, .aload_n 0, 1, 0, 0, 0), (1, .getfield 129, 3, 6, 24, 0), (4, .bipush 8, 2, 0, 0, 0), (6, .if_icmp .ne 43, 3, 49, 0, 0), (9, .iconst 0, 1, 0, 0, 0), (10, .istore_n 1, 1, 0, 0, 0),
  (11, .iload_n 1, 1, 0, 0, 0), (12, .sipush 553, 3, 0, 0, 0), (15, .if_icmp .ge 24, 3, 39, 0, 0), (18, .aload_n 0, 1, 0, 0, 0), (19, .getfield 52, 3, 6, 23, 1), (22, .iload_n 1, 1, 0, 0, 0),
  (23, .aload_n 0, 1, 0, 0, 0), (24, .getfield 52, 3, 6, 23, 1), (27, .iload_n 1, 1, 0, 0, 0), (28, .bipush 79, 2, 0, 0, 0), (30, .iadd, 1, 0, 0, 0), (31, .iaload, 1, 0, 0, 0),
  (32, .iastore, 1, 0, 0, 0), (33, .iinc 1 1, 3, 0, 0, 0), (36, .goto (-25), 3, 11, 0, 0), (39, .aload_n 0, 1, 0, 0, 0), (40, .dup, 1, 0, 0, 0), (41, .getfield 129, 3, 6, 24, 0),
  (44, .iconst 1, 1, 0, 0, 0), (45, .isub, 1, 0, 0, 0), (46, .putfield 129, 3, 6, 24, 0), (49, .aload_n 0, 1, 0, 0, 0), (50, .aload_n 0, 1, 0, 0, 0), (51, .getfield 52, 3, 6, 23, 1),
  (54, .bipush 79, 2, 0, 0, 0), (56, .aload_n 0, 1, 0, 0, 0), (57, .getfield 129, 3, 6, 24, 0), (60, .imul, 1, 0, 0, 0), (61, .invokevirtual 163, 3, 105, 2, 24), (64, .aload_n 0, 1, 0, 0, 0),
  (65, .dup, 1, 0, 0, 0), (66, .getfield 129, 3, 6, 24, 0), (69, .iconst 1, 1, 0, 0, 0), (70, .iadd, 1, 0, 0, 0), (71, .putfield 129, 3, 6, 24, 0), (74, .return_, 1, 0, 0, 0)]
def ct_X6_notes : List Nat := [11]
def cd_X6_pass : List nl_E := [(0, .iload_n 1, 1, 0, 0, 0), (1, .iconst 1, 1, 0, 0, 0), (2, .bipush 20, 2, 0, 0, 0), (4, .invokestatic 84, 3, 76, 3, 1), (7, .ifCond .ne 5, 3, 12, 0, 0), (10, .iconst (-1), 1, 0, 0, 0),
  (11, .ireturn, 1, 0, 0, 0), (12, .aload_n 0, 1, 0, 0, 0), (13, .getfield 78, 3, 6, 4, 0), (16, .iload_n 1, 1, 0, 0, 0), (17, .iadd, 1, 0, 0, 0), (18, .sipush 999, 3, 0, 0, 0),
  (21, .if_icmp .le 6, 3, 27, 0, 0), (24, .bipush (-2), 2, 0, 0, 0), (26, .ireturn, 1, 0, 0, 0), (27, .aload_n 0, 1, 0, 0, 0), (28, .invokevirtual 167, 3, 107, 0, 24), (31, .aload_n 0, 1, 0, 0, 0),
  (32, .iload_n 1, 1, 0, 0, 0), (33, .invokevirtual 170, 3, 99, 1, 25), (36, .ireturn, 1, 0, 0, 0)]
def ct_X6_pass : List Nat := []
def cd_X6_trades : List nl_E := [(0, .aload_n 0, 1, 0, 0, 0), (1, .getfield 19, 3, 6, 6, 1), (4, .iload_n 1, 1, 0, 0, 0), (5, .iaload, 1, 0, 0, 0), (6, .istore_n 3, 1, 0, 0, 0), (7, .aload_n 0, 1, 0, 0, 0),
  (8, .getfield 19, 3, 6, 6, 1), (11, .iload_n 1, 1, 0, 0, 0), (12, .aload_n 0, 1, 0, 0, 0), (13, .getfield 19, 3, 6, 6, 1), (16, .iload_n 2, 1, 0, 0, 0), (17, .iaload, 1, 0, 0, 0),
  (18, .iastore, 1, 0, 0, 0), (19, .aload_n 0, 1, 0, 0, 0), (20, .getfield 19, 3, 6, 6, 1), (23, .iload_n 2, 1, 0, 0, 0), (24, .iload_n 3, 1, 0, 0, 0), (25, .iastore, 1, 0, 0, 0),
  (26, .return_, 1, 0, 0, 0)]
def ct_X6_trades : List Nat := []
def cd_X6_swap : List nl_E := [(0, .aload_n 0, 1, 0, 0, 0), (1, .iload_n 1, 1, 0, 0, 0), (2, .invokevirtual 156, 3, 83, 1, 25), (5, .ifCond .eq 16, 3, 21, 0, 0), (8, .aload_n 0, 1, 0, 0, 0), (9, .iload_n 2, 1, 0, 0, 0),
  (10, .invokevirtual 156, 3, 83, 1, 25), (13, .ifCond .eq 8, 3, 21, 0, 0), (16, .iload_n 1, 1, 0, 0, 0), (17, .iload_n 2, 1, 0, 0, 0), (18, .if_icmp .ne 5, 3, 23, 0, 0), (21, .iconst (-1), 1, 0, 0, 0),
  (22, .ireturn, 1, 0, 0, 0), (23, .aload_n 0, 1, 0, 0, 0), (24, .invokevirtual 167, 3, 107, 0, 24), (27, .aload_n 0, 1, 0, 0, 0), (28, .iload_n 1, 1, 0, 0, 0), (29, .iload_n 2, 1, 0, 0, 0),
  (30, .invokevirtual 173, 3, 109, 2, 24), (33, .aload_n 0, 1, 0, 0, 0), (34, .getfield 19, 3, 6, 6, 1), (37, .iload_n 1, 1, 0, 0, 0), (38, .iaload, 1, 0, 0, 0), (39, .ireturn, 1, 0, 0, 0)]
def ct_X6_swap : List Nat := []
def cd_X6_rests : List nl_E := [(0, .aload_n 0, 1, 0, 0, 0), (1, .getfield 22, 3, 6, 7, 1), (4, .iload_n 1, 1, 0, 0, 0), (5, .iconst 0, 1, 0, 0, 0), (6, .aload_n 0, 1, 0, 0, 0), (7, .getfield 22, 3, 6, 7, 1),
  (10, .iload_n 1, 1, 0, 0, 0), (11, .iaload, 1, 0, 0, 0), (12, .iconst 5, 1, 0, 0, 0), (13, .isub, 1, 0, 0, 0), (14, .invokestatic 135, 3, 80, 2, 1), (17, .iastore, 1, 0, 0, 0),
  (18, .return_, 1, 0, 0, 0)]
def ct_X6_rests : List Nat := []
def cd_X6_rest : List nl_E := [(0, .aload_n 0, 1, 0, 0, 0), (1, .iload_n 1, 1, 0, 0, 0), (2, .invokevirtual 156, 3, 83, 1, 25), (5, .ifCond .ne 5, 3, 10, 0, 0), (8, .iconst (-1), 1, 0, 0, 0), (9, .ireturn, 1, 0, 0, 0),
  (10, .aload_n 0, 1, 0, 0, 0), (11, .getfield 22, 3, 6, 7, 1), (14, .iload_n 1, 1, 0, 0, 0), (15, .iaload, 1, 0, 0, 0), (16, .ifCond .ne 6, 3, 22, 0, 0), (19, .bipush (-2), 2, 0, 0, 0),
  (21, .ireturn, 1, 0, 0, 0), (22, .aload_n 0, 1, 0, 0, 0), (23, .invokevirtual 167, 3, 107, 0, 24), (26, .aload_n 0, 1, 0, 0, 0), (27, .iload_n 1, 1, 0, 0, 0), (28, .invokevirtual 177, 3, 111, 1, 24),
  (31, .aload_n 0, 1, 0, 0, 0), (32, .getfield 22, 3, 6, 7, 1), (35, .iload_n 1, 1, 0, 0, 0), (36, .iaload, 1, 0, 0, 0), (37, .ireturn, 1, 0, 0, 0)]
def ct_X6_rest : List Nat := []
def cd_X6_burden : List nl_E := [(0, .aload_n 0, 1, 0, 0, 0), (1, .iload_n 1, 1, 0, 0, 0), (2, .invokevirtual 156, 3, 83, 1, 25), (5, .ifCond .eq 13, 3, 18, 0, 0), (8, .iload_n 2, 1, 0, 0, 0), (9, .iconst 0, 1, 0, 0, 0),
  (10, .bipush 20, 2, 0, 0, 0), (12, .invokestatic 84, 3, 76, 3, 1), (15, .ifCond .ne 5, 3, 20, 0, 0), (18, .iconst (-1), 1, 0, 0, 0), (19, .ireturn, 1, 0, 0, 0), (20, .aload_n 0, 1, 0, 0, 0),
  (21, .getfield 31, 3, 6, 10, 1), (24, .iload_n 1, 1, 0, 0, 0), (25, .iaload, 1, 0, 0, 0), (26, .istore_n 3, 1, 0, 0, 0), (27, .iload_n 3, 1, 0, 0, 0), (28, .iload_n 2, 1, 0, 0, 0),
  (29, .if_icmp .ne 6, 3, 35, 0, 0), (32, .bipush (-2), 2, 0, 0, 0), (34, .ireturn, 1, 0, 0, 0), (35, .aload_n 0, 1, 0, 0, 0), (36, .invokevirtual 167, 3, 107, 0, 24), (39, .aload_n 0, 1, 0, 0, 0),
  (40, .getfield 31, 3, 6, 10, 1), (43, .iload_n 1, 1, 0, 0, 0), (44, .iload_n 2, 1, 0, 0, 0), (45, .iastore, 1, 0, 0, 0), (46, .iload_n 3, 1, 0, 0, 0), (47, .ireturn, 1, 0, 0, 0)]
def ct_X6_burden : List Nat := []
def cd_X6_undo : List nl_E := [(0, .aload_n 0, 1, 0, 0, 0), (1, .getfield 129, 3, 6, 24, 0), (4, .ifCond .ne 6, 3, 10, 0, 0), (7, .bipush (-2), 2, 0, 0, 0), (9, .ireturn, 1, 0, 0, 0), (10, .aload_n 0, 1, 0, 0, 0),
  (11, .dup, 1, 0, 0, 0), (12, .getfield 129, 3, 6, 24, 0), (15, .iconst 1, 1, 0, 0, 0), (16, .isub, 1, 0, 0, 0), (17, .putfield 129, 3, 6, 24, 0), (20, .aload_n 0, 1, 0, 0, 0),
  (21, .aload_n 0, 1, 0, 0, 0), (22, .getfield 52, 3, 6, 23, 1), (25, .bipush 79, 2, 0, 0, 0), (27, .aload_n 0, 1, 0, 0, 0), (28, .getfield 129, 3, 6, 24, 0), (31, .imul, 1, 0, 0, 0),
  (32, .invokevirtual 181, 3, 106, 2, 24), (35, .aload_n 0, 1, 0, 0, 0), (36, .getfield 129, 3, 6, 24, 0), (39, .ireturn, 1, 0, 0, 0)]
def ct_X6_undo : List Nat := []
def cd_X6_start : List nl_E := [(0, .aload_n 0, 1, 0, 0, 0), (1, .aload_n 0, 1, 0, 0, 0), (2, .getfield 55, 3, 6, 25, 1), (5, .iconst 0, 1, 0, 0, 0), (6, .invokevirtual 163, 3, 105, 2, 24), (9, .return_, 1, 0, 0, 0)]
def ct_X6_start : List Nat := []
def cd_X6_putBack : List nl_E := [(0, .aload_n 0, 1, 0, 0, 0), (1, .aload_n 0, 1, 0, 0, 0), (2, .getfield 55, 3, 6, 25, 1), (5, .iconst 0, 1, 0, 0, 0), (6, .invokevirtual 181, 3, 106, 2, 24), (9, .return_, 1, 0, 0, 0)]
def ct_X6_putBack : List Nat := []
def cd_X6_behind : List nl_E := [(0, .iload_n 1, 1, 0, 0, 0), (1, .iconst 0, 1, 0, 0, 0), (2, .bipush 40, 2, 0, 0, 0), (4, .invokestatic 84, 3, 76, 3, 1), (7, .ifCond .eq 20, 3, 27, 0, 0), (10, .aload_n 0, 1, 0, 0, 0),
  (11, .iload_n 2, 1, 0, 0, 0), (12, .invokevirtual 156, 3, 83, 1, 25), (15, .ifCond .eq 12, 3, 27, 0, 0), (18, .iload_n 3, 1, 0, 0, 0), (19, .iconst 0, 1, 0, 0, 0), (20, .iconst 1, 1, 0, 0, 0),
  (21, .invokestatic 84, 3, 76, 3, 1), (24, .ifCond .ne 5, 3, 29, 0, 0), (27, .iconst (-1), 1, 0, 0, 0), (28, .ireturn, 1, 0, 0, 0), (29, .aload_n 0, 1, 0, 0, 0), (30, .invokevirtual 184, 3, 115, 0, 24),
  (33, .aload_n 0, 1, 0, 0, 0), (34, .iload_n 1, 1, 0, 0, 0), (35, .invokevirtual 170, 3, 99, 1, 25), (38, .pop, 1, 0, 0, 0), (39, .iload_n 3, 1, 0, 0, 0), (40, .ifCond .ne 12, 3, 52, 0, 0),
  (43, .aload_n 0, 1, 0, 0, 0), (44, .getfield 22, 3, 6, 7, 1), (47, .iload_n 2, 1, 0, 0, 0), (48, .iaload, 1, 0, 0, 0), (49, .goto 9, 3, 58, 0, 0), (52, .aload_n 0, 1, 0, 0, 0),
  (53, .getfield 19, 3, 6, 6, 1), (56, .iload_n 2, 1, 0, 0, 0), (57, .iaload, 1, 0, 0, 0), (58, .istore 4, 2, 0, 0, 0), (60, .aload_n 0, 1, 0, 0, 0), (61, .invokevirtual 187, 3, 116, 0, 24),
  (64, .iload 4, 2, 0, 0, 0), (66, .ireturn, 1, 0, 0, 0)]
def ct_X6_behind : List Nat := []
def cd_X6_gaps : List nl_E := [(0, .aload_n 0, 1, 0, 0, 0), (1, .invokevirtual 190, 3, 97, 0, 25), (4, .ireturn, 1, 0, 0, 0)]
def ct_X6_gaps : List Nat := []
def cd_X6_first : List nl_E := [(0, .aload_n 0, 1, 0, 0, 0), (1, .iload_n 1, 1, 0, 0, 0), (2, .invokevirtual 156, 3, 83, 1, 25), (5, .ifCond .ne 5, 3, 10, 0, 0), (8, .iconst (-1), 1, 0, 0, 0), (9, .ireturn, 1, 0, 0, 0),
  (10, .aload_n 0, 1, 0, 0, 0), (11, .invokevirtual 184, 3, 115, 0, 24), (14, .aload_n 0, 1, 0, 0, 0), (15, .getfield 25, 3, 6, 8, 1), (18, .iload_n 1, 1, 0, 0, 0), (19, .iaload, 1, 0, 0, 0),
  (20, .istore_n 2, 1, 0, 0, 0), (21, .iconst 0, 1, 0, 0, 0), (22, .istore_n 3, 1, 0, 0, 0), (23, .iload_n 3, 1, 0, 0, 0), (24, .bipush 40, 2, 0, 0, 0), (26, .if_icmp .ge 24, 3, 50, 0, 0),
  (29, .aload_n 0, 1, 0, 0, 0), (30, .getfield 25, 3, 6, 8, 1), (33, .iload_n 1, 1, 0, 0, 0), (34, .iaload, 1, 0, 0, 0), (35, .iload_n 2, 1, 0, 0, 0), (36, .if_icmp .ne 14, 3, 50, 0, 0),
  (39, .aload_n 0, 1, 0, 0, 0), (40, .invokevirtual 153, 3, 98, 0, 25), (43, .pop, 1, 0, 0, 0), (44, .iinc 3 1, 3, 0, 0, 0), (47, .goto (-24), 3, 23, 0, 0), (50, .aload_n 0, 1, 0, 0, 0),
  (51, .getfield 25, 3, 6, 8, 1), (54, .iload_n 1, 1, 0, 0, 0), (55, .iaload, 1, 0, 0, 0), (56, .iload_n 2, 1, 0, 0, 0), (57, .if_icmp .le 7, 3, 64, 0, 0), (60, .iconst 1, 1, 0, 0, 0),
  (61, .goto 4, 3, 65, 0, 0), (64, .iconst 0, 1, 0, 0, 0), (65, .istore 4, 2, 0, 0, 0), (67, .aload_n 0, 1, 0, 0, 0), (68, .invokevirtual 187, 3, 116, 0, 24), (71, .iload 4, 2, 0, 0, 0),
  (73, .ifCond .eq 7, 3, 80, 0, 0), (76, .iload_n 3, 1, 0, 0, 0), (77, .goto 5, 3, 82, 0, 0), (80, .bipush (-4), 2, 0, 0, 0), (82, .ireturn, 1, 0, 0, 0)]
def ct_X6_first : List Nat := [23]
def cd_X6_firstRow : List nl_E := [(0, .iconst 0, 1, 0, 0, 0), (1, .istore_n 1, 1, 0, 0, 0), (2, .iload_n 1, 1, 0, 0, 0), (3, .aload_n 0, 1, 0, 0, 0), (4, .getfield 74, 3, 6, 0, 0), (7, .if_icmp .ge 16, 3, 23, 0, 0),
  (10, .aload_n 0, 1, 0, 0, 0), (11, .getfield 58, 3, 6, 26, 1), (14, .iload_n 1, 1, 0, 0, 0), (15, .iload_n 1, 1, 0, 0, 0), (16, .iastore, 1, 0, 0, 0), (17, .iinc 1 1, 3, 0, 0, 0),
  (20, .goto (-18), 3, 2, 0, 0), (23, .return_, 1, 0, 0, 0)]
def ct_X6_firstRow : List Nat := [2]
def cd_X6_nextRow : List nl_E := [(0, .aload_n 0, 1, 0, 0, 0), (1, .getfield 74, 3, 6, 0, 0), (4, .iconst 2, 1, 0, 0, 0), (5, .isub, 1, 0, 0, 0), (6, .istore_n 1, 1, 0, 0, 0), (7, .iload_n 1, 1, 0, 0, 0),
  (8, .ifCond .lt 26, 3, 34, 0, 0), (11, .aload_n 0, 1, 0, 0, 0), (12, .getfield 58, 3, 6, 26, 1), (15, .iload_n 1, 1, 0, 0, 0), (16, .iaload, 1, 0, 0, 0), (17, .aload_n 0, 1, 0, 0, 0),
  (18, .getfield 58, 3, 6, 26, 1), (21, .iload_n 1, 1, 0, 0, 0), (22, .iconst 1, 1, 0, 0, 0), (23, .iadd, 1, 0, 0, 0), (24, .iaload, 1, 0, 0, 0), (25, .if_icmp .le 9, 3, 34, 0, 0),
  (28, .iinc 1 (-1), 3, 0, 0, 0), (31, .goto (-24), 3, 7, 0, 0), (34, .iload_n 1, 1, 0, 0, 0), (35, .ifCond .ge 5, 3, 40, 0, 0), (38, .iconst 0, 1, 0, 0, 0), (39, .ireturn, 1, 0, 0, 0),
  (40, .aload_n 0, 1, 0, 0, 0), (41, .getfield 74, 3, 6, 0, 0), (44, .iconst 1, 1, 0, 0, 0), (45, .isub, 1, 0, 0, 0), (46, .istore_n 2, 1, 0, 0, 0), (47, .aload_n 0, 1, 0, 0, 0),
  (48, .getfield 58, 3, 6, 26, 1), (51, .iload_n 2, 1, 0, 0, 0), (52, .iaload, 1, 0, 0, 0), (53, .aload_n 0, 1, 0, 0, 0), (54, .getfield 58, 3, 6, 26, 1), (57, .iload_n 1, 1, 0, 0, 0),
  (58, .iaload, 1, 0, 0, 0), (59, .if_icmp .ge 9, 3, 68, 0, 0), (62, .iinc 2 (-1), 3, 0, 0, 0), (65, .goto (-18), 3, 47, 0, 0), (68, .aload_n 0, 1, 0, 0, 0), (69, .getfield 58, 3, 6, 26, 1),
  (72, .iload_n 1, 1, 0, 0, 0), (73, .iaload, 1, 0, 0, 0), (74, .istore_n 3, 1, 0, 0, 0), (75, .aload_n 0, 1, 0, 0, 0), (76, .getfield 58, 3, 6, 26, 1), (79, .iload_n 1, 1, 0, 0, 0),
  (80, .aload_n 0, 1, 0, 0, 0), (81, .getfield 58, 3, 6, 26, 1), (84, .iload_n 2, 1, 0, 0, 0), (85, .iaload, 1, 0, 0, 0), (86, .iastore, 1, 0, 0, 0), (87, .aload_n 0, 1, 0, 0, 0),
  (88, .getfield 58, 3, 6, 26, 1), (91, .iload_n 2, 1, 0, 0, 0), (92, .iload_n 3, 1, 0, 0, 0), (93, .iastore, 1, 0, 0, 0), (94, .aload_n 0, 1, 0, 0, 0), (95, .getfield 74, 3, 6, 0, 0),
  (98, .iconst 1, 1, 0, 0, 0), (99, .isub, 1, 0, 0, 0), (100, .istore 4, 2, 0, 0, 0), (102, .iload_n 1, 1, 0, 0, 0), (103, .iconst 1, 1, 0, 0, 0), (104, .iadd, 1, 0, 0, 0),
  (105, .istore 5, 2, 0, 0, 0), (107, .iload 5, 2, 0, 0, 0), (109, .iload 4, 2, 0, 0, 0), (111, .if_icmp .ge 44, 3, 155, 0, 0), (114, .aload_n 0, 1, 0, 0, 0), (115, .getfield 58, 3, 6, 26, 1),
  (118, .iload 5, 2, 0, 0, 0), (120, .iaload, 1, 0, 0, 0), (121, .istore 6, 2, 0, 0, 0), (123, .aload_n 0, 1, 0, 0, 0), (124, .getfield 58, 3, 6, 26, 1), (127, .iload 5, 2, 0, 0, 0),
  (129, .aload_n 0, 1, 0, 0, 0), (130, .getfield 58, 3, 6, 26, 1), (133, .iload 4, 2, 0, 0, 0), (135, .iaload, 1, 0, 0, 0), (136, .iastore, 1, 0, 0, 0), (137, .aload_n 0, 1, 0, 0, 0),
  (138, .getfield 58, 3, 6, 26, 1), (141, .iload 4, 2, 0, 0, 0), (143, .iload 6, 2, 0, 0, 0), (145, .iastore, 1, 0, 0, 0), (146, .iinc 4 (-1), 3, 0, 0, 0), (149, .iinc 5 1, 3, 0, 0, 0),
  (152, .goto (-45), 3, 107, 0, 0), (155, .iconst 1, 1, 0, 0, 0), (156, .ireturn, 1, 0, 0, 0)]
def ct_X6_nextRow : List Nat := [7, 47, 107]
def cd_X6_gapsBy : List nl_E := [(0, .iconst 0, 1, 0, 0, 0), (1, .istore_n 1, 1, 0, 0, 0), (2, .iconst 0, 1, 0, 0, 0), (3, .istore_n 2, 1, 0, 0, 0), (4, .iload_n 2, 1, 0, 0, 0), (5, .aload_n 0, 1, 0, 0, 0),
  (6, .getfield 74, 3, 6, 0, 0), (9, .if_icmp .ge 31, 3, 40, 0, 0), (12, .iload_n 1, 1, 0, 0, 0), (13, .aload_n 0, 1, 0, 0, 0), (14, .iload_n 2, 1, 0, 0, 0), (15, .aload_n 0, 1, 0, 0, 0),
  (16, .getfield 58, 3, 6, 26, 1), (19, .iload_n 2, 1, 0, 0, 0), (20, .iaload, 1, 0, 0, 0), (21, .invokevirtual 146, 3, 96, 2, 25), (24, .ifCond .eq 7, 3, 31, 0, 0), (27, .iconst 0, 1, 0, 0, 0),
  (28, .goto 4, 3, 32, 0, 0), (31, .iconst 1, 1, 0, 0, 0), (32, .iadd, 1, 0, 0, 0), (33, .istore_n 1, 1, 0, 0, 0), (34, .iinc 2 1, 3, 0, 0, 0), (37, .goto (-33), 3, 4, 0, 0),
  (40, .iload_n 1, 1, 0, 0, 0), (41, .ireturn, 1, 0, 0, 0)]
def ct_X6_gapsBy : List Nat := [4]
def cd_X6_keptWeight : List nl_E := [(0, .iconst 0, 1, 0, 0, 0), (1, .istore_n 1, 1, 0, 0, 0), (2, .iconst 0, 1, 0, 0, 0), (3, .istore_n 2, 1, 0, 0, 0), (4, .iload_n 2, 1, 0, 0, 0), (5, .aload_n 0, 1, 0, 0, 0),
  (6, .getfield 74, 3, 6, 0, 0), (9, .if_icmp .ge 41, 3, 50, 0, 0), (12, .iload_n 1, 1, 0, 0, 0), (13, .aload_n 0, 1, 0, 0, 0), (14, .iload_n 2, 1, 0, 0, 0), (15, .aload_n 0, 1, 0, 0, 0),
  (16, .getfield 58, 3, 6, 26, 1), (19, .iload_n 2, 1, 0, 0, 0), (20, .iaload, 1, 0, 0, 0), (21, .invokevirtual 146, 3, 96, 2, 25), (24, .ifCond .eq 17, 3, 41, 0, 0), (27, .aload_n 0, 1, 0, 0, 0),
  (28, .iload_n 2, 1, 0, 0, 0), (29, .aload_n 0, 1, 0, 0, 0), (30, .getfield 58, 3, 6, 26, 1), (33, .iload_n 2, 1, 0, 0, 0), (34, .iaload, 1, 0, 0, 0), (35, .invokevirtual 143, 3, 95, 2, 25),
  (38, .goto 4, 3, 42, 0, 0), (41, .iconst 0, 1, 0, 0, 0), (42, .iadd, 1, 0, 0, 0), (43, .istore_n 1, 1, 0, 0, 0), (44, .iinc 2 1, 3, 0, 0, 0), (47, .goto (-43), 3, 4, 0, 0),
  (50, .iload_n 1, 1, 0, 0, 0), (51, .ireturn, 1, 0, 0, 0)]
def ct_X6_keptWeight : List Nat := [4]
def cd_X6_even : List nl_E := [(0, .iload_n 1, 1, 0, 0, 0), (1, .iconst (-1), 1, 0, 0, 0), (2, .aload_n 0, 1, 0, 0, 0), (3, .getfield 74, 3, 6, 0, 0), (6, .iconst 1, 1, 0, 0, 0), (7, .isub, 1, 0, 0, 0),
  (8, .invokestatic 84, 3, 76, 3, 1), (11, .ifCond .ne 5, 3, 16, 0, 0), (14, .iconst (-1), 1, 0, 0, 0), (15, .ireturn, 1, 0, 0, 0), (16, .ldc 193, 2, 1048576, 0, 0), (18, .istore_n 2, 1, 0, 0, 0),
  (19, .bipush (-4), 2, 0, 0, 0), (21, .istore_n 3, 1, 0, 0, 0), (22, .aload_n 0, 1, 0, 0, 0), (23, .invokevirtual 194, 3, 120, 0, 24), (26, .iconst 1, 1, 0, 0, 0), (27, .istore 4, 2, 0, 0, 0),
  (29, .iload 4, 2, 0, 0, 0), (31, .ifCond .eq 80, 3, 111, 0, 0), (34, .aload_n 0, 1, 0, 0, 0), (35, .invokevirtual 197, 3, 122, 0, 25), (38, .istore 5, 2, 0, 0, 0), (40, .aload_n 0, 1, 0, 0, 0),
  (41, .invokevirtual 200, 3, 123, 0, 25), (44, .istore 6, 2, 0, 0, 0), (46, .iload 5, 2, 0, 0, 0), (48, .iload_n 2, 1, 0, 0, 0), (49, .if_icmp .lt 15, 3, 64, 0, 0), (52, .iload 5, 2, 0, 0, 0),
  (54, .iload_n 2, 1, 0, 0, 0), (55, .if_icmp .ne 47, 3, 102, 0, 0), (58, .iload 6, 2, 0, 0, 0), (60, .iload_n 3, 1, 0, 0, 0), (61, .if_icmp .le 41, 3, 102, 0, 0), (64, .iload 5, 2, 0, 0, 0),
  (66, .istore_n 2, 1, 0, 0, 0), (67, .iload 6, 2, 0, 0, 0), (69, .istore_n 3, 1, 0, 0, 0), (70, .iconst 0, 1, 0, 0, 0), (71, .istore 7, 2, 0, 0, 0), (73, .iload 7, 2, 0, 0, 0),
  (75, .aload_n 0, 1, 0, 0, 0), (76, .getfield 74, 3, 6, 0, 0), (79, .if_icmp .ge 23, 3, 102, 0, 0), (82, .aload_n 0, 1, 0, 0, 0), (83, .getfield 61, 3, 6, 27, 1), (86, .iload 7, 2, 0, 0, 0),
  (88, .aload_n 0, 1, 0, 0, 0), (89, .getfield 58, 3, 6, 26, 1), (92, .iload 7, 2, 0, 0, 0), (94, .iaload, 1, 0, 0, 0), (95, .iastore, 1, 0, 0, 0), (96, .iinc 7 1, 3, 0, 0, 0),
  (99, .goto (-26), 3, 73, 0, 0), (102, .aload_n 0, 1, 0, 0, 0), (103, .invokevirtual 203, 3, 121, 0, 25), (106, .istore 4, 2, 0, 0, 0), (108, .goto (-79), 3, 29, 0, 0), (111, .iload_n 1, 1, 0, 0, 0),
  (112, .ifCond .ge 7, 3, 119, 0, 0), (115, .iload_n 2, 1, 0, 0, 0), (116, .goto 9, 3, 125, 0, 0), (119, .aload_n 0, 1, 0, 0, 0), (120, .getfield 61, 3, 6, 27, 1), (123, .iload_n 1, 1, 0, 0, 0),
  (124, .iaload, 1, 0, 0, 0), (125, .ireturn, 1, 0, 0, 0)]
def ct_X6_even : List Nat := [29, 73]
def cd_X6_swapsTo : List nl_E := [(0, .aload_n 0, 1, 0, 0, 0), (1, .getfield 74, 3, 6, 0, 0), (4, .istore_n 1, 1, 0, 0, 0), (5, .iconst 0, 1, 0, 0, 0), (6, .istore_n 2, 1, 0, 0, 0), (7, .iconst 0, 1, 0, 0, 0),
  (8, .istore_n 3, 1, 0, 0, 0), (9, .iload_n 3, 1, 0, 0, 0), (10, .aload_n 0, 1, 0, 0, 0), (11, .getfield 74, 3, 6, 0, 0), (14, .if_icmp .ge 60, 3, 74, 0, 0), (17, .iload_n 3, 1, 0, 0, 0),
  (18, .istore 4, 2, 0, 0, 0), (20, .iload_n 1, 1, 0, 0, 0), (21, .iload_n 2, 1, 0, 0, 0), (22, .iload_n 3, 1, 0, 0, 0), (23, .invokestatic 206, 3, 77, 2, 1), (26, .ifCond .eq 7, 3, 33, 0, 0),
  (29, .iconst 0, 1, 0, 0, 0), (30, .goto 4, 3, 34, 0, 0), (33, .iconst 1, 1, 0, 0, 0), (34, .isub, 1, 0, 0, 0), (35, .istore_n 1, 1, 0, 0, 0), (36, .iload_n 2, 1, 0, 0, 0),
  (37, .iload 4, 2, 0, 0, 0), (39, .invokestatic 206, 3, 77, 2, 1), (42, .ifCond .ne 26, 3, 68, 0, 0), (45, .iload_n 2, 1, 0, 0, 0), (46, .iconst 1, 1, 0, 0, 0), (47, .iload 4, 2, 0, 0, 0),
  (49, .ishl, 1, 0, 0, 0), (50, .ior, 1, 0, 0, 0), (51, .istore_n 2, 1, 0, 0, 0), (52, .aload_n 0, 1, 0, 0, 0), (53, .aload_n 0, 1, 0, 0, 0), (54, .getfield 58, 3, 6, 26, 1),
  (57, .iload 4, 2, 0, 0, 0), (59, .iaload, 1, 0, 0, 0), (60, .invokevirtual 160, 3, 101, 1, 25), (63, .istore 4, 2, 0, 0, 0), (65, .goto (-29), 3, 36, 0, 0), (68, .iinc 3 1, 3, 0, 0, 0),
  (71, .goto (-62), 3, 9, 0, 0), (74, .iload_n 1, 1, 0, 0, 0), (75, .ireturn, 1, 0, 0, 0)]
def ct_X6_swapsTo : List Nat := [9, 36]
def cd_X6_swaps : List nl_E := [(0, .ldc 193, 2, 1048576, 0, 0), (2, .istore_n 1, 1, 0, 0, 0), (3, .aload_n 0, 1, 0, 0, 0), (4, .invokevirtual 194, 3, 120, 0, 24), (7, .iconst 1, 1, 0, 0, 0), (8, .istore_n 2, 1, 0, 0, 0),
  (9, .iload_n 2, 1, 0, 0, 0), (10, .ifCond .eq 27, 3, 37, 0, 0), (13, .aload_n 0, 1, 0, 0, 0), (14, .invokevirtual 197, 3, 122, 0, 25), (17, .ifCond .ne 12, 3, 29, 0, 0), (20, .iload_n 1, 1, 0, 0, 0),
  (21, .aload_n 0, 1, 0, 0, 0), (22, .invokevirtual 209, 3, 125, 0, 25), (25, .invokestatic 150, 3, 79, 2, 1), (28, .istore_n 1, 1, 0, 0, 0), (29, .aload_n 0, 1, 0, 0, 0), (30, .invokevirtual 203, 3, 121, 0, 25),
  (33, .istore_n 2, 1, 0, 0, 0), (34, .goto (-25), 3, 9, 0, 0), (37, .iload_n 1, 1, 0, 0, 0), (38, .ldc 193, 2, 1048576, 0, 0), (40, .if_icmp .ne 8, 3, 48, 0, 0), (43, .bipush (-4), 2, 0, 0, 0),
  (45, .goto 4, 3, 49, 0, 0), (48, .iload_n 1, 1, 0, 0, 0), (49, .ireturn, 1, 0, 0, 0)]
def ct_X6_swaps : List Nat := [9]
def cd_X6_off : List nl_E := [(0, .iload_n 0, 1, 0, 0, 0), (1, .iload_n 1, 1, 0, 0, 0), (2, .if_icmp .le 9, 3, 11, 0, 0), (5, .iload_n 0, 1, 0, 0, 0), (6, .iload_n 1, 1, 0, 0, 0), (7, .isub, 1, 0, 0, 0),
  (8, .goto 6, 3, 14, 0, 0), (11, .iload_n 1, 1, 0, 0, 0), (12, .iload_n 0, 1, 0, 0, 0), (13, .isub, 1, 0, 0, 0), (14, .ireturn, 1, 0, 0, 0)]
def ct_X6_off : List Nat := []
def cd_X6_far : List nl_E := [(0, .iload_n 1, 1, 0, 0, 0), (1, .iconst 0, 1, 0, 0, 0), (2, .iconst 1, 1, 0, 0, 0), (3, .invokestatic 84, 3, 76, 3, 1), (6, .ifCond .ne 5, 3, 11, 0, 0), (9, .iconst (-1), 1, 0, 0, 0),
  (10, .ireturn, 1, 0, 0, 0), (11, .iconst 0, 1, 0, 0, 0), (12, .istore_n 2, 1, 0, 0, 0), (13, .aload_n 0, 1, 0, 0, 0), (14, .getfield 16, 3, 6, 3, 1), (17, .iconst 0, 1, 0, 0, 0),
  (18, .iaload, 1, 0, 0, 0), (19, .istore_n 3, 1, 0, 0, 0), (20, .aload_n 0, 1, 0, 0, 0), (21, .getfield 16, 3, 6, 3, 1), (24, .iconst 0, 1, 0, 0, 0), (25, .iaload, 1, 0, 0, 0),
  (26, .istore 4, 2, 0, 0, 0), (28, .iconst 1, 1, 0, 0, 0), (29, .istore 5, 2, 0, 0, 0), (31, .iload 5, 2, 0, 0, 0), (33, .aload_n 0, 1, 0, 0, 0), (34, .getfield 74, 3, 6, 0, 0),
  (37, .if_icmp .ge 65, 3, 102, 0, 0), (40, .iload_n 2, 1, 0, 0, 0), (41, .aload_n 0, 1, 0, 0, 0), (42, .getfield 16, 3, 6, 3, 1), (45, .aload_n 0, 1, 0, 0, 0), (46, .iload 5, 2, 0, 0, 0),
  (48, .iconst 1, 1, 0, 0, 0), (49, .isub, 1, 0, 0, 0), (50, .invokevirtual 160, 3, 101, 1, 25), (53, .iaload, 1, 0, 0, 0), (54, .aload_n 0, 1, 0, 0, 0), (55, .getfield 16, 3, 6, 3, 1),
  (58, .aload_n 0, 1, 0, 0, 0), (59, .iload 5, 2, 0, 0, 0), (61, .invokevirtual 160, 3, 101, 1, 25), (64, .iaload, 1, 0, 0, 0), (65, .invokestatic 212, 3, 127, 2, 1), (68, .iadd, 1, 0, 0, 0),
  (69, .istore_n 2, 1, 0, 0, 0), (70, .iload_n 3, 1, 0, 0, 0), (71, .aload_n 0, 1, 0, 0, 0), (72, .getfield 16, 3, 6, 3, 1), (75, .iload 5, 2, 0, 0, 0), (77, .iaload, 1, 0, 0, 0),
  (78, .invokestatic 150, 3, 79, 2, 1), (81, .istore_n 3, 1, 0, 0, 0), (82, .iload 4, 2, 0, 0, 0), (84, .aload_n 0, 1, 0, 0, 0), (85, .getfield 16, 3, 6, 3, 1), (88, .iload 5, 2, 0, 0, 0),
  (90, .iaload, 1, 0, 0, 0), (91, .invokestatic 135, 3, 80, 2, 1), (94, .istore 4, 2, 0, 0, 0), (96, .iinc 5 1, 3, 0, 0, 0), (99, .goto (-68), 3, 31, 0, 0), (102, .iload_n 1, 1, 0, 0, 0),
  (103, .ifCond .ne 7, 3, 110, 0, 0), (106, .iload_n 2, 1, 0, 0, 0), (107, .goto 7, 3, 114, 0, 0), (110, .iload 4, 2, 0, 0, 0), (112, .iload_n 3, 1, 0, 0, 0), (113, .isub, 1, 0, 0, 0),
  (114, .ireturn, 1, 0, 0, 0)]
def ct_X6_far : List Nat := [31]
def cd_X6_lamps : List nl_E := [(0, .iload_n 1, 1, 0, 0, 0), (1, .iconst 1, 1, 0, 0, 0), (2, .bipush 40, 2, 0, 0, 0), (4, .invokestatic 84, 3, 76, 3, 1), (7, .ifCond .eq 12, 3, 19, 0, 0), (10, .iload_n 2, 1, 0, 0, 0),
  (11, .iconst 0, 1, 0, 0, 0), (12, .iconst 1, 1, 0, 0, 0), (13, .invokestatic 84, 3, 76, 3, 1), (16, .ifCond .ne 5, 3, 21, 0, 0), (19, .iconst (-1), 1, 0, 0, 0), (20, .ireturn, 1, 0, 0, 0),
  (21, .bipush (-4), 2, 0, 0, 0), (23, .istore_n 3, 1, 0, 0, 0), (24, .ldc 193, 2, 1048576, 0, 0), (26, .istore 4, 2, 0, 0, 0), (28, .iconst 0, 1, 0, 0, 0), (29, .istore 5, 2, 0, 0, 0),
  (31, .iload 5, 2, 0, 0, 0), (33, .iconst 1, 1, 0, 0, 0), (34, .aload_n 0, 1, 0, 0, 0), (35, .getfield 74, 3, 6, 0, 0), (38, .ishl, 1, 0, 0, 0), (39, .if_icmp .ge 79, 3, 118, 0, 0),
  (42, .iload 5, 2, 0, 0, 0), (44, .invokestatic 215, 3, 78, 1, 1), (47, .iload 4, 2, 0, 0, 0), (49, .if_icmp .ge 63, 3, 112, 0, 0), (52, .aload_n 0, 1, 0, 0, 0), (53, .invokevirtual 184, 3, 115, 0, 24),
  (56, .iconst 0, 1, 0, 0, 0), (57, .istore 6, 2, 0, 0, 0), (59, .iload 6, 2, 0, 0, 0), (61, .aload_n 0, 1, 0, 0, 0), (62, .getfield 74, 3, 6, 0, 0), (65, .if_icmp .ge 25, 3, 90, 0, 0),
  (68, .iload 5, 2, 0, 0, 0), (70, .iload 6, 2, 0, 0, 0), (72, .invokestatic 206, 3, 77, 2, 1), (75, .ifCond .eq 9, 3, 84, 0, 0), (78, .aload_n 0, 1, 0, 0, 0), (79, .iload 6, 2, 0, 0, 0),
  (81, .invokevirtual 177, 3, 111, 1, 24), (84, .iinc 6 1, 3, 0, 0, 0), (87, .goto (-28), 3, 59, 0, 0), (90, .aload_n 0, 1, 0, 0, 0), (91, .iload_n 1, 1, 0, 0, 0), (92, .invokevirtual 170, 3, 99, 1, 25),
  (95, .ifCond .ne 13, 3, 108, 0, 0), (98, .iload 5, 2, 0, 0, 0), (100, .istore_n 3, 1, 0, 0, 0), (101, .iload 5, 2, 0, 0, 0), (103, .invokestatic 215, 3, 78, 1, 1), (106, .istore 4, 2, 0, 0, 0),
  (108, .aload_n 0, 1, 0, 0, 0), (109, .invokevirtual 187, 3, 116, 0, 24), (112, .iinc 5 1, 3, 0, 0, 0), (115, .goto (-84), 3, 31, 0, 0), (118, .iload_n 3, 1, 0, 0, 0), (119, .bipush (-4), 2, 0, 0, 0),
  (121, .if_icmp .eq 8, 3, 129, 0, 0), (124, .iload_n 2, 1, 0, 0, 0), (125, .iconst 1, 1, 0, 0, 0), (126, .if_icmp .ne 7, 3, 133, 0, 0), (129, .iload_n 3, 1, 0, 0, 0), (130, .goto 5, 3, 135, 0, 0),
  (133, .iload 4, 2, 0, 0, 0), (135, .ireturn, 1, 0, 0, 0)]
def ct_X6_lamps : List Nat := [31, 59]
def cd_X6_seen : List nl_E := [(0, .iload_n 1, 1, 0, 0, 0), (1, .iconst 0, 1, 0, 0, 0), (2, .bipush 20, 2, 0, 0, 0), (4, .invokestatic 84, 3, 76, 3, 1), (7, .ifCond .eq 20, 3, 27, 0, 0), (10, .aload_n 0, 1, 0, 0, 0),
  (11, .iload_n 2, 1, 0, 0, 0), (12, .invokevirtual 156, 3, 83, 1, 25), (15, .ifCond .eq 12, 3, 27, 0, 0), (18, .iload_n 3, 1, 0, 0, 0), (19, .iconst 0, 1, 0, 0, 0), (20, .iconst 1, 1, 0, 0, 0),
  (21, .invokestatic 84, 3, 76, 3, 1), (24, .ifCond .ne 5, 3, 29, 0, 0), (27, .iconst (-1), 1, 0, 0, 0), (28, .ireturn, 1, 0, 0, 0), (29, .aload_n 0, 1, 0, 0, 0), (30, .getfield 126, 3, 6, 11, 0),
  (33, .bipush 6, 2, 0, 0, 0), (35, .if_icmp .ne 6, 3, 41, 0, 0), (38, .bipush (-3), 2, 0, 0, 0), (40, .ireturn, 1, 0, 0, 0), (41, .aload_n 0, 1, 0, 0, 0), (42, .getfield 34, 3, 6, 12, 1),
  (45, .aload_n 0, 1, 0, 0, 0), (46, .getfield 126, 3, 6, 11, 0), (49, .iload_n 1, 1, 0, 0, 0), (50, .iastore, 1, 0, 0, 0), (51, .aload_n 0, 1, 0, 0, 0), (52, .getfield 37, 3, 6, 13, 1),
  (55, .aload_n 0, 1, 0, 0, 0), (56, .getfield 126, 3, 6, 11, 0), (59, .iload_n 2, 1, 0, 0, 0), (60, .iastore, 1, 0, 0, 0), (61, .aload_n 0, 1, 0, 0, 0), (62, .getfield 40, 3, 6, 14, 1),
  (65, .aload_n 0, 1, 0, 0, 0), (66, .getfield 126, 3, 6, 11, 0), (69, .iload_n 3, 1, 0, 0, 0), (70, .iastore, 1, 0, 0, 0), (71, .aload_n 0, 1, 0, 0, 0), (72, .dup, 1, 0, 0, 0),
  (73, .getfield 126, 3, 6, 11, 0), (76, .iconst 1, 1, 0, 0, 0), (77, .iadd, 1, 0, 0, 0), (78, .putfield 126, 3, 6, 11, 0), (81, .aload_n 0, 1, 0, 0, 0), (82, .getfield 126, 3, 6, 11, 0),
  (85, .ireturn, 1, 0, 0, 0)]
def ct_X6_seen : List Nat := []
def cd_X6_forget : List nl_E := [(0, .aload_n 0, 1, 0, 0, 0), (1, .getfield 126, 3, 6, 11, 0), (4, .istore_n 1, 1, 0, 0, 0), (5, .aload_n 0, 1, 0, 0, 0), (6, .iconst 0, 1, 0, 0, 0), (7, .putfield 126, 3, 6, 11, 0),
  (10, .iload_n 1, 1, 0, 0, 0), (11, .ireturn, 1, 0, 0, 0)]
def ct_X6_forget : List Nat := []
def cd_X6_isSo : List nl_E := [(0, .aload_n 0, 1, 0, 0, 0), (1, .invokevirtual 184, 3, 115, 0, 24), (4, .iconst 1, 1, 0, 0, 0), (5, .istore_n 1, 1, 0, 0, 0), (6, .iconst 0, 1, 0, 0, 0), (7, .istore_n 2, 1, 0, 0, 0),
  (8, .iload_n 2, 1, 0, 0, 0), (9, .bipush 20, 2, 0, 0, 0), (11, .if_icmp .gt 79, 3, 90, 0, 0), (14, .aload_n 0, 1, 0, 0, 0), (15, .invokevirtual 190, 3, 97, 0, 25), (18, .istore_n 3, 1, 0, 0, 0),
  (19, .iconst 0, 1, 0, 0, 0), (20, .istore 4, 2, 0, 0, 0), (22, .iload 4, 2, 0, 0, 0), (24, .aload_n 0, 1, 0, 0, 0), (25, .getfield 126, 3, 6, 11, 0), (28, .if_icmp .ge 51, 3, 79, 0, 0),
  (31, .iload_n 1, 1, 0, 0, 0), (32, .ifCond .eq 39, 3, 71, 0, 0), (35, .aload_n 0, 1, 0, 0, 0), (36, .getfield 34, 3, 6, 12, 1), (39, .iload 4, 2, 0, 0, 0), (41, .iaload, 1, 0, 0, 0),
  (42, .iload_n 2, 1, 0, 0, 0), (43, .if_icmp .ne 24, 3, 67, 0, 0), (46, .iload_n 3, 1, 0, 0, 0), (47, .aload_n 0, 1, 0, 0, 0), (48, .getfield 37, 3, 6, 13, 1), (51, .iload 4, 2, 0, 0, 0),
  (53, .iaload, 1, 0, 0, 0), (54, .ishr, 1, 0, 0, 0), (55, .iconst 1, 1, 0, 0, 0), (56, .iand, 1, 0, 0, 0), (57, .aload_n 0, 1, 0, 0, 0), (58, .getfield 40, 3, 6, 14, 1),
  (61, .iload 4, 2, 0, 0, 0), (63, .iaload, 1, 0, 0, 0), (64, .if_icmp .ne 7, 3, 71, 0, 0), (67, .iconst 1, 1, 0, 0, 0), (68, .goto 4, 3, 72, 0, 0), (71, .iconst 0, 1, 0, 0, 0),
  (72, .istore_n 1, 1, 0, 0, 0), (73, .iinc 4 1, 3, 0, 0, 0), (76, .goto (-54), 3, 22, 0, 0), (79, .aload_n 0, 1, 0, 0, 0), (80, .invokevirtual 153, 3, 98, 0, 25), (83, .pop, 1, 0, 0, 0),
  (84, .iinc 2 1, 3, 0, 0, 0), (87, .goto (-79), 3, 8, 0, 0), (90, .aload_n 0, 1, 0, 0, 0), (91, .invokevirtual 187, 3, 116, 0, 24), (94, .iload_n 1, 1, 0, 0, 0), (95, .ireturn, 1, 0, 0, 0)]
def ct_X6_isSo : List Nat := [8, 22]
def cd_X6_kinds : List nl_E := [(0, .aload_n 0, 1, 0, 0, 0), (1, .iload_n 1, 1, 0, 0, 0), (2, .invokevirtual 156, 3, 83, 1, 25), (5, .ifCond .ne 5, 3, 10, 0, 0), (8, .iconst (-1), 1, 0, 0, 0), (9, .ireturn, 1, 0, 0, 0),
  (10, .aload_n 0, 1, 0, 0, 0), (11, .getfield 9, 3, 6, 1, 1), (14, .iload_n 1, 1, 0, 0, 0), (15, .iaload, 1, 0, 0, 0), (16, .istore_n 2, 1, 0, 0, 0), (17, .iconst 0, 1, 0, 0, 0),
  (18, .istore_n 3, 1, 0, 0, 0), (19, .iconst 0, 1, 0, 0, 0), (20, .istore 4, 2, 0, 0, 0), (22, .iload 4, 2, 0, 0, 0), (24, .iconst 3, 1, 0, 0, 0), (25, .if_icmp .gt 35, 3, 60, 0, 0),
  (28, .aload_n 0, 1, 0, 0, 0), (29, .getfield 9, 3, 6, 1, 1), (32, .iload_n 1, 1, 0, 0, 0), (33, .iload 4, 2, 0, 0, 0), (35, .iastore, 1, 0, 0, 0), (36, .iload_n 3, 1, 0, 0, 0),
  (37, .aload_n 0, 1, 0, 0, 0), (38, .invokevirtual 218, 3, 132, 0, 25), (41, .ifCond .eq 10, 3, 51, 0, 0), (44, .iconst 1, 1, 0, 0, 0), (45, .iload 4, 2, 0, 0, 0), (47, .ishl, 1, 0, 0, 0),
  (48, .goto 4, 3, 52, 0, 0), (51, .iconst 0, 1, 0, 0, 0), (52, .ior, 1, 0, 0, 0), (53, .istore_n 3, 1, 0, 0, 0), (54, .iinc 4 1, 3, 0, 0, 0), (57, .goto (-35), 3, 22, 0, 0),
  (60, .aload_n 0, 1, 0, 0, 0), (61, .getfield 9, 3, 6, 1, 1), (64, .iload_n 1, 1, 0, 0, 0), (65, .iload_n 2, 1, 0, 0, 0), (66, .iastore, 1, 0, 0, 0), (67, .iload_n 3, 1, 0, 0, 0),
  (68, .ireturn, 1, 0, 0, 0)]
def ct_X6_kinds : List Nat := [22]
def cd_X6_strengths : List nl_E := [(0, .aload_n 0, 1, 0, 0, 0), (1, .iload_n 1, 1, 0, 0, 0), (2, .invokevirtual 156, 3, 83, 1, 25), (5, .ifCond .eq 12, 3, 17, 0, 0), (8, .iload_n 2, 1, 0, 0, 0), (9, .iconst 0, 1, 0, 0, 0),
  (10, .iconst 1, 1, 0, 0, 0), (11, .invokestatic 84, 3, 76, 3, 1), (14, .ifCond .ne 5, 3, 19, 0, 0), (17, .iconst (-1), 1, 0, 0, 0), (18, .ireturn, 1, 0, 0, 0), (19, .aload_n 0, 1, 0, 0, 0),
  (20, .getfield 13, 3, 6, 2, 1), (23, .iload_n 1, 1, 0, 0, 0), (24, .iaload, 1, 0, 0, 0), (25, .istore_n 3, 1, 0, 0, 0), (26, .iconst 0, 1, 0, 0, 0), (27, .istore 4, 2, 0, 0, 0),
  (29, .bipush (-4), 2, 0, 0, 0), (31, .istore 5, 2, 0, 0, 0), (33, .bipush 40, 2, 0, 0, 0), (35, .istore 6, 2, 0, 0, 0), (37, .iload 6, 2, 0, 0, 0), (39, .ifCond .lt 52, 3, 91, 0, 0),
  (42, .aload_n 0, 1, 0, 0, 0), (43, .getfield 13, 3, 6, 2, 1), (46, .iload_n 1, 1, 0, 0, 0), (47, .iload 6, 2, 0, 0, 0), (49, .iastore, 1, 0, 0, 0), (50, .aload_n 0, 1, 0, 0, 0),
  (51, .invokevirtual 218, 3, 132, 0, 25), (54, .istore 7, 2, 0, 0, 0), (56, .iload 4, 2, 0, 0, 0), (58, .iload 7, 2, 0, 0, 0), (60, .ifCond .eq 7, 3, 67, 0, 0), (63, .iconst 1, 1, 0, 0, 0),
  (64, .goto 4, 3, 68, 0, 0), (67, .iconst 0, 1, 0, 0, 0), (68, .iadd, 1, 0, 0, 0), (69, .istore 4, 2, 0, 0, 0), (71, .iload 7, 2, 0, 0, 0), (73, .ifCond .eq 8, 3, 81, 0, 0),
  (76, .iload 6, 2, 0, 0, 0), (78, .goto 5, 3, 83, 0, 0), (81, .iload 5, 2, 0, 0, 0), (83, .istore 5, 2, 0, 0, 0), (85, .iinc 6 (-1), 3, 0, 0, 0), (88, .goto (-51), 3, 37, 0, 0),
  (91, .aload_n 0, 1, 0, 0, 0), (92, .getfield 13, 3, 6, 2, 1), (95, .iload_n 1, 1, 0, 0, 0), (96, .iload_n 3, 1, 0, 0, 0), (97, .iastore, 1, 0, 0, 0), (98, .iload_n 2, 1, 0, 0, 0),
  (99, .ifCond .ne 8, 3, 107, 0, 0), (102, .iload 4, 2, 0, 0, 0), (104, .goto 5, 3, 109, 0, 0), (107, .iload 5, 2, 0, 0, 0), (109, .ireturn, 1, 0, 0, 0)]
def ct_X6_strengths : List Nat := [37]
def cd_X6_common : List nl_E := [(0, .lload_n 0, 1, 0, 0, 0), (1, .lstore 4, 2, 0, 0, 0), (3, .lload_n 2, 1, 0, 0, 0), (4, .lstore 6, 2, 0, 0, 0), (6, .lload 6, 2, 0, 0, 0), (8, .lconst 0, 1, 0, 0, 0),
  (9, .lcmp, 1, 0, 0, 0), (10, .ifCond .eq 21, 3, 31, 0, 0), (13, .lload 4, 2, 0, 0, 0), (15, .lload 6, 2, 0, 0, 0), (17, .lrem, 1, 0, 0, 0), (18, .lstore 8, 2, 0, 0, 0),
  (20, .lload 6, 2, 0, 0, 0), (22, .lstore 4, 2, 0, 0, 0), (24, .lload 8, 2, 0, 0, 0), (26, .lstore 6, 2, 0, 0, 0), (28, .goto (-22), 3, 6, 0, 0), (31, .lload 4, 2, 0, 0, 0),
  (33, .lreturn, 1, 0, 0, 0)]
def ct_X6_common : List Nat := [6]
def cd_X6_likely : List nl_E := [(0, .aload_n 0, 1, 0, 0, 0), (1, .iload_n 1, 1, 0, 0, 0), (2, .invokevirtual 156, 3, 83, 1, 25), (5, .ifCond .eq 22, 3, 27, 0, 0), (8, .iload_n 2, 1, 0, 0, 0), (9, .iconst 0, 1, 0, 0, 0),
  (10, .bipush 9, 2, 0, 0, 0), (12, .invokestatic 84, 3, 76, 3, 1), (15, .ifCond .eq 12, 3, 27, 0, 0), (18, .iload_n 3, 1, 0, 0, 0), (19, .iconst 0, 1, 0, 0, 0), (20, .iconst 1, 1, 0, 0, 0),
  (21, .invokestatic 84, 3, 76, 3, 1), (24, .ifCond .ne 5, 3, 29, 0, 0), (27, .iconst (-1), 1, 0, 0, 0), (28, .ireturn, 1, 0, 0, 0), (29, .aload_n 0, 1, 0, 0, 0), (30, .getfield 22, 3, 6, 7, 1),
  (33, .iload_n 1, 1, 0, 0, 0), (34, .iaload, 1, 0, 0, 0), (35, .istore 4, 2, 0, 0, 0), (37, .lconst 0, 1, 0, 0, 0), (38, .lstore 5, 2, 0, 0, 0), (40, .iconst 0, 1, 0, 0, 0),
  (41, .istore 7, 2, 0, 0, 0), (43, .iload 7, 2, 0, 0, 0), (45, .aload_n 0, 1, 0, 0, 0), (46, .getfield 74, 3, 6, 0, 0), (49, .if_icmp .ge 77, 3, 126, 0, 0), (52, .aload_n 0, 1, 0, 0, 0),
  (53, .getfield 22, 3, 6, 7, 1), (56, .iload_n 1, 1, 0, 0, 0), (57, .bipush 40, 2, 0, 0, 0), (59, .iload 4, 2, 0, 0, 0), (61, .iload_n 2, 1, 0, 0, 0), (62, .iadd, 1, 0, 0, 0),
  (63, .invokestatic 150, 3, 79, 2, 1), (66, .iastore, 1, 0, 0, 0), (67, .lload 5, 2, 0, 0, 0), (69, .aload_n 0, 1, 0, 0, 0), (70, .iload_n 1, 1, 0, 0, 0), (71, .iload 7, 2, 0, 0, 0),
  (73, .invokevirtual 146, 3, 96, 2, 25), (76, .ifCond .eq 8, 3, 84, 0, 0), (79, .iload_n 2, 1, 0, 0, 0), (80, .i2l, 1, 0, 0, 0), (81, .goto 4, 3, 85, 0, 0), (84, .lconst 0, 1, 0, 0, 0),
  (85, .ladd, 1, 0, 0, 0), (86, .lstore 5, 2, 0, 0, 0), (88, .aload_n 0, 1, 0, 0, 0), (89, .getfield 22, 3, 6, 7, 1), (92, .iload_n 1, 1, 0, 0, 0), (93, .iload 4, 2, 0, 0, 0),
  (95, .iastore, 1, 0, 0, 0), (96, .lload 5, 2, 0, 0, 0), (98, .aload_n 0, 1, 0, 0, 0), (99, .iload_n 1, 1, 0, 0, 0), (100, .iload 7, 2, 0, 0, 0), (102, .invokevirtual 146, 3, 96, 2, 25),
  (105, .ifCond .eq 11, 3, 116, 0, 0), (108, .bipush 10, 2, 0, 0, 0), (110, .iload_n 2, 1, 0, 0, 0), (111, .isub, 1, 0, 0, 0), (112, .i2l, 1, 0, 0, 0), (113, .goto 4, 3, 117, 0, 0),
  (116, .lconst 0, 1, 0, 0, 0), (117, .ladd, 1, 0, 0, 0), (118, .lstore 5, 2, 0, 0, 0), (120, .iinc 7 1, 3, 0, 0, 0), (123, .goto (-80), 3, 43, 0, 0), (126, .ldc2_w 221, 3, 10, 0, 0),
  (129, .aload_n 0, 1, 0, 0, 0), (130, .getfield 74, 3, 6, 0, 0), (133, .i2l, 1, 0, 0, 0), (134, .lmul, 1, 0, 0, 0), (135, .lstore 7, 2, 0, 0, 0), (137, .lload 5, 2, 0, 0, 0),
  (139, .lload 7, 2, 0, 0, 0), (141, .invokestatic 223, 3, 135, 2, 2), (144, .lstore 9, 2, 0, 0, 0), (146, .iload_n 3, 1, 0, 0, 0), (147, .ifCond .ne 11, 3, 158, 0, 0), (150, .lload 5, 2, 0, 0, 0),
  (152, .lload 9, 2, 0, 0, 0), (154, .ldiv, 1, 0, 0, 0), (155, .goto 8, 3, 163, 0, 0), (158, .lload 7, 2, 0, 0, 0), (160, .lload 9, 2, 0, 0, 0), (162, .ldiv, 1, 0, 0, 0),
  (163, .l2i, 1, 0, 0, 0), (164, .ireturn, 1, 0, 0, 0)]
def ct_X6_likely : List Nat := [43]
def cd_X6_tiredAll : List nl_E := [(0, .iconst 0, 1, 0, 0, 0), (1, .istore_n 1, 1, 0, 0, 0), (2, .iconst 0, 1, 0, 0, 0), (3, .istore_n 2, 1, 0, 0, 0), (4, .iload_n 2, 1, 0, 0, 0), (5, .aload_n 0, 1, 0, 0, 0),
  (6, .getfield 74, 3, 6, 0, 0), (9, .if_icmp .ge 18, 3, 27, 0, 0), (12, .iload_n 1, 1, 0, 0, 0), (13, .aload_n 0, 1, 0, 0, 0), (14, .getfield 22, 3, 6, 7, 1), (17, .iload_n 2, 1, 0, 0, 0),
  (18, .iaload, 1, 0, 0, 0), (19, .iadd, 1, 0, 0, 0), (20, .istore_n 1, 1, 0, 0, 0), (21, .iinc 2 1, 3, 0, 0, 0), (24, .goto (-20), 3, 4, 0, 0), (27, .iload_n 1, 1, 0, 0, 0),
  (28, .ireturn, 1, 0, 0, 0)]
def ct_X6_tiredAll : List Nat := [4]
def cd_X6_winter : List nl_E := [(0, .iload_n 1, 1, 0, 0, 0), (1, .iconst 0, 1, 0, 0, 0), (2, .sipush 9999, 3, 0, 0, 0), (5, .invokestatic 84, 3, 76, 3, 1), (8, .ifCond .eq 22, 3, 30, 0, 0), (11, .iload_n 2, 1, 0, 0, 0),
  (12, .iconst 1, 1, 0, 0, 0), (13, .bipush 60, 2, 0, 0, 0), (15, .invokestatic 84, 3, 76, 3, 1), (18, .ifCond .eq 12, 3, 30, 0, 0), (21, .iload_n 3, 1, 0, 0, 0), (22, .iconst 0, 1, 0, 0, 0),
  (23, .iconst 2, 1, 0, 0, 0), (24, .invokestatic 84, 3, 76, 3, 1), (27, .ifCond .ne 5, 3, 32, 0, 0), (30, .iconst (-1), 1, 0, 0, 0), (31, .ireturn, 1, 0, 0, 0), (32, .aload_n 0, 1, 0, 0, 0),
  (33, .invokevirtual 184, 3, 115, 0, 24), (36, .iconst 0, 1, 0, 0, 0), (37, .istore 4, 2, 0, 0, 0), (39, .iconst 0, 1, 0, 0, 0), (40, .istore 5, 2, 0, 0, 0), (42, .iload 5, 2, 0, 0, 0),
  (44, .iload_n 2, 1, 0, 0, 0), (45, .if_icmp .ge 147, 3, 192, 0, 0), (48, .ldc2_w 227, 3, 7919, 0, 0), (51, .iload_n 1, 1, 0, 0, 0), (52, .i2l, 1, 0, 0, 0), (53, .lmul, 1, 0, 0, 0),
  (54, .ldc2_w 229, 3, 6151, 0, 0), (57, .iload 5, 2, 0, 0, 0), (59, .i2l, 1, 0, 0, 0), (60, .lmul, 1, 0, 0, 0), (61, .ladd, 1, 0, 0, 0), (62, .lconst 1, 1, 0, 0, 0),
  (63, .ladd, 1, 0, 0, 0), (64, .lstore 6, 2, 0, 0, 0), (66, .lload 6, 2, 0, 0, 0), (68, .lload 6, 2, 0, 0, 0), (70, .lmul, 1, 0, 0, 0), (71, .ldc2_w 231, 3, 65521, 0, 0),
  (74, .lrem, 1, 0, 0, 0), (75, .ldc2_w 233, 3, 2, 0, 0), (78, .ldiv, 1, 0, 0, 0), (79, .l2i, 1, 0, 0, 0), (80, .istore 8, 2, 0, 0, 0), (82, .iload 8, 2, 0, 0, 0),
  (84, .aload_n 0, 1, 0, 0, 0), (85, .getfield 74, 3, 6, 0, 0), (88, .irem, 1, 0, 0, 0), (89, .istore 9, 2, 0, 0, 0), (91, .iload 8, 2, 0, 0, 0), (93, .bipush 8, 2, 0, 0, 0),
  (95, .idiv, 1, 0, 0, 0), (96, .aload_n 0, 1, 0, 0, 0), (97, .getfield 74, 3, 6, 0, 0), (100, .irem, 1, 0, 0, 0), (101, .istore 10, 2, 0, 0, 0), (103, .iload 8, 2, 0, 0, 0),
  (105, .bipush 64, 2, 0, 0, 0), (107, .idiv, 1, 0, 0, 0), (108, .iconst 4, 1, 0, 0, 0), (109, .irem, 1, 0, 0, 0), (110, .istore 11, 2, 0, 0, 0), (112, .iload 11, 2, 0, 0, 0),
  (114, .ifCond .ne 21, 3, 135, 0, 0), (117, .iload 9, 2, 0, 0, 0), (119, .iload 10, 2, 0, 0, 0), (121, .if_icmp .eq 14, 3, 135, 0, 0), (124, .aload_n 0, 1, 0, 0, 0), (125, .iload 9, 2, 0, 0, 0),
  (127, .iload 10, 2, 0, 0, 0), (129, .invokevirtual 173, 3, 109, 2, 24), (132, .goto 45, 3, 177, 0, 0), (135, .iload 11, 2, 0, 0, 0), (137, .iconst 1, 1, 0, 0, 0), (138, .if_icmp .ne 12, 3, 150, 0, 0),
  (141, .aload_n 0, 1, 0, 0, 0), (142, .iload 9, 2, 0, 0, 0), (144, .invokevirtual 177, 3, 111, 1, 24), (147, .goto 30, 3, 177, 0, 0), (150, .iload 11, 2, 0, 0, 0), (152, .iconst 2, 1, 0, 0, 0),
  (153, .if_icmp .ne 24, 3, 177, 0, 0), (156, .aload_n 0, 1, 0, 0, 0), (157, .getfield 31, 3, 6, 10, 1), (160, .aload_n 0, 1, 0, 0, 0), (161, .getfield 19, 3, 6, 6, 1), (164, .iload 9, 2, 0, 0, 0),
  (166, .iaload, 1, 0, 0, 0), (167, .iload 8, 2, 0, 0, 0), (169, .sipush 256, 3, 0, 0, 0), (172, .idiv, 1, 0, 0, 0), (173, .bipush 21, 2, 0, 0, 0), (175, .irem, 1, 0, 0, 0),
  (176, .iastore, 1, 0, 0, 0), (177, .iload 4, 2, 0, 0, 0), (179, .aload_n 0, 1, 0, 0, 0), (180, .invokevirtual 153, 3, 98, 0, 25), (183, .iadd, 1, 0, 0, 0), (184, .istore 4, 2, 0, 0, 0),
  (186, .iinc 5 1, 3, 0, 0, 0), (189, .goto (-147), 3, 42, 0, 0), (192, .iload_n 3, 1, 0, 0, 0), (193, .ifCond .ne 8, 3, 201, 0, 0), (196, .iload 4, 2, 0, 0, 0), (198, .goto 21, 3, 219, 0, 0),
  (201, .iload_n 3, 1, 0, 0, 0), (202, .iconst 1, 1, 0, 0, 0), (203, .if_icmp .ne 10, 3, 213, 0, 0), (206, .aload_n 0, 1, 0, 0, 0), (207, .invokevirtual 235, 3, 137, 0, 25), (210, .goto 9, 3, 219, 0, 0),
  (213, .aload_n 0, 1, 0, 0, 0), (214, .getfield 19, 3, 6, 6, 1), (217, .iconst 0, 1, 0, 0, 0), (218, .iaload, 1, 0, 0, 0), (219, .istore 5, 2, 0, 0, 0), (221, .aload_n 0, 1, 0, 0, 0),
  (222, .invokevirtual 187, 3, 116, 0, 24), (225, .iload 5, 2, 0, 0, 0), (227, .ireturn, 1, 0, 0, 0)]
def ct_X6_winter : List Nat := [42]
def cd_X6_keep : List nl_E := [(0, .aload_n 0, 1, 0, 0, 0), (1, .getfield 132, 3, 6, 29, 0), (4, .iconst 2, 1, 0, 0, 0), (5, .if_icmp .ne 6, 3, 11, 0, 0), (8, .bipush (-3), 2, 0, 0, 0), (10, .ireturn, 1, 0, 0, 0),
  (11, .aload_n 0, 1, 0, 0, 0), (12, .aload_n 0, 1, 0, 0, 0), (13, .getfield 64, 3, 6, 28, 1), (16, .bipush 79, 2, 0, 0, 0), (18, .aload_n 0, 1, 0, 0, 0), (19, .getfield 132, 3, 6, 29, 0),
  (22, .imul, 1, 0, 0, 0), (23, .invokevirtual 163, 3, 105, 2, 24), (26, .aload_n 0, 1, 0, 0, 0), (27, .dup, 1, 0, 0, 0), (28, .getfield 132, 3, 6, 29, 0), (31, .iconst 1, 1, 0, 0, 0),
  (32, .iadd, 1, 0, 0, 0), (33, .putfield 132, 3, 6, 29, 0), (36, .aload_n 0, 1, 0, 0, 0), (37, .getfield 132, 3, 6, 29, 0), (40, .ireturn, 1, 0, 0, 0)]
def ct_X6_keep : List Nat := []
def cd_X6_back : List nl_E := [(0, .aload_n 0, 1, 0, 0, 0), (1, .getfield 132, 3, 6, 29, 0), (4, .ifCond .ne 6, 3, 10, 0, 0), (7, .bipush (-2), 2, 0, 0, 0), (9, .ireturn, 1, 0, 0, 0), (10, .aload_n 0, 1, 0, 0, 0),
  (11, .dup, 1, 0, 0, 0), (12, .getfield 132, 3, 6, 29, 0), (15, .iconst 1, 1, 0, 0, 0), (16, .isub, 1, 0, 0, 0), (17, .putfield 132, 3, 6, 29, 0), (20, .aload_n 0, 1, 0, 0, 0),
  (21, .aload_n 0, 1, 0, 0, 0), (22, .getfield 64, 3, 6, 28, 1), (25, .bipush 79, 2, 0, 0, 0), (27, .aload_n 0, 1, 0, 0, 0), (28, .getfield 132, 3, 6, 29, 0), (31, .imul, 1, 0, 0, 0),
  (32, .invokevirtual 181, 3, 106, 2, 24), (35, .aload_n 0, 1, 0, 0, 0), (36, .iconst 0, 1, 0, 0, 0), (37, .putfield 129, 3, 6, 24, 0), (40, .aload_n 0, 1, 0, 0, 0), (41, .getfield 132, 3, 6, 29, 0),
  (44, .ireturn, 1, 0, 0, 0)]
def ct_X6_back : List Nat := []
def cd_X6_count : List nl_E := [(0, .iload_n 1, 1, 0, 0, 0), (1, .iconst 0, 1, 0, 0, 0), (2, .bipush 7, 2, 0, 0, 0), (4, .invokestatic 84, 3, 76, 3, 1), (7, .ifCond .ne 5, 3, 12, 0, 0), (10, .iconst (-1), 1, 0, 0, 0),
  (11, .ireturn, 1, 0, 0, 0), (12, .iload_n 1, 1, 0, 0, 0), (13, .tableswitch 78 0 6 #[43, 48, 53, 58, 63, 68, 73], 43, 91, 99242530927831741496, 7), (56, .aload_n 0, 1, 0, 0, 0), (57, .getfield 74, 3, 6, 0, 0), (60, .ireturn, 1, 0, 0, 0),
  (61, .aload_n 0, 1, 0, 0, 0), (62, .getfield 78, 3, 6, 4, 0), (65, .ireturn, 1, 0, 0, 0), (66, .aload_n 0, 1, 0, 0, 0), (67, .getfield 81, 3, 6, 5, 0), (70, .ireturn, 1, 0, 0, 0),
  (71, .aload_n 0, 1, 0, 0, 0), (72, .invokevirtual 235, 3, 137, 0, 25), (75, .ireturn, 1, 0, 0, 0), (76, .aload_n 0, 1, 0, 0, 0), (77, .getfield 126, 3, 6, 11, 0), (80, .ireturn, 1, 0, 0, 0),
  (81, .aload_n 0, 1, 0, 0, 0), (82, .getfield 129, 3, 6, 24, 0), (85, .ireturn, 1, 0, 0, 0), (86, .aload_n 0, 1, 0, 0, 0), (87, .getfield 132, 3, 6, 29, 0), (90, .ireturn, 1, 0, 0, 0),
  (91, .aload_n 0, 1, 0, 0, 0), (92, .getfield 88, 3, 6, 16, 0), (95, .ireturn, 1, 0, 0, 0)]
def ct_X6_count : List Nat := []
def cd_J6_bitCount_0f7a4 : List nl_E := [(0, .iload_n 0, 1, 0, 0, 0), (1, .iload_n 0, 1, 0, 0, 0), (2, .iconst 1, 1, 0, 0, 0), (3, .iushr, 1, 0, 0, 0), (4, .ldc_w 265, 3, 1431655765, 0, 0), (7, .iand, 1, 0, 0, 0),
  (8, .isub, 1, 0, 0, 0), (9, .istore_n 0, 1, 0, 0, 0), (10, .iload_n 0, 1, 0, 0, 0), (11, .ldc_w 266, 3, 858993459, 0, 0), (14, .iand, 1, 0, 0, 0), (15, .iload_n 0, 1, 0, 0, 0),
  (16, .iconst 2, 1, 0, 0, 0), (17, .iushr, 1, 0, 0, 0), (18, .ldc_w 266, 3, 858993459, 0, 0), (21, .iand, 1, 0, 0, 0), (22, .iadd, 1, 0, 0, 0), (23, .istore_n 0, 1, 0, 0, 0),
  (24, .iload_n 0, 1, 0, 0, 0), (25, .iload_n 0, 1, 0, 0, 0), (26, .iconst 4, 1, 0, 0, 0), (27, .iushr, 1, 0, 0, 0), (28, .iadd, 1, 0, 0, 0), (29, .ldc_w 267, 3, 252645135, 0, 0),
  (32, .iand, 1, 0, 0, 0), (33, .istore_n 0, 1, 0, 0, 0), (34, .iload_n 0, 1, 0, 0, 0), (35, .iload_n 0, 1, 0, 0, 0), (36, .bipush 8, 2, 0, 0, 0), (38, .iushr, 1, 0, 0, 0),
  (39, .iadd, 1, 0, 0, 0), (40, .istore_n 0, 1, 0, 0, 0), (41, .iload_n 0, 1, 0, 0, 0), (42, .iload_n 0, 1, 0, 0, 0), (43, .bipush 16, 2, 0, 0, 0), (45, .iushr, 1, 0, 0, 0),
  (46, .iadd, 1, 0, 0, 0), (47, .istore_n 0, 1, 0, 0, 0), (48, .iload_n 0, 1, 0, 0, 0), (49, .bipush 63, 2, 0, 0, 0), (51, .iand, 1, 0, 0, 0), (52, .ireturn, 1, 0, 0, 0)]
def ct_J6_bitCount_0f7a4 : List Nat := []
def cd_L_law : List nl_E := [(16, .iconst 0, 1, 0, 0, 0), (17, .istore_n 3, 1, 0, 0, 0), (18, .iload_n 3, 1, 0, 0, 0), (19, .aload_n 0, 1, 0, 0, 0), (20, .arraylength, 1, 0, 0, 0), (21, .iconst 4, 1, 0, 0, 0),
  (22, .isub, 1, 0, 0, 0), (23, .if_icmp .gt 884, 3, 907, 0, 0), (26, .aload_n 0, 1, 0, 0, 0), (27, .iload_n 3, 1, 0, 0, 0), (28, .iaload, 1, 0, 0, 0), (29, .bipush 31, 2, 0, 0, 0),
  (31, .iand, 1, 0, 0, 0), (32, .tableswitch 869 0 28 #[132, 155, 168, 181, 194, 227, 260, 293, 326, 349, 382, 405, 438, 451, 494, 507, 530, 553, 566, 589, 622, 665, 678, 701, 734, 777, 820, 833, 846], 132, 901, 1707305891332395179263381610569150620517447052024088268201288260251232719436449300278436, 29), (164, .aload_n 1, 1, 0, 0, 0), (165, .aload_n 0, 1, 0, 0, 0), (166, .iload_n 3, 1, 0, 0, 0), (167, .iconst 1, 1, 0, 0, 0),
  (168, .iadd, 1, 0, 0, 0), (169, .iaload, 1, 0, 0, 0), (170, .invokevirtual 13, 3, 42, 1, 21), (173, .aload_n 2, 1, 0, 0, 0), (174, .aload_n 0, 1, 0, 0, 0), (175, .iload_n 3, 1, 0, 0, 0),
  (176, .iconst 1, 1, 0, 0, 0), (177, .iadd, 1, 0, 0, 0), (178, .iaload, 1, 0, 0, 0), (179, .invokevirtual 17, 3, 84, 1, 25), (182, .if_icmp .eq 719, 3, 901, 0, 0), (185, .iconst 0, 1, 0, 0, 0),
  (186, .ireturn, 1, 0, 0, 0), (187, .aload_n 1, 1, 0, 0, 0), (188, .invokevirtual 18, 3, 43, 0, 21), (191, .aload_n 2, 1, 0, 0, 0), (192, .invokevirtual 22, 3, 85, 0, 25), (195, .if_icmp .eq 706, 3, 901, 0, 0),
  (198, .iconst 0, 1, 0, 0, 0), (199, .ireturn, 1, 0, 0, 0), (200, .aload_n 1, 1, 0, 0, 0), (201, .invokevirtual 23, 3, 44, 0, 21), (204, .aload_n 2, 1, 0, 0, 0), (205, .invokevirtual 26, 3, 92, 0, 25),
  (208, .if_icmp .eq 693, 3, 901, 0, 0), (211, .iconst 0, 1, 0, 0, 0), (212, .ireturn, 1, 0, 0, 0), (213, .aload_n 1, 1, 0, 0, 0), (214, .invokevirtual 27, 3, 45, 0, 21), (217, .aload_n 2, 1, 0, 0, 0),
  (218, .invokevirtual 30, 3, 93, 0, 25), (221, .if_icmp .eq 680, 3, 901, 0, 0), (224, .iconst 0, 1, 0, 0, 0), (225, .ireturn, 1, 0, 0, 0), (226, .aload_n 1, 1, 0, 0, 0), (227, .aload_n 0, 1, 0, 0, 0),
  (228, .iload_n 3, 1, 0, 0, 0), (229, .iconst 1, 1, 0, 0, 0), (230, .iadd, 1, 0, 0, 0), (231, .iaload, 1, 0, 0, 0), (232, .aload_n 0, 1, 0, 0, 0), (233, .iload_n 3, 1, 0, 0, 0),
  (234, .iconst 2, 1, 0, 0, 0), (235, .iadd, 1, 0, 0, 0), (236, .iaload, 1, 0, 0, 0), (237, .invokevirtual 31, 3, 46, 2, 21), (240, .aload_n 2, 1, 0, 0, 0), (241, .aload_n 0, 1, 0, 0, 0),
  (242, .iload_n 3, 1, 0, 0, 0), (243, .iconst 1, 1, 0, 0, 0), (244, .iadd, 1, 0, 0, 0), (245, .iaload, 1, 0, 0, 0), (246, .aload_n 0, 1, 0, 0, 0), (247, .iload_n 3, 1, 0, 0, 0),
  (248, .iconst 2, 1, 0, 0, 0), (249, .iadd, 1, 0, 0, 0), (250, .iaload, 1, 0, 0, 0), (251, .invokevirtual 35, 3, 100, 2, 25), (254, .if_icmp .eq 647, 3, 901, 0, 0), (257, .iconst 0, 1, 0, 0, 0),
  (258, .ireturn, 1, 0, 0, 0), (259, .aload_n 1, 1, 0, 0, 0), (260, .aload_n 0, 1, 0, 0, 0), (261, .iload_n 3, 1, 0, 0, 0), (262, .iconst 1, 1, 0, 0, 0), (263, .iadd, 1, 0, 0, 0),
  (264, .iaload, 1, 0, 0, 0), (265, .aload_n 0, 1, 0, 0, 0), (266, .iload_n 3, 1, 0, 0, 0), (267, .iconst 2, 1, 0, 0, 0), (268, .iadd, 1, 0, 0, 0), (269, .iaload, 1, 0, 0, 0),
  (270, .invokevirtual 36, 3, 47, 2, 21), (273, .aload_n 2, 1, 0, 0, 0), (274, .aload_n 0, 1, 0, 0, 0), (275, .iload_n 3, 1, 0, 0, 0), (276, .iconst 1, 1, 0, 0, 0), (277, .iadd, 1, 0, 0, 0),
  (278, .iaload, 1, 0, 0, 0), (279, .aload_n 0, 1, 0, 0, 0), (280, .iload_n 3, 1, 0, 0, 0), (281, .iconst 2, 1, 0, 0, 0), (282, .iadd, 1, 0, 0, 0), (283, .iaload, 1, 0, 0, 0),
  (284, .invokevirtual 39, 3, 102, 2, 25), (287, .if_icmp .eq 614, 3, 901, 0, 0), (290, .iconst 0, 1, 0, 0, 0), (291, .ireturn, 1, 0, 0, 0), (292, .aload_n 1, 1, 0, 0, 0), (293, .aload_n 0, 1, 0, 0, 0),
  (294, .iload_n 3, 1, 0, 0, 0), (295, .iconst 1, 1, 0, 0, 0), (296, .iadd, 1, 0, 0, 0), (297, .iaload, 1, 0, 0, 0), (298, .aload_n 0, 1, 0, 0, 0), (299, .iload_n 3, 1, 0, 0, 0),
  (300, .iconst 2, 1, 0, 0, 0), (301, .iadd, 1, 0, 0, 0), (302, .iaload, 1, 0, 0, 0), (303, .invokevirtual 40, 3, 48, 2, 21), (306, .aload_n 2, 1, 0, 0, 0), (307, .aload_n 0, 1, 0, 0, 0),
  (308, .iload_n 3, 1, 0, 0, 0), (309, .iconst 1, 1, 0, 0, 0), (310, .iadd, 1, 0, 0, 0), (311, .iaload, 1, 0, 0, 0), (312, .aload_n 0, 1, 0, 0, 0), (313, .iload_n 3, 1, 0, 0, 0),
  (314, .iconst 2, 1, 0, 0, 0), (315, .iadd, 1, 0, 0, 0), (316, .iaload, 1, 0, 0, 0), (317, .invokevirtual 43, 3, 103, 2, 25), (320, .if_icmp .eq 581, 3, 901, 0, 0), (323, .iconst 0, 1, 0, 0, 0),
  (324, .ireturn, 1, 0, 0, 0), (325, .aload_n 1, 1, 0, 0, 0), (326, .aload_n 0, 1, 0, 0, 0), (327, .iload_n 3, 1, 0, 0, 0), (328, .iconst 1, 1, 0, 0, 0), (329, .iadd, 1, 0, 0, 0),
  (330, .iaload, 1, 0, 0, 0), (331, .aload_n 0, 1, 0, 0, 0), (332, .iload_n 3, 1, 0, 0, 0), (333, .iconst 2, 1, 0, 0, 0), (334, .iadd, 1, 0, 0, 0), (335, .iaload, 1, 0, 0, 0),
  (336, .invokevirtual 44, 3, 49, 2, 21), (339, .aload_n 2, 1, 0, 0, 0), (340, .aload_n 0, 1, 0, 0, 0), (341, .iload_n 3, 1, 0, 0, 0), (342, .iconst 1, 1, 0, 0, 0), (343, .iadd, 1, 0, 0, 0),
  (344, .iaload, 1, 0, 0, 0), (345, .aload_n 0, 1, 0, 0, 0), (346, .iload_n 3, 1, 0, 0, 0), (347, .iconst 2, 1, 0, 0, 0), (348, .iadd, 1, 0, 0, 0), (349, .iaload, 1, 0, 0, 0),
  (350, .invokevirtual 47, 3, 104, 2, 25), (353, .if_icmp .eq 548, 3, 901, 0, 0), (356, .iconst 0, 1, 0, 0, 0), (357, .ireturn, 1, 0, 0, 0), (358, .aload_n 1, 1, 0, 0, 0), (359, .aload_n 0, 1, 0, 0, 0),
  (360, .iload_n 3, 1, 0, 0, 0), (361, .iconst 1, 1, 0, 0, 0), (362, .iadd, 1, 0, 0, 0), (363, .iaload, 1, 0, 0, 0), (364, .invokevirtual 48, 3, 50, 1, 21), (367, .aload_n 2, 1, 0, 0, 0),
  (368, .aload_n 0, 1, 0, 0, 0), (369, .iload_n 3, 1, 0, 0, 0), (370, .iconst 1, 1, 0, 0, 0), (371, .iadd, 1, 0, 0, 0), (372, .iaload, 1, 0, 0, 0), (373, .invokevirtual 51, 3, 108, 1, 25),
  (376, .if_icmp .eq 525, 3, 901, 0, 0), (379, .iconst 0, 1, 0, 0, 0), (380, .ireturn, 1, 0, 0, 0), (381, .aload_n 1, 1, 0, 0, 0), (382, .aload_n 0, 1, 0, 0, 0), (383, .iload_n 3, 1, 0, 0, 0),
  (384, .iconst 1, 1, 0, 0, 0), (385, .iadd, 1, 0, 0, 0), (386, .iaload, 1, 0, 0, 0), (387, .aload_n 0, 1, 0, 0, 0), (388, .iload_n 3, 1, 0, 0, 0), (389, .iconst 2, 1, 0, 0, 0),
  (390, .iadd, 1, 0, 0, 0), (391, .iaload, 1, 0, 0, 0), (392, .invokevirtual 52, 3, 51, 2, 21), (395, .aload_n 2, 1, 0, 0, 0), (396, .aload_n 0, 1, 0, 0, 0), (397, .iload_n 3, 1, 0, 0, 0),
  (398, .iconst 1, 1, 0, 0, 0), (399, .iadd, 1, 0, 0, 0), (400, .iaload, 1, 0, 0, 0), (401, .aload_n 0, 1, 0, 0, 0), (402, .iload_n 3, 1, 0, 0, 0), (403, .iconst 2, 1, 0, 0, 0),
  (404, .iadd, 1, 0, 0, 0), (405, .iaload, 1, 0, 0, 0), (406, .invokevirtual 55, 3, 110, 2, 25), (409, .if_icmp .eq 492, 3, 901, 0, 0), (412, .iconst 0, 1, 0, 0, 0), (413, .ireturn, 1, 0, 0, 0),
  (414, .aload_n 1, 1, 0, 0, 0), (415, .aload_n 0, 1, 0, 0, 0), (416, .iload_n 3, 1, 0, 0, 0), (417, .iconst 1, 1, 0, 0, 0), (418, .iadd, 1, 0, 0, 0), (419, .iaload, 1, 0, 0, 0),
  (420, .invokevirtual 56, 3, 52, 1, 21), (423, .aload_n 2, 1, 0, 0, 0), (424, .aload_n 0, 1, 0, 0, 0), (425, .iload_n 3, 1, 0, 0, 0), (426, .iconst 1, 1, 0, 0, 0), (427, .iadd, 1, 0, 0, 0),
  (428, .iaload, 1, 0, 0, 0), (429, .invokevirtual 59, 3, 112, 1, 25), (432, .if_icmp .eq 469, 3, 901, 0, 0), (435, .iconst 0, 1, 0, 0, 0), (436, .ireturn, 1, 0, 0, 0), (437, .aload_n 1, 1, 0, 0, 0),
  (438, .aload_n 0, 1, 0, 0, 0), (439, .iload_n 3, 1, 0, 0, 0), (440, .iconst 1, 1, 0, 0, 0), (441, .iadd, 1, 0, 0, 0), (442, .iaload, 1, 0, 0, 0), (443, .aload_n 0, 1, 0, 0, 0),
  (444, .iload_n 3, 1, 0, 0, 0), (445, .iconst 2, 1, 0, 0, 0), (446, .iadd, 1, 0, 0, 0), (447, .iaload, 1, 0, 0, 0), (448, .invokevirtual 60, 3, 53, 2, 21), (451, .aload_n 2, 1, 0, 0, 0),
  (452, .aload_n 0, 1, 0, 0, 0), (453, .iload_n 3, 1, 0, 0, 0), (454, .iconst 1, 1, 0, 0, 0), (455, .iadd, 1, 0, 0, 0), (456, .iaload, 1, 0, 0, 0), (457, .aload_n 0, 1, 0, 0, 0),
  (458, .iload_n 3, 1, 0, 0, 0), (459, .iconst 2, 1, 0, 0, 0), (460, .iadd, 1, 0, 0, 0), (461, .iaload, 1, 0, 0, 0), (462, .invokevirtual 63, 3, 113, 2, 25), (465, .if_icmp .eq 436, 3, 901, 0, 0),
  (468, .iconst 0, 1, 0, 0, 0), (469, .ireturn, 1, 0, 0, 0), (470, .aload_n 1, 1, 0, 0, 0), (471, .invokevirtual 64, 3, 54, 0, 21), (474, .aload_n 2, 1, 0, 0, 0), (475, .invokevirtual 67, 3, 114, 0, 25),
  (478, .if_icmp .eq 423, 3, 901, 0, 0), (481, .iconst 0, 1, 0, 0, 0), (482, .ireturn, 1, 0, 0, 0), (483, .aload_n 1, 1, 0, 0, 0), (484, .aload_n 0, 1, 0, 0, 0), (485, .iload_n 3, 1, 0, 0, 0),
  (486, .iconst 1, 1, 0, 0, 0), (487, .iadd, 1, 0, 0, 0), (488, .iaload, 1, 0, 0, 0), (489, .aload_n 0, 1, 0, 0, 0), (490, .iload_n 3, 1, 0, 0, 0), (491, .iconst 2, 1, 0, 0, 0),
  (492, .iadd, 1, 0, 0, 0), (493, .iaload, 1, 0, 0, 0), (494, .aload_n 0, 1, 0, 0, 0), (495, .iload_n 3, 1, 0, 0, 0), (496, .iconst 3, 1, 0, 0, 0), (497, .iadd, 1, 0, 0, 0),
  (498, .iaload, 1, 0, 0, 0), (499, .invokevirtual 68, 3, 55, 3, 21), (502, .aload_n 2, 1, 0, 0, 0), (503, .aload_n 0, 1, 0, 0, 0), (504, .iload_n 3, 1, 0, 0, 0), (505, .iconst 1, 1, 0, 0, 0),
  (506, .iadd, 1, 0, 0, 0), (507, .iaload, 1, 0, 0, 0), (508, .aload_n 0, 1, 0, 0, 0), (509, .iload_n 3, 1, 0, 0, 0), (510, .iconst 2, 1, 0, 0, 0), (511, .iadd, 1, 0, 0, 0),
  (512, .iaload, 1, 0, 0, 0), (513, .aload_n 0, 1, 0, 0, 0), (514, .iload_n 3, 1, 0, 0, 0), (515, .iconst 3, 1, 0, 0, 0), (516, .iadd, 1, 0, 0, 0), (517, .iaload, 1, 0, 0, 0),
  (518, .invokevirtual 72, 3, 117, 3, 25), (521, .if_icmp .eq 380, 3, 901, 0, 0), (524, .iconst 0, 1, 0, 0, 0), (525, .ireturn, 1, 0, 0, 0), (526, .aload_n 1, 1, 0, 0, 0), (527, .invokevirtual 73, 3, 56, 0, 21),
  (530, .aload_n 2, 1, 0, 0, 0), (531, .invokevirtual 76, 3, 118, 0, 25), (534, .if_icmp .eq 367, 3, 901, 0, 0), (537, .iconst 0, 1, 0, 0, 0), (538, .ireturn, 1, 0, 0, 0), (539, .aload_n 1, 1, 0, 0, 0),
  (540, .aload_n 0, 1, 0, 0, 0), (541, .iload_n 3, 1, 0, 0, 0), (542, .iconst 1, 1, 0, 0, 0), (543, .iadd, 1, 0, 0, 0), (544, .iaload, 1, 0, 0, 0), (545, .invokevirtual 77, 3, 57, 1, 21),
  (548, .aload_n 2, 1, 0, 0, 0), (549, .aload_n 0, 1, 0, 0, 0), (550, .iload_n 3, 1, 0, 0, 0), (551, .iconst 1, 1, 0, 0, 0), (552, .iadd, 1, 0, 0, 0), (553, .iaload, 1, 0, 0, 0),
  (554, .invokevirtual 80, 3, 119, 1, 25), (557, .if_icmp .eq 344, 3, 901, 0, 0), (560, .iconst 0, 1, 0, 0, 0), (561, .ireturn, 1, 0, 0, 0), (562, .aload_n 1, 1, 0, 0, 0), (563, .aload_n 0, 1, 0, 0, 0),
  (564, .iload_n 3, 1, 0, 0, 0), (565, .iconst 1, 1, 0, 0, 0), (566, .iadd, 1, 0, 0, 0), (567, .iaload, 1, 0, 0, 0), (568, .invokevirtual 81, 3, 58, 1, 21), (571, .aload_n 2, 1, 0, 0, 0),
  (572, .aload_n 0, 1, 0, 0, 0), (573, .iload_n 3, 1, 0, 0, 0), (574, .iconst 1, 1, 0, 0, 0), (575, .iadd, 1, 0, 0, 0), (576, .iaload, 1, 0, 0, 0), (577, .invokevirtual 84, 3, 124, 1, 25),
  (580, .if_icmp .eq 321, 3, 901, 0, 0), (583, .iconst 0, 1, 0, 0, 0), (584, .ireturn, 1, 0, 0, 0), (585, .aload_n 1, 1, 0, 0, 0), (586, .invokevirtual 85, 3, 59, 0, 21), (589, .aload_n 2, 1, 0, 0, 0),
  (590, .invokevirtual 88, 3, 126, 0, 25), (593, .if_icmp .eq 308, 3, 901, 0, 0), (596, .iconst 0, 1, 0, 0, 0), (597, .ireturn, 1, 0, 0, 0), (598, .aload_n 1, 1, 0, 0, 0), (599, .aload_n 0, 1, 0, 0, 0),
  (600, .iload_n 3, 1, 0, 0, 0), (601, .iconst 1, 1, 0, 0, 0), (602, .iadd, 1, 0, 0, 0), (603, .iaload, 1, 0, 0, 0), (604, .invokevirtual 89, 3, 60, 1, 21), (607, .aload_n 2, 1, 0, 0, 0),
  (608, .aload_n 0, 1, 0, 0, 0), (609, .iload_n 3, 1, 0, 0, 0), (610, .iconst 1, 1, 0, 0, 0), (611, .iadd, 1, 0, 0, 0), (612, .iaload, 1, 0, 0, 0), (613, .invokevirtual 92, 3, 128, 1, 25),
  (616, .if_icmp .eq 285, 3, 901, 0, 0), (619, .iconst 0, 1, 0, 0, 0), (620, .ireturn, 1, 0, 0, 0), (621, .aload_n 1, 1, 0, 0, 0), (622, .aload_n 0, 1, 0, 0, 0), (623, .iload_n 3, 1, 0, 0, 0),
  (624, .iconst 1, 1, 0, 0, 0), (625, .iadd, 1, 0, 0, 0), (626, .iaload, 1, 0, 0, 0), (627, .aload_n 0, 1, 0, 0, 0), (628, .iload_n 3, 1, 0, 0, 0), (629, .iconst 2, 1, 0, 0, 0),
  (630, .iadd, 1, 0, 0, 0), (631, .iaload, 1, 0, 0, 0), (632, .invokevirtual 93, 3, 61, 2, 21), (635, .aload_n 2, 1, 0, 0, 0), (636, .aload_n 0, 1, 0, 0, 0), (637, .iload_n 3, 1, 0, 0, 0),
  (638, .iconst 1, 1, 0, 0, 0), (639, .iadd, 1, 0, 0, 0), (640, .iaload, 1, 0, 0, 0), (641, .aload_n 0, 1, 0, 0, 0), (642, .iload_n 3, 1, 0, 0, 0), (643, .iconst 2, 1, 0, 0, 0),
  (644, .iadd, 1, 0, 0, 0), (645, .iaload, 1, 0, 0, 0), (646, .invokevirtual 96, 3, 129, 2, 25), (649, .if_icmp .eq 252, 3, 901, 0, 0), (652, .iconst 0, 1, 0, 0, 0), (653, .ireturn, 1, 0, 0, 0),
  (654, .aload_n 1, 1, 0, 0, 0), (655, .aload_n 0, 1, 0, 0, 0), (656, .iload_n 3, 1, 0, 0, 0), (657, .iconst 1, 1, 0, 0, 0), (658, .iadd, 1, 0, 0, 0), (659, .iaload, 1, 0, 0, 0),
  (660, .aload_n 0, 1, 0, 0, 0), (661, .iload_n 3, 1, 0, 0, 0), (662, .iconst 2, 1, 0, 0, 0), (663, .iadd, 1, 0, 0, 0), (664, .iaload, 1, 0, 0, 0), (665, .aload_n 0, 1, 0, 0, 0),
  (666, .iload_n 3, 1, 0, 0, 0), (667, .iconst 3, 1, 0, 0, 0), (668, .iadd, 1, 0, 0, 0), (669, .iaload, 1, 0, 0, 0), (670, .invokevirtual 97, 3, 62, 3, 21), (673, .aload_n 2, 1, 0, 0, 0),
  (674, .aload_n 0, 1, 0, 0, 0), (675, .iload_n 3, 1, 0, 0, 0), (676, .iconst 1, 1, 0, 0, 0), (677, .iadd, 1, 0, 0, 0), (678, .iaload, 1, 0, 0, 0), (679, .aload_n 0, 1, 0, 0, 0),
  (680, .iload_n 3, 1, 0, 0, 0), (681, .iconst 2, 1, 0, 0, 0), (682, .iadd, 1, 0, 0, 0), (683, .iaload, 1, 0, 0, 0), (684, .aload_n 0, 1, 0, 0, 0), (685, .iload_n 3, 1, 0, 0, 0),
  (686, .iconst 3, 1, 0, 0, 0), (687, .iadd, 1, 0, 0, 0), (688, .iaload, 1, 0, 0, 0), (689, .invokevirtual 100, 3, 130, 3, 25), (692, .if_icmp .eq 209, 3, 901, 0, 0), (695, .iconst 0, 1, 0, 0, 0),
  (696, .ireturn, 1, 0, 0, 0), (697, .aload_n 1, 1, 0, 0, 0), (698, .invokevirtual 101, 3, 63, 0, 21), (701, .aload_n 2, 1, 0, 0, 0), (702, .invokevirtual 104, 3, 131, 0, 25), (705, .if_icmp .eq 196, 3, 901, 0, 0),
  (708, .iconst 0, 1, 0, 0, 0), (709, .ireturn, 1, 0, 0, 0), (710, .aload_n 1, 1, 0, 0, 0), (711, .aload_n 0, 1, 0, 0, 0), (712, .iload_n 3, 1, 0, 0, 0), (713, .iconst 1, 1, 0, 0, 0),
  (714, .iadd, 1, 0, 0, 0), (715, .iaload, 1, 0, 0, 0), (716, .invokevirtual 105, 3, 64, 1, 21), (719, .aload_n 2, 1, 0, 0, 0), (720, .aload_n 0, 1, 0, 0, 0), (721, .iload_n 3, 1, 0, 0, 0),
  (722, .iconst 1, 1, 0, 0, 0), (723, .iadd, 1, 0, 0, 0), (724, .iaload, 1, 0, 0, 0), (725, .invokevirtual 108, 3, 133, 1, 25), (728, .if_icmp .eq 173, 3, 901, 0, 0), (731, .iconst 0, 1, 0, 0, 0),
  (732, .ireturn, 1, 0, 0, 0), (733, .aload_n 1, 1, 0, 0, 0), (734, .aload_n 0, 1, 0, 0, 0), (735, .iload_n 3, 1, 0, 0, 0), (736, .iconst 1, 1, 0, 0, 0), (737, .iadd, 1, 0, 0, 0),
  (738, .iaload, 1, 0, 0, 0), (739, .aload_n 0, 1, 0, 0, 0), (740, .iload_n 3, 1, 0, 0, 0), (741, .iconst 2, 1, 0, 0, 0), (742, .iadd, 1, 0, 0, 0), (743, .iaload, 1, 0, 0, 0),
  (744, .invokevirtual 109, 3, 65, 2, 21), (747, .aload_n 2, 1, 0, 0, 0), (748, .aload_n 0, 1, 0, 0, 0), (749, .iload_n 3, 1, 0, 0, 0), (750, .iconst 1, 1, 0, 0, 0), (751, .iadd, 1, 0, 0, 0),
  (752, .iaload, 1, 0, 0, 0), (753, .aload_n 0, 1, 0, 0, 0), (754, .iload_n 3, 1, 0, 0, 0), (755, .iconst 2, 1, 0, 0, 0), (756, .iadd, 1, 0, 0, 0), (757, .iaload, 1, 0, 0, 0),
  (758, .invokevirtual 112, 3, 134, 2, 25), (761, .if_icmp .eq 140, 3, 901, 0, 0), (764, .iconst 0, 1, 0, 0, 0), (765, .ireturn, 1, 0, 0, 0), (766, .aload_n 1, 1, 0, 0, 0), (767, .aload_n 0, 1, 0, 0, 0),
  (768, .iload_n 3, 1, 0, 0, 0), (769, .iconst 1, 1, 0, 0, 0), (770, .iadd, 1, 0, 0, 0), (771, .iaload, 1, 0, 0, 0), (772, .aload_n 0, 1, 0, 0, 0), (773, .iload_n 3, 1, 0, 0, 0),
  (774, .iconst 2, 1, 0, 0, 0), (775, .iadd, 1, 0, 0, 0), (776, .iaload, 1, 0, 0, 0), (777, .aload_n 0, 1, 0, 0, 0), (778, .iload_n 3, 1, 0, 0, 0), (779, .iconst 3, 1, 0, 0, 0),
  (780, .iadd, 1, 0, 0, 0), (781, .iaload, 1, 0, 0, 0), (782, .invokevirtual 113, 3, 66, 3, 21), (785, .aload_n 2, 1, 0, 0, 0), (786, .aload_n 0, 1, 0, 0, 0), (787, .iload_n 3, 1, 0, 0, 0),
  (788, .iconst 1, 1, 0, 0, 0), (789, .iadd, 1, 0, 0, 0), (790, .iaload, 1, 0, 0, 0), (791, .aload_n 0, 1, 0, 0, 0), (792, .iload_n 3, 1, 0, 0, 0), (793, .iconst 2, 1, 0, 0, 0),
  (794, .iadd, 1, 0, 0, 0), (795, .iaload, 1, 0, 0, 0), (796, .aload_n 0, 1, 0, 0, 0), (797, .iload_n 3, 1, 0, 0, 0), (798, .iconst 3, 1, 0, 0, 0), (799, .iadd, 1, 0, 0, 0),
  (800, .iaload, 1, 0, 0, 0), (801, .invokevirtual 116, 3, 136, 3, 25), (804, .if_icmp .eq 97, 3, 901, 0, 0), (807, .iconst 0, 1, 0, 0, 0), (808, .ireturn, 1, 0, 0, 0), (809, .aload_n 1, 1, 0, 0, 0),
  (810, .aload_n 0, 1, 0, 0, 0), (811, .iload_n 3, 1, 0, 0, 0), (812, .iconst 1, 1, 0, 0, 0), (813, .iadd, 1, 0, 0, 0), (814, .iaload, 1, 0, 0, 0), (815, .aload_n 0, 1, 0, 0, 0),
  (816, .iload_n 3, 1, 0, 0, 0), (817, .iconst 2, 1, 0, 0, 0), (818, .iadd, 1, 0, 0, 0), (819, .iaload, 1, 0, 0, 0), (820, .aload_n 0, 1, 0, 0, 0), (821, .iload_n 3, 1, 0, 0, 0),
  (822, .iconst 3, 1, 0, 0, 0), (823, .iadd, 1, 0, 0, 0), (824, .iaload, 1, 0, 0, 0), (825, .invokevirtual 117, 3, 67, 3, 21), (828, .aload_n 2, 1, 0, 0, 0), (829, .aload_n 0, 1, 0, 0, 0),
  (830, .iload_n 3, 1, 0, 0, 0), (831, .iconst 1, 1, 0, 0, 0), (832, .iadd, 1, 0, 0, 0), (833, .iaload, 1, 0, 0, 0), (834, .aload_n 0, 1, 0, 0, 0), (835, .iload_n 3, 1, 0, 0, 0),
  (836, .iconst 2, 1, 0, 0, 0), (837, .iadd, 1, 0, 0, 0), (838, .iaload, 1, 0, 0, 0), (839, .aload_n 0, 1, 0, 0, 0), (840, .iload_n 3, 1, 0, 0, 0), (841, .iconst 3, 1, 0, 0, 0),
  (842, .iadd, 1, 0, 0, 0), (843, .iaload, 1, 0, 0, 0), (844, .invokevirtual 120, 3, 138, 3, 25), (847, .if_icmp .eq 54, 3, 901, 0, 0), (850, .iconst 0, 1, 0, 0, 0), (851, .ireturn, 1, 0, 0, 0),
  (852, .aload_n 1, 1, 0, 0, 0), (853, .invokevirtual 121, 3, 68, 0, 21), (856, .aload_n 2, 1, 0, 0, 0), (857, .invokevirtual 124, 3, 139, 0, 25), (860, .if_icmp .eq 41, 3, 901, 0, 0), (863, .iconst 0, 1, 0, 0, 0),
  (864, .ireturn, 1, 0, 0, 0), (865, .aload_n 1, 1, 0, 0, 0), (866, .invokevirtual 125, 3, 69, 0, 21), (869, .aload_n 2, 1, 0, 0, 0), (870, .invokevirtual 128, 3, 140, 0, 25), (873, .if_icmp .eq 28, 3, 901, 0, 0),
  (876, .iconst 0, 1, 0, 0, 0), (877, .ireturn, 1, 0, 0, 0), (878, .aload_n 1, 1, 0, 0, 0), (879, .aload_n 0, 1, 0, 0, 0), (880, .iload_n 3, 1, 0, 0, 0), (881, .iconst 1, 1, 0, 0, 0),
  (882, .iadd, 1, 0, 0, 0), (883, .iaload, 1, 0, 0, 0), (884, .invokevirtual 129, 3, 70, 1, 21), (887, .aload_n 2, 1, 0, 0, 0), (888, .aload_n 0, 1, 0, 0, 0), (889, .iload_n 3, 1, 0, 0, 0),
  (890, .iconst 1, 1, 0, 0, 0), (891, .iadd, 1, 0, 0, 0), (892, .iaload, 1, 0, 0, 0), (893, .invokevirtual 132, 3, 141, 1, 25), (896, .if_icmp .eq 5, 3, 901, 0, 0), (899, .iconst 0, 1, 0, 0, 0),
  (900, .ireturn, 1, 0, 0, 0), (901, .iinc 3 4, 3, 0, 0, 0), (904, .goto (-886), 3, 18, 0, 0), (907, .iconst 1, 1, 0, 0, 0), (908, .ireturn, 1, 0, 0, 0)]
def ct_L_law : List Nat := [18]
def nl_mts : List nl_M := [(cd_X0_choose, ct_X0_choose, 0, 4),
  (cd_X0_weigh, ct_X0_weigh, 0, 5),
  (cd_X0_leastOf, ct_X0_leastOf, 1, 6),
  (cd_X0_priceWith, ct_X0_priceWith, 1, 4),
  (cd_X0_dealOut, ct_X0_dealOut, 0, 5),
  (cd_X0_lowestOfLeast, ct_X0_lowestOfLeast, 1, 5),
  (cd_X0_fewestSwaps, ct_X0_fewestSwaps, 1, 3),
  (cd_X0_canBridge, ct_X0_canBridge, 3, 8),
  (cd_X0_exchange, ct_X0_exchange, 0, 4),
  (cd_X1_read, ct_X1_read, 0, 5),
  (cd_X1_canBeLaid, ct_X1_canBeLaid, 3, 1),
  (cd_X1_readItem, ct_X1_readItem, 1, 10),
  (cd_X1_readNumber, ct_X1_readNumber, 1, 7),
  (cd_X1_addHour, ct_X1_addHour, 3, 1),
  (cd_X1_addHouse, ct_X1_addHouse, 3, 1),
  (cd_X2_clear, ct_X2_clear, 0, 1),
  (cd_X2_put, ct_X2_put, 0, 2),
  (cd_X2_dropOldest, ct_X2_dropOldest, 0, 3),
  (cd_X2_takeInto, ct_X2_takeInto, 3, 2),
  (cd_X3_clear, ct_X3_clear, 0, 1),
  (cd_X3_add, ct_X3_add, 0, 4),
  (cd_X3_lastNight, ct_X3_lastNight, 1, 3),
  (cd_X3_fit, ct_X3_fit, 3, 4),
  (cd_X4_settle, ct_X4_settle, 0, 3),
  (cd_X4_copyFrom, ct_X4_copyFrom, 0, 3),
  (cd_X4_isHouse, ct_X4_isHouse, 3, 2),
  (cd_X4_isHour, ct_X4_isHour, 3, 2),
  (cd_X4_houseWith, ct_X4_houseWith, 1, 3),
  (cd_X4_timesHad, ct_X4_timesHad, 1, 3),
  (cd_X4_heaviness, ct_X4_heaviness, 1, 4),
  (cd_X4_hourHadMost, ct_X4_hourHadMost, 1, 6),
  (cd_X4_wouldKeep, ct_X4_wouldKeep, 3, 4),
  (cd_X4_isGapAt, ct_X4_isGapAt, 3, 3),
  (cd_X4_seeThrough, ct_X4_seeThrough, 3, 4),
  (cd_X4_letNightsPass, ct_X4_letNightsPass, 1, 5),
  (cd_X4_trade, ct_X4_trade, 0, 4),
  (cd_X4_giveRest, ct_X4_giveRest, 0, 2),
  (cd_X4_setBurden, ct_X4_setBurden, 0, 3),
  (cd_X4_tiredTogether, ct_X4_tiredTogether, 1, 3),
  (cd_X4_handingOver, ct_X4_handingOver, 1, 5),
  (cd_X4_lengthOfRoad, ct_X4_lengthOfRoad, 1, 4),
  (cd_X4_stir, ct_X4_stir, 0, 4),
  (cd_X5_write, ct_X5_write, 1, 2),
  (cd_X5_wipe, ct_X5_wipe, 1, 2),
  (cd_X5_fault, ct_X5_fault, 1, 1),
  (cd_X5_lay, ct_X5_lay, 1, 1),
  (cd_X5_house, ct_X5_house, 1, 3),
  (cd_X5_hour, ct_X5_hour, 1, 3),
  (cd_X5_heavy, ct_X5_heavy, 1, 3),
  (cd_X5_had, ct_X5_had, 1, 3),
  (cd_X5_pass, ct_X5_pass, 1, 2),
  (cd_X5_swap, ct_X5_swap, 1, 3),
  (cd_X5_rest, ct_X5_rest, 1, 2),
  (cd_X5_burden, ct_X5_burden, 1, 4),
  (cd_X5_undo, ct_X5_undo, 1, 1),
  (cd_X5_behind, ct_X5_behind, 1, 4),
  (cd_X5_gaps, ct_X5_gaps, 1, 3),
  (cd_X5_first, ct_X5_first, 1, 3),
  (cd_X5_even, ct_X5_even, 1, 2),
  (cd_X5_swaps, ct_X5_swaps, 1, 1),
  (cd_X5_far, ct_X5_far, 1, 2),
  (cd_X5_lamps, ct_X5_lamps, 1, 5),
  (cd_X5_seen, ct_X5_seen, 1, 4),
  (cd_X5_forget, ct_X5_forget, 1, 2),
  (cd_X5_kinds, ct_X5_kinds, 1, 4),
  (cd_X5_strengths, ct_X5_strengths, 1, 6),
  (cd_X5_likely, ct_X5_likely, 1, 9),
  (cd_X5_winter, ct_X5_winter, 1, 6),
  (cd_X5_keep, ct_X5_keep, 1, 1),
  (cd_X5_back, ct_X5_back, 1, 1),
  (cd_X5_count, ct_X5_count, 1, 2),
  (cd_X5_isWithin, ct_X5_isWithin, 3, 3),
  (cd_X5_largestDivisor, ct_X5_largestDivisor, 1, 3),
  (cd_X5_drawFor, ct_X5_drawFor, 1, 4),
  (cd_X5_nextMissAhead, ct_X5_nextMissAhead, 1, 4),
  (cd_X5_fitsAllSeen, ct_X5_fitsAllSeen, 3, 6),
  (cd_X6_in, ct_X6_in, 3, 3),
  (cd_X6_has, ct_X6_has, 3, 2),
  (cd_X6_bits, ct_X6_bits, 1, 3),
  (cd_X6_lesser, ct_X6_lesser, 1, 2),
  (cd_X6_greater, ct_X6_greater, 1, 2),
  (cd_X6_firstHouse, ct_X6_firstHouse, 0, 5),
  (cd_X6_begin, ct_X6_begin, 0, 2),
  (cd_X6_isOne, ct_X6_isOne, 3, 2),
  (cd_X6_write, ct_X6_write, 1, 2),
  (cd_X6_wipe, ct_X6_wipe, 1, 2),
  (cd_X6_here, ct_X6_here, 1, 1),
  (cd_X6_isFigure, ct_X6_isFigure, 3, 1),
  (cd_X6_number, ct_X6_number, 3, 5),
  (cd_X6_readsHour, ct_X6_readsHour, 3, 1),
  (cd_X6_readsHouse, ct_X6_readsHouse, 3, 2),
  (cd_X6_readsItem, ct_X6_readsItem, 3, 2),
  (cd_X6_fault, ct_X6_fault, 1, 2),
  (cd_X6_lay, ct_X6_lay, 1, 2),
  (cd_X6_mostOften, ct_X6_mostOften, 1, 6),
  (cd_X6_weight, ct_X6_weight, 1, 4),
  (cd_X6_keeps, ct_X6_keeps, 3, 3),
  (cd_X6_gapSet, ct_X6_gapSet, 1, 3),
  (cd_X6_passes, ct_X6_passes, 1, 4),
  (cd_X6_goesOn, ct_X6_goesOn, 1, 4),
  (cd_X6_house, ct_X6_house, 1, 3),
  (cd_X6_whoHas, ct_X6_whoHas, 1, 3),
  (cd_X6_hour, ct_X6_hour, 1, 3),
  (cd_X6_heavy, ct_X6_heavy, 1, 3),
  (cd_X6_had, ct_X6_had, 1, 3),
  (cd_X6_lays, ct_X6_lays, 0, 4),
  (cd_X6_takes, ct_X6_takes, 0, 4),
  (cd_X6_notes, ct_X6_notes, 0, 2),
  (cd_X6_pass, ct_X6_pass, 1, 2),
  (cd_X6_trades, ct_X6_trades, 0, 4),
  (cd_X6_swap, ct_X6_swap, 1, 3),
  (cd_X6_rests, ct_X6_rests, 0, 2),
  (cd_X6_rest, ct_X6_rest, 1, 2),
  (cd_X6_burden, ct_X6_burden, 1, 4),
  (cd_X6_undo, ct_X6_undo, 1, 1),
  (cd_X6_start, ct_X6_start, 0, 1),
  (cd_X6_putBack, ct_X6_putBack, 0, 1),
  (cd_X6_behind, ct_X6_behind, 1, 5),
  (cd_X6_gaps, ct_X6_gaps, 1, 1),
  (cd_X6_first, ct_X6_first, 1, 5),
  (cd_X6_firstRow, ct_X6_firstRow, 0, 2),
  (cd_X6_nextRow, ct_X6_nextRow, 3, 7),
  (cd_X6_gapsBy, ct_X6_gapsBy, 1, 3),
  (cd_X6_keptWeight, ct_X6_keptWeight, 1, 3),
  (cd_X6_even, ct_X6_even, 1, 8),
  (cd_X6_swapsTo, ct_X6_swapsTo, 1, 5),
  (cd_X6_swaps, ct_X6_swaps, 1, 3),
  (cd_X6_off, ct_X6_off, 1, 2),
  (cd_X6_far, ct_X6_far, 1, 6),
  (cd_X6_lamps, ct_X6_lamps, 1, 7),
  (cd_X6_seen, ct_X6_seen, 1, 4),
  (cd_X6_forget, ct_X6_forget, 1, 2),
  (cd_X6_isSo, ct_X6_isSo, 3, 5),
  (cd_X6_kinds, ct_X6_kinds, 1, 5),
  (cd_X6_strengths, ct_X6_strengths, 1, 8),
  (cd_X6_common, ct_X6_common, 2, 10),
  (cd_X6_likely, ct_X6_likely, 1, 11),
  (cd_X6_tiredAll, ct_X6_tiredAll, 1, 3),
  (cd_X6_winter, ct_X6_winter, 1, 12),
  (cd_X6_keep, ct_X6_keep, 1, 1),
  (cd_X6_back, ct_X6_back, 1, 1),
  (cd_X6_count, ct_X6_count, 1, 2),
  (cd_J6_bitCount_0f7a4, ct_J6_bitCount_0f7a4, 1, 1)]
abbrev m_X0_choose : Nat := 0
abbrev m_X0_weigh : Nat := 1
abbrev m_X0_leastOf : Nat := 2
abbrev m_X0_priceWith : Nat := 3
abbrev m_X0_dealOut : Nat := 4
abbrev m_X0_lowestOfLeast : Nat := 5
abbrev m_X0_fewestSwaps : Nat := 6
abbrev m_X0_canBridge : Nat := 7
abbrev m_X0_exchange : Nat := 8
abbrev m_X1_read : Nat := 9
abbrev m_X1_canBeLaid : Nat := 10
abbrev m_X1_readItem : Nat := 11
abbrev m_X1_readNumber : Nat := 12
abbrev m_X1_addHour : Nat := 13
abbrev m_X1_addHouse : Nat := 14
abbrev m_X2_clear : Nat := 15
abbrev m_X2_put : Nat := 16
abbrev m_X2_dropOldest : Nat := 17
abbrev m_X2_takeInto : Nat := 18
abbrev m_X3_clear : Nat := 19
abbrev m_X3_add : Nat := 20
abbrev m_X3_lastNight : Nat := 21
abbrev m_X3_fit : Nat := 22
abbrev m_X4_settle : Nat := 23
abbrev m_X4_copyFrom : Nat := 24
abbrev m_X4_isHouse : Nat := 25
abbrev m_X4_isHour : Nat := 26
abbrev m_X4_houseWith : Nat := 27
abbrev m_X4_timesHad : Nat := 28
abbrev m_X4_heaviness : Nat := 29
abbrev m_X4_hourHadMost : Nat := 30
abbrev m_X4_wouldKeep : Nat := 31
abbrev m_X4_isGapAt : Nat := 32
abbrev m_X4_seeThrough : Nat := 33
abbrev m_X4_letNightsPass : Nat := 34
abbrev m_X4_trade : Nat := 35
abbrev m_X4_giveRest : Nat := 36
abbrev m_X4_setBurden : Nat := 37
abbrev m_X4_tiredTogether : Nat := 38
abbrev m_X4_handingOver : Nat := 39
abbrev m_X4_lengthOfRoad : Nat := 40
abbrev m_X4_stir : Nat := 41
abbrev m_X5_write : Nat := 42
abbrev m_X5_wipe : Nat := 43
abbrev m_X5_fault : Nat := 44
abbrev m_X5_lay : Nat := 45
abbrev m_X5_house : Nat := 46
abbrev m_X5_hour : Nat := 47
abbrev m_X5_heavy : Nat := 48
abbrev m_X5_had : Nat := 49
abbrev m_X5_pass : Nat := 50
abbrev m_X5_swap : Nat := 51
abbrev m_X5_rest : Nat := 52
abbrev m_X5_burden : Nat := 53
abbrev m_X5_undo : Nat := 54
abbrev m_X5_behind : Nat := 55
abbrev m_X5_gaps : Nat := 56
abbrev m_X5_first : Nat := 57
abbrev m_X5_even : Nat := 58
abbrev m_X5_swaps : Nat := 59
abbrev m_X5_far : Nat := 60
abbrev m_X5_lamps : Nat := 61
abbrev m_X5_seen : Nat := 62
abbrev m_X5_forget : Nat := 63
abbrev m_X5_kinds : Nat := 64
abbrev m_X5_strengths : Nat := 65
abbrev m_X5_likely : Nat := 66
abbrev m_X5_winter : Nat := 67
abbrev m_X5_keep : Nat := 68
abbrev m_X5_back : Nat := 69
abbrev m_X5_count : Nat := 70
abbrev m_X5_isWithin : Nat := 71
abbrev m_X5_largestDivisor : Nat := 72
abbrev m_X5_drawFor : Nat := 73
abbrev m_X5_nextMissAhead : Nat := 74
abbrev m_X5_fitsAllSeen : Nat := 75
abbrev m_X6_in : Nat := 76
abbrev m_X6_has : Nat := 77
abbrev m_X6_bits : Nat := 78
abbrev m_X6_lesser : Nat := 79
abbrev m_X6_greater : Nat := 80
abbrev m_X6_firstHouse : Nat := 81
abbrev m_X6_begin : Nat := 82
abbrev m_X6_isOne : Nat := 83
abbrev m_X6_write : Nat := 84
abbrev m_X6_wipe : Nat := 85
abbrev m_X6_here : Nat := 86
abbrev m_X6_isFigure : Nat := 87
abbrev m_X6_number : Nat := 88
abbrev m_X6_readsHour : Nat := 89
abbrev m_X6_readsHouse : Nat := 90
abbrev m_X6_readsItem : Nat := 91
abbrev m_X6_fault : Nat := 92
abbrev m_X6_lay : Nat := 93
abbrev m_X6_mostOften : Nat := 94
abbrev m_X6_weight : Nat := 95
abbrev m_X6_keeps : Nat := 96
abbrev m_X6_gapSet : Nat := 97
abbrev m_X6_passes : Nat := 98
abbrev m_X6_goesOn : Nat := 99
abbrev m_X6_house : Nat := 100
abbrev m_X6_whoHas : Nat := 101
abbrev m_X6_hour : Nat := 102
abbrev m_X6_heavy : Nat := 103
abbrev m_X6_had : Nat := 104
abbrev m_X6_lays : Nat := 105
abbrev m_X6_takes : Nat := 106
abbrev m_X6_notes : Nat := 107
abbrev m_X6_pass : Nat := 108
abbrev m_X6_trades : Nat := 109
abbrev m_X6_swap : Nat := 110
abbrev m_X6_rests : Nat := 111
abbrev m_X6_rest : Nat := 112
abbrev m_X6_burden : Nat := 113
abbrev m_X6_undo : Nat := 114
abbrev m_X6_start : Nat := 115
abbrev m_X6_putBack : Nat := 116
abbrev m_X6_behind : Nat := 117
abbrev m_X6_gaps : Nat := 118
abbrev m_X6_first : Nat := 119
abbrev m_X6_firstRow : Nat := 120
abbrev m_X6_nextRow : Nat := 121
abbrev m_X6_gapsBy : Nat := 122
abbrev m_X6_keptWeight : Nat := 123
abbrev m_X6_even : Nat := 124
abbrev m_X6_swapsTo : Nat := 125
abbrev m_X6_swaps : Nat := 126
abbrev m_X6_off : Nat := 127
abbrev m_X6_far : Nat := 128
abbrev m_X6_lamps : Nat := 129
abbrev m_X6_seen : Nat := 130
abbrev m_X6_forget : Nat := 131
abbrev m_X6_isSo : Nat := 132
abbrev m_X6_kinds : Nat := 133
abbrev m_X6_strengths : Nat := 134
abbrev m_X6_common : Nat := 135
abbrev m_X6_likely : Nat := 136
abbrev m_X6_tiredAll : Nat := 137
abbrev m_X6_winter : Nat := 138
abbrev m_X6_keep : Nat := 139
abbrev m_X6_back : Nat := 140
abbrev m_X6_count : Nat := 141
abbrev m_J6_bitCount : Nat := 142
end
section
/-! The words of the tables that the methods need, by their places. -/
def nl_R (c : Nat) : String := match c with
  | 0 => RX0
  | 1 => RX1
  | 2 => RX2
  | 3 => RX3
  | 4 => RX4
  | 5 => RX5
  | 6 => RX6
  | 7 => RL
  | 8 => RJ6
  | _ => RJ9
def nl_T (c : Nat) : u_T := match c with
  | 0 => TX0
  | 1 => TX1
  | 2 => TX2
  | 3 => TX3
  | 4 => TX4
  | 5 => TX5
  | _ => TX6
def nl_N (c : Nat) : Nat := match c with
  | 0 => 6
  | 1 => 8
  | 2 => 2
  | 3 => 4
  | 4 => 11
  | 5 => 9
  | 6 => 30
  | _ => 0
def nl_WL : List Jvm.Cond := lw_tbl.filter goodWord
theorem nl_WL_in {w : Jvm.Cond} (h : w ∈ nl_WL) : w ∈ lw_tbl := (List.mem_filter.mp h).1
theorem nl_WL_good {w : Jvm.Cond} (h : w ∈ nl_WL) : goodWord w = true := (List.mem_filter.mp h).2
theorem nl_w0 {w : Jvm.Cond} (i : Nat) (h : (k2_sels lw_privs)[i]? = some w) (g : goodWord w = true) : w ∈ nl_WL := List.mem_filter.mpr ⟨List.mem_append_left _ (List.mem_of_getElem? h), g⟩
theorem nl_w1 {w : Jvm.Cond} (i : Nat) (h : tables_1_1[i]? = some w) (g : goodWord w = true) : w ∈ nl_WL := List.mem_filter.mpr ⟨List.mem_append_right _ (tb_1 (List.mem_of_getElem? h)), g⟩
theorem nl_w2 {w : Jvm.Cond} (i : Nat) (h : tables_1_2[i]? = some w) (g : goodWord w = true) : w ∈ nl_WL := List.mem_filter.mpr ⟨List.mem_append_right _ (tb_2 (List.mem_of_getElem? h)), g⟩
theorem nl_w3 {w : Jvm.Cond} (i : Nat) (h : tables_1_3[i]? = some w) (g : goodWord w = true) : w ∈ nl_WL := List.mem_filter.mpr ⟨List.mem_append_right _ (tb_3 (List.mem_of_getElem? h)), g⟩
theorem nl_w4 {w : Jvm.Cond} (i : Nat) (h : tables_1_4[i]? = some w) (g : goodWord w = true) : w ∈ nl_WL := List.mem_filter.mpr ⟨List.mem_append_right _ (tb_4 (List.mem_of_getElem? h)), g⟩
abbrev nl_I : Type := MethodName × ByteArray × Nat × Option FieldType × Nat × Nat × Bool
def nl_inf : List nl_I := [(yX0_choose, cX0_choose, 4, none, 0, 1, false),
  (yX0_weigh, cX0_weigh, 5, none, 0, 1, false),
  (yX0_leastOf, cX0_leastOf, 6, some .int, 0, 2, false),
  (yX0_priceWith, cX0_priceWith, 4, some .int, 0, 3, false),
  (yX0_dealOut, cX0_dealOut, 5, none, 0, 1, false),
  (yX0_lowestOfLeast, cX0_lowestOfLeast, 5, some .int, 0, 3, false),
  (yX0_fewestSwaps, cX0_fewestSwaps, 3, some .int, 0, 1, false),
  (yX0_canBridge, cX0_canBridge, 8, some .boolean, 0, 5, true),
  (yX0_exchange, cX0_exchange, 4, none, 0, 3, true),
  (yX1_read, cX1_read, 5, none, 1, 2, false),
  (yX1_canBeLaid, cX1_canBeLaid, 1, some .boolean, 1, 0, false),
  (yX1_readItem, cX1_readItem, 10, some .int, 1, 3, false),
  (yX1_readNumber, cX1_readNumber, 7, some .int, 1, 4, false),
  (yX1_addHour, cX1_addHour, 1, some .boolean, 1, 0, false),
  (yX1_addHouse, cX1_addHouse, 1, some .boolean, 1, 0, false),
  (yX2_clear, cX2_clear, 1, none, 2, 0, false),
  (yX2_put, cX2_put, 2, none, 2, 1, false),
  (yX2_dropOldest, cX2_dropOldest, 3, none, 2, 0, false),
  (yX2_takeInto, cX2_takeInto, 2, some .boolean, 2, 1, false),
  (yX3_clear, cX3_clear, 1, none, 3, 0, false),
  (yX3_add, cX3_add, 4, none, 3, 3, false),
  (yX3_lastNight, cX3_lastNight, 3, some .int, 3, 0, false),
  (yX3_fit, cX3_fit, 4, some .boolean, 3, 2, false),
  (yX4_settle, cX4_settle, 3, none, 4, 1, false),
  (yX4_copyFrom, cX4_copyFrom, 3, none, 4, 1, false),
  (yX4_isHouse, cX4_isHouse, 2, some .boolean, 4, 1, false),
  (yX4_isHour, cX4_isHour, 2, some .boolean, 4, 1, false),
  (yX4_houseWith, cX4_houseWith, 3, some .int, 4, 1, false),
  (yX4_timesHad, cX4_timesHad, 3, some .int, 4, 2, false),
  (yX4_heaviness, cX4_heaviness, 4, some .int, 4, 2, false),
  (yX4_hourHadMost, cX4_hourHadMost, 6, some .int, 4, 1, false),
  (yX4_wouldKeep, cX4_wouldKeep, 4, some .boolean, 4, 3, false),
  (yX4_isGapAt, cX4_isGapAt, 3, some .boolean, 4, 1, false),
  (yX4_seeThrough, cX4_seeThrough, 4, some .boolean, 4, 1, false),
  (yX4_letNightsPass, cX4_letNightsPass, 5, some .int, 4, 1, false),
  (yX4_trade, cX4_trade, 4, none, 4, 2, false),
  (yX4_giveRest, cX4_giveRest, 2, none, 4, 1, false),
  (yX4_setBurden, cX4_setBurden, 3, none, 4, 2, false),
  (yX4_tiredTogether, cX4_tiredTogether, 3, some .int, 4, 0, false),
  (yX4_handingOver, cX4_handingOver, 5, some .int, 4, 0, false),
  (yX4_lengthOfRoad, cX4_lengthOfRoad, 4, some .int, 4, 0, false),
  (yX4_stir, cX4_stir, 4, none, 4, 1, false),
  (yX5_write, cX5_write, 2, some .int, 5, 1, false),
  (yX5_wipe, cX5_wipe, 2, some .int, 5, 0, false),
  (yX5_fault, cX5_fault, 1, some .int, 5, 0, false),
  (yX5_lay, cX5_lay, 1, some .int, 5, 0, false),
  (yX5_house, cX5_house, 3, some .int, 5, 2, false),
  (yX5_hour, cX5_hour, 3, some .int, 5, 2, false),
  (yX5_heavy, cX5_heavy, 3, some .int, 5, 2, false),
  (yX5_had, cX5_had, 3, some .int, 5, 2, false),
  (yX5_pass, cX5_pass, 2, some .int, 5, 1, false),
  (yX5_swap, cX5_swap, 3, some .int, 5, 2, false),
  (yX5_rest, cX5_rest, 2, some .int, 5, 1, false),
  (yX5_burden, cX5_burden, 4, some .int, 5, 2, false),
  (yX5_undo, cX5_undo, 1, some .int, 5, 0, false),
  (yX5_behind, cX5_behind, 4, some .int, 5, 3, false),
  (yX5_gaps, cX5_gaps, 3, some .int, 5, 0, false),
  (yX5_first, cX5_first, 3, some .int, 5, 1, false),
  (yX5_even, cX5_even, 2, some .int, 5, 1, false),
  (yX5_swaps, cX5_swaps, 1, some .int, 5, 0, false),
  (yX5_far, cX5_far, 2, some .int, 5, 1, false),
  (yX5_lamps, cX5_lamps, 5, some .int, 5, 2, false),
  (yX5_seen, cX5_seen, 4, some .int, 5, 3, false),
  (yX5_forget, cX5_forget, 2, some .int, 5, 0, false),
  (yX5_kinds, cX5_kinds, 4, some .int, 5, 1, false),
  (yX5_strengths, cX5_strengths, 6, some .int, 5, 2, false),
  (yX5_likely, cX5_likely, 9, some .int, 5, 3, false),
  (yX5_winter, cX5_winter, 6, some .int, 5, 3, false),
  (yX5_keep, cX5_keep, 1, some .int, 5, 0, false),
  (yX5_back, cX5_back, 1, some .int, 5, 0, false),
  (yX5_count, cX5_count, 2, some .int, 5, 1, false),
  (yX5_isWithin, cX5_isWithin, 3, some .boolean, 5, 3, true),
  (yX5_largestDivisor, cX5_largestDivisor, 3, some .int, 5, 2, true),
  (yX5_drawFor, cX5_drawFor, 4, some .int, 5, 2, true),
  (yX5_nextMissAhead, cX5_nextMissAhead, 4, some .int, 5, 2, false),
  (yX5_fitsAllSeen, cX5_fitsAllSeen, 6, some .boolean, 5, 3, false),
  (yX6_in, cX6_in, 3, some .boolean, 6, 3, true),
  (yX6_has, cX6_has, 2, some .boolean, 6, 2, true),
  (yX6_bits, cX6_bits, 3, some .int, 6, 1, true),
  (yX6_lesser, cX6_lesser, 2, some .int, 6, 2, true),
  (yX6_greater, cX6_greater, 2, some .int, 6, 2, true),
  (yX6_firstHouse, cX6_firstHouse, 5, none, 6, 4, false),
  (yX6_begin, cX6_begin, 2, none, 6, 0, false),
  (yX6_isOne, cX6_isOne, 2, some .boolean, 6, 1, false),
  (yX6_write, cX6_write, 2, some .int, 6, 1, false),
  (yX6_wipe, cX6_wipe, 2, some .int, 6, 0, false),
  (yX6_here, cX6_here, 1, some .int, 6, 0, false),
  (yX6_isFigure, cX6_isFigure, 1, some .boolean, 6, 0, false),
  (yX6_number, cX6_number, 5, some .boolean, 6, 3, false),
  (yX6_readsHour, cX6_readsHour, 1, some .boolean, 6, 0, false),
  (yX6_readsHouse, cX6_readsHouse, 2, some .boolean, 6, 0, false),
  (yX6_readsItem, cX6_readsItem, 2, some .boolean, 6, 0, false),
  (yX6_fault, cX6_fault, 2, some .int, 6, 0, false),
  (yX6_lay, cX6_lay, 2, some .int, 6, 0, false),
  (yX6_mostOften, cX6_mostOften, 6, some .int, 6, 1, false),
  (yX6_weight, cX6_weight, 4, some .int, 6, 2, false),
  (yX6_keeps, cX6_keeps, 3, some .boolean, 6, 2, false),
  (yX6_gapSet, cX6_gapSet, 3, some .int, 6, 0, false),
  (yX6_passes, cX6_passes, 4, some .int, 6, 0, false),
  (yX6_goesOn, cX6_goesOn, 4, some .int, 6, 1, false),
  (yX6_house, cX6_house, 3, some .int, 6, 2, false),
  (yX6_whoHas, cX6_whoHas, 3, some .int, 6, 1, false),
  (yX6_hour, cX6_hour, 3, some .int, 6, 2, false),
  (yX6_heavy, cX6_heavy, 3, some .int, 6, 2, false),
  (yX6_had, cX6_had, 3, some .int, 6, 2, false),
  (yX6_lays, cX6_lays, 4, none, 6, 2, false),
  (yX6_takes, cX6_takes, 4, none, 6, 2, false),
  (yX6_notes, cX6_notes, 2, none, 6, 0, false),
  (yX6_pass, cX6_pass, 2, some .int, 6, 1, false),
  (yX6_trades, cX6_trades, 4, none, 6, 2, false),
  (yX6_swap, cX6_swap, 3, some .int, 6, 2, false),
  (yX6_rests, cX6_rests, 2, none, 6, 1, false),
  (yX6_rest, cX6_rest, 2, some .int, 6, 1, false),
  (yX6_burden, cX6_burden, 4, some .int, 6, 2, false),
  (yX6_undo, cX6_undo, 1, some .int, 6, 0, false),
  (yX6_start, cX6_start, 1, none, 6, 0, false),
  (yX6_putBack, cX6_putBack, 1, none, 6, 0, false),
  (yX6_behind, cX6_behind, 5, some .int, 6, 3, false),
  (yX6_gaps, cX6_gaps, 1, some .int, 6, 0, false),
  (yX6_first, cX6_first, 5, some .int, 6, 1, false),
  (yX6_firstRow, cX6_firstRow, 2, none, 6, 0, false),
  (yX6_nextRow, cX6_nextRow, 7, some .boolean, 6, 0, false),
  (yX6_gapsBy, cX6_gapsBy, 3, some .int, 6, 0, false),
  (yX6_keptWeight, cX6_keptWeight, 3, some .int, 6, 0, false),
  (yX6_even, cX6_even, 8, some .int, 6, 1, false),
  (yX6_swapsTo, cX6_swapsTo, 5, some .int, 6, 0, false),
  (yX6_swaps, cX6_swaps, 3, some .int, 6, 0, false),
  (yX6_off, cX6_off, 2, some .int, 6, 2, true),
  (yX6_far, cX6_far, 6, some .int, 6, 1, false),
  (yX6_lamps, cX6_lamps, 7, some .int, 6, 2, false),
  (yX6_seen, cX6_seen, 4, some .int, 6, 3, false),
  (yX6_forget, cX6_forget, 2, some .int, 6, 0, false),
  (yX6_isSo, cX6_isSo, 5, some .boolean, 6, 0, false),
  (yX6_kinds, cX6_kinds, 5, some .int, 6, 1, false),
  (yX6_strengths, cX6_strengths, 8, some .int, 6, 2, false),
  (yX6_common, cX6_common, 10, some .long, 6, 2, true),
  (yX6_likely, cX6_likely, 11, some .int, 6, 3, false),
  (yX6_tiredAll, cX6_tiredAll, 3, some .int, 6, 0, false),
  (yX6_winter, cX6_winter, 12, some .int, 6, 3, false),
  (yX6_keep, cX6_keep, 1, some .int, 6, 0, false),
  (yX6_back, cX6_back, 1, some .int, 6, 0, false),
  (yX6_count, cX6_count, 2, some .int, 6, 1, false),
  (yJ6_bitCount_0f7a4, cJ6_bitCount_0f7a4, 1, some .int, 8, 1, true)]
def nl_okI (e : nl_I) : Prop := Cond.code e.1 e.2.1 e.2.2.1 e.2.2.2.1 ∈ nl_WL ∧ Cond.initialized (nl_R e.2.2.2.2.1) ∈ nl_WL ∧ e.1.cls = nl_R e.2.2.2.2.1 ∧ (e.2.2.2.2.2.2 = true → Cond.static e.1 ∈ nl_WL) ∧ (e.2.2.2.2.2.2 = false → Cond.instanceMethod e.1 ∈ nl_WL ∧ Cond.selects (nl_R e.2.2.2.2.1) e.1 e.1 ∈ nl_WL)
set_option maxRecDepth 100000 in
theorem nl_i0 : nl_okI (yX0_choose, cX0_choose, 4, none, 0, 1, false) := ⟨(nl_w2 214 rfl rfl), (nl_w1 7 rfl rfl), rfl, (fun h => nomatch h), fun _ => ⟨(nl_w2 212 rfl rfl), (nl_w2 213 rfl rfl)⟩⟩
set_option maxRecDepth 100000 in
theorem nl_i1 : nl_okI (yX0_weigh, cX0_weigh, 5, none, 0, 1, false) := ⟨(nl_w2 218 rfl rfl), (nl_w1 7 rfl rfl), rfl, (fun h => nomatch h), fun _ => ⟨(nl_w2 217 rfl rfl), (nl_w0 7 rfl rfl)⟩⟩
set_option maxRecDepth 100000 in
theorem nl_i2 : nl_okI (yX0_leastOf, cX0_leastOf, 6, some .int, 0, 2, false) := ⟨(nl_w2 224 rfl rfl), (nl_w1 7 rfl rfl), rfl, (fun h => nomatch h), fun _ => ⟨(nl_w2 223 rfl rfl), (nl_w0 8 rfl rfl)⟩⟩
set_option maxRecDepth 100000 in
theorem nl_i3 : nl_okI (yX0_priceWith, cX0_priceWith, 4, some .int, 0, 3, false) := ⟨(nl_w2 234 rfl rfl), (nl_w1 7 rfl rfl), rfl, (fun h => nomatch h), fun _ => ⟨(nl_w2 233 rfl rfl), (nl_w0 9 rfl rfl)⟩⟩
set_option maxRecDepth 100000 in
theorem nl_i4 : nl_okI (yX0_dealOut, cX0_dealOut, 5, none, 0, 1, false) := ⟨(nl_w2 239 rfl rfl), (nl_w1 7 rfl rfl), rfl, (fun h => nomatch h), fun _ => ⟨(nl_w2 238 rfl rfl), (nl_w0 10 rfl rfl)⟩⟩
set_option maxRecDepth 100000 in
theorem nl_i5 : nl_okI (yX0_lowestOfLeast, cX0_lowestOfLeast, 5, some .int, 0, 3, false) := ⟨(nl_w3 3 rfl rfl), (nl_w1 7 rfl rfl), rfl, (fun h => nomatch h), fun _ => ⟨(nl_w3 2 rfl rfl), (nl_w0 11 rfl rfl)⟩⟩
set_option maxRecDepth 100000 in
theorem nl_i6 : nl_okI (yX0_fewestSwaps, cX0_fewestSwaps, 3, some .int, 0, 1, false) := ⟨(nl_w3 11 rfl rfl), (nl_w1 7 rfl rfl), rfl, (fun h => nomatch h), fun _ => ⟨(nl_w3 9 rfl rfl), (nl_w3 10 rfl rfl)⟩⟩
set_option maxRecDepth 100000 in
theorem nl_i7 : nl_okI (yX0_canBridge, cX0_canBridge, 8, some .boolean, 0, 5, true) := ⟨(nl_w3 14 rfl rfl), (nl_w1 7 rfl rfl), rfl, fun _ => (nl_w3 13 rfl rfl), (fun h => nomatch h)⟩
set_option maxRecDepth 100000 in
theorem nl_i8 : nl_okI (yX0_exchange, cX0_exchange, 4, none, 0, 3, true) := ⟨(nl_w3 17 rfl rfl), (nl_w1 7 rfl rfl), rfl, fun _ => (nl_w3 16 rfl rfl), (fun h => nomatch h)⟩
set_option maxRecDepth 100000 in
theorem nl_i9 : nl_okI (yX1_read, cX1_read, 5, none, 1, 2, false) := ⟨(nl_w2 4 rfl rfl), (nl_w1 2 rfl rfl), rfl, (fun h => nomatch h), fun _ => ⟨(nl_w2 2 rfl rfl), (nl_w2 3 rfl rfl)⟩⟩
set_option maxRecDepth 100000 in
theorem nl_i10 : nl_okI (yX1_canBeLaid, cX1_canBeLaid, 1, some .boolean, 1, 0, false) := ⟨(nl_w2 25 rfl rfl), (nl_w1 2 rfl rfl), rfl, (fun h => nomatch h), fun _ => ⟨(nl_w2 23 rfl rfl), (nl_w2 24 rfl rfl)⟩⟩
set_option maxRecDepth 100000 in
theorem nl_i11 : nl_okI (yX1_readItem, cX1_readItem, 10, some .int, 1, 3, false) := ⟨(nl_w2 8 rfl rfl), (nl_w1 2 rfl rfl), rfl, (fun h => nomatch h), fun _ => ⟨(nl_w2 7 rfl rfl), (nl_w0 0 rfl rfl)⟩⟩
set_option maxRecDepth 100000 in
theorem nl_i12 : nl_okI (yX1_readNumber, cX1_readNumber, 7, some .int, 1, 4, false) := ⟨(nl_w2 12 rfl rfl), (nl_w1 2 rfl rfl), rfl, (fun h => nomatch h), fun _ => ⟨(nl_w2 11 rfl rfl), (nl_w0 1 rfl rfl)⟩⟩
set_option maxRecDepth 100000 in
theorem nl_i13 : nl_okI (yX1_addHour, cX1_addHour, 1, some .boolean, 1, 0, false) := ⟨(nl_w2 17 rfl rfl), (nl_w1 2 rfl rfl), rfl, (fun h => nomatch h), fun _ => ⟨(nl_w2 16 rfl rfl), (nl_w0 2 rfl rfl)⟩⟩
set_option maxRecDepth 100000 in
theorem nl_i14 : nl_okI (yX1_addHouse, cX1_addHouse, 1, some .boolean, 1, 0, false) := ⟨(nl_w2 21 rfl rfl), (nl_w1 2 rfl rfl), rfl, (fun h => nomatch h), fun _ => ⟨(nl_w2 20 rfl rfl), (nl_w0 3 rfl rfl)⟩⟩
set_option maxRecDepth 100000 in
theorem nl_i15 : nl_okI (yX2_clear, cX2_clear, 1, none, 2, 0, false) := ⟨(nl_w2 36 rfl rfl), (nl_w1 4 rfl rfl), rfl, (fun h => nomatch h), fun _ => ⟨(nl_w2 34 rfl rfl), (nl_w2 35 rfl rfl)⟩⟩
set_option maxRecDepth 100000 in
theorem nl_i16 : nl_okI (yX2_put, cX2_put, 2, none, 2, 1, false) := ⟨(nl_w2 129 rfl rfl), (nl_w1 4 rfl rfl), rfl, (fun h => nomatch h), fun _ => ⟨(nl_w2 127 rfl rfl), (nl_w2 128 rfl rfl)⟩⟩
set_option maxRecDepth 100000 in
theorem nl_i17 : nl_okI (yX2_dropOldest, cX2_dropOldest, 3, none, 2, 0, false) := ⟨(nl_w2 133 rfl rfl), (nl_w1 4 rfl rfl), rfl, (fun h => nomatch h), fun _ => ⟨(nl_w2 132 rfl rfl), (nl_w0 5 rfl rfl)⟩⟩
set_option maxRecDepth 100000 in
theorem nl_i18 : nl_okI (yX2_takeInto, cX2_takeInto, 2, some .boolean, 2, 1, false) := ⟨(nl_w2 183 rfl rfl), (nl_w1 4 rfl rfl), rfl, (fun h => nomatch h), fun _ => ⟨(nl_w2 181 rfl rfl), (nl_w2 182 rfl rfl)⟩⟩
set_option maxRecDepth 100000 in
theorem nl_i19 : nl_okI (yX3_clear, cX3_clear, 1, none, 3, 0, false) := ⟨(nl_w2 40 rfl rfl), (nl_w1 6 rfl rfl), rfl, (fun h => nomatch h), fun _ => ⟨(nl_w2 38 rfl rfl), (nl_w2 39 rfl rfl)⟩⟩
set_option maxRecDepth 100000 in
theorem nl_i20 : nl_okI (yX3_add, cX3_add, 4, none, 3, 3, false) := ⟨(nl_w3 45 rfl rfl), (nl_w1 6 rfl rfl), rfl, (fun h => nomatch h), fun _ => ⟨(nl_w3 43 rfl rfl), (nl_w3 44 rfl rfl)⟩⟩
set_option maxRecDepth 100000 in
theorem nl_i21 : nl_okI (yX3_lastNight, cX3_lastNight, 3, some .int, 3, 0, false) := ⟨(nl_w3 61 rfl rfl), (nl_w1 6 rfl rfl), rfl, (fun h => nomatch h), fun _ => ⟨(nl_w3 59 rfl rfl), (nl_w3 60 rfl rfl)⟩⟩
set_option maxRecDepth 100000 in
theorem nl_i22 : nl_okI (yX3_fit, cX3_fit, 4, some .boolean, 3, 2, false) := ⟨(nl_w3 66 rfl rfl), (nl_w1 6 rfl rfl), rfl, (fun h => nomatch h), fun _ => ⟨(nl_w3 64 rfl rfl), (nl_w3 65 rfl rfl)⟩⟩
set_option maxRecDepth 100000 in
theorem nl_i23 : nl_okI (yX4_settle, cX4_settle, 3, none, 4, 1, false) := ⟨(nl_w2 29 rfl rfl), (nl_w1 3 rfl rfl), rfl, (fun h => nomatch h), fun _ => ⟨(nl_w2 27 rfl rfl), (nl_w2 28 rfl rfl)⟩⟩
set_option maxRecDepth 100000 in
theorem nl_i24 : nl_okI (yX4_copyFrom, cX4_copyFrom, 3, none, 4, 1, false) := ⟨(nl_w2 137 rfl rfl), (nl_w1 3 rfl rfl), rfl, (fun h => nomatch h), fun _ => ⟨(nl_w2 135 rfl rfl), (nl_w2 136 rfl rfl)⟩⟩
set_option maxRecDepth 100000 in
theorem nl_i25 : nl_okI (yX4_isHouse, cX4_isHouse, 2, some .boolean, 4, 1, false) := ⟨(nl_w2 88 rfl rfl), (nl_w1 3 rfl rfl), rfl, (fun h => nomatch h), fun _ => ⟨(nl_w2 86 rfl rfl), (nl_w2 87 rfl rfl)⟩⟩
set_option maxRecDepth 100000 in
theorem nl_i26 : nl_okI (yX4_isHour, cX4_isHour, 2, some .boolean, 4, 1, false) := ⟨(nl_w2 96 rfl rfl), (nl_w1 3 rfl rfl), rfl, (fun h => nomatch h), fun _ => ⟨(nl_w2 94 rfl rfl), (nl_w2 95 rfl rfl)⟩⟩
set_option maxRecDepth 100000 in
theorem nl_i27 : nl_okI (yX4_houseWith, cX4_houseWith, 3, some .int, 4, 1, false) := ⟨(nl_w2 100 rfl rfl), (nl_w1 3 rfl rfl), rfl, (fun h => nomatch h), fun _ => ⟨(nl_w2 98 rfl rfl), (nl_w2 99 rfl rfl)⟩⟩
set_option maxRecDepth 100000 in
theorem nl_i28 : nl_okI (yX4_timesHad, cX4_timesHad, 3, some .int, 4, 2, false) := ⟨(nl_w2 121 rfl rfl), (nl_w1 3 rfl rfl), rfl, (fun h => nomatch h), fun _ => ⟨(nl_w2 119 rfl rfl), (nl_w2 120 rfl rfl)⟩⟩
set_option maxRecDepth 100000 in
theorem nl_i29 : nl_okI (yX4_heaviness, cX4_heaviness, 4, some .int, 4, 2, false) := ⟨(nl_w2 108 rfl rfl), (nl_w1 3 rfl rfl), rfl, (fun h => nomatch h), fun _ => ⟨(nl_w2 106 rfl rfl), (nl_w2 107 rfl rfl)⟩⟩
set_option maxRecDepth 100000 in
theorem nl_i30 : nl_okI (yX4_hourHadMost, cX4_hourHadMost, 6, some .int, 4, 1, false) := ⟨(nl_w2 112 rfl rfl), (nl_w1 3 rfl rfl), rfl, (fun h => nomatch h), fun _ => ⟨(nl_w2 111 rfl rfl), (nl_w0 4 rfl rfl)⟩⟩
set_option maxRecDepth 100000 in
theorem nl_i31 : nl_okI (yX4_wouldKeep, cX4_wouldKeep, 4, some .boolean, 4, 3, false) := ⟨(nl_w2 150 rfl rfl), (nl_w1 3 rfl rfl), rfl, (fun h => nomatch h), fun _ => ⟨(nl_w2 148 rfl rfl), (nl_w2 149 rfl rfl)⟩⟩
set_option maxRecDepth 100000 in
theorem nl_i32 : nl_okI (yX4_isGapAt, cX4_isGapAt, 3, some .boolean, 4, 1, false) := ⟨(nl_w2 196 rfl rfl), (nl_w1 3 rfl rfl), rfl, (fun h => nomatch h), fun _ => ⟨(nl_w2 194 rfl rfl), (nl_w2 195 rfl rfl)⟩⟩
set_option maxRecDepth 100000 in
theorem nl_i33 : nl_okI (yX4_seeThrough, cX4_seeThrough, 4, some .boolean, 4, 1, false) := ⟨(nl_w2 145 rfl rfl), (nl_w1 3 rfl rfl), rfl, (fun h => nomatch h), fun _ => ⟨(nl_w2 143 rfl rfl), (nl_w2 144 rfl rfl)⟩⟩
set_option maxRecDepth 100000 in
theorem nl_i34 : nl_okI (yX4_letNightsPass, cX4_letNightsPass, 5, some .int, 4, 1, false) := ⟨(nl_w2 141 rfl rfl), (nl_w1 3 rfl rfl), rfl, (fun h => nomatch h), fun _ => ⟨(nl_w2 139 rfl rfl), (nl_w2 140 rfl rfl)⟩⟩
set_option maxRecDepth 100000 in
theorem nl_i35 : nl_okI (yX4_trade, cX4_trade, 4, none, 4, 2, false) := ⟨(nl_w2 159 rfl rfl), (nl_w1 3 rfl rfl), rfl, (fun h => nomatch h), fun _ => ⟨(nl_w2 157 rfl rfl), (nl_w2 158 rfl rfl)⟩⟩
set_option maxRecDepth 100000 in
theorem nl_i36 : nl_okI (yX4_giveRest, cX4_giveRest, 2, none, 4, 1, false) := ⟨(nl_w2 167 rfl rfl), (nl_w1 3 rfl rfl), rfl, (fun h => nomatch h), fun _ => ⟨(nl_w2 165 rfl rfl), (nl_w2 166 rfl rfl)⟩⟩
set_option maxRecDepth 100000 in
theorem nl_i37 : nl_okI (yX4_setBurden, cX4_setBurden, 3, none, 4, 2, false) := ⟨(nl_w2 175 rfl rfl), (nl_w1 3 rfl rfl), rfl, (fun h => nomatch h), fun _ => ⟨(nl_w2 173 rfl rfl), (nl_w2 174 rfl rfl)⟩⟩
set_option maxRecDepth 100000 in
theorem nl_i38 : nl_okI (yX4_tiredTogether, cX4_tiredTogether, 3, some .int, 4, 0, false) := ⟨(nl_w3 102 rfl rfl), (nl_w1 3 rfl rfl), rfl, (fun h => nomatch h), fun _ => ⟨(nl_w3 100 rfl rfl), (nl_w3 101 rfl rfl)⟩⟩
set_option maxRecDepth 100000 in
theorem nl_i39 : nl_okI (yX4_handingOver, cX4_handingOver, 5, some .int, 4, 0, false) := ⟨(nl_w3 25 rfl rfl), (nl_w1 3 rfl rfl), rfl, (fun h => nomatch h), fun _ => ⟨(nl_w3 23 rfl rfl), (nl_w3 24 rfl rfl)⟩⟩
set_option maxRecDepth 100000 in
theorem nl_i40 : nl_okI (yX4_lengthOfRoad, cX4_lengthOfRoad, 4, some .int, 4, 0, false) := ⟨(nl_w3 32 rfl rfl), (nl_w1 3 rfl rfl), rfl, (fun h => nomatch h), fun _ => ⟨(nl_w3 30 rfl rfl), (nl_w3 31 rfl rfl)⟩⟩
set_option maxRecDepth 100000 in
theorem nl_i41 : nl_okI (yX4_stir, cX4_stir, 4, none, 4, 1, false) := ⟨(nl_w3 95 rfl rfl), (nl_w1 3 rfl rfl), rfl, (fun h => nomatch h), fun _ => ⟨(nl_w3 93 rfl rfl), (nl_w3 94 rfl rfl)⟩⟩
set_option maxRecDepth 100000 in
theorem nl_i42 : nl_okI (yX5_write, cX5_write, 2, some .int, 5, 1, false) := ⟨(nl_w1 233 rfl rfl), (nl_w1 1 rfl rfl), rfl, (fun h => nomatch h), fun _ => ⟨(nl_w1 231 rfl rfl), (nl_w1 232 rfl rfl)⟩⟩
set_option maxRecDepth 100000 in
theorem nl_i43 : nl_okI (yX5_wipe, cX5_wipe, 2, some .int, 5, 0, false) := ⟨(nl_w2 44 rfl rfl), (nl_w1 1 rfl rfl), rfl, (fun h => nomatch h), fun _ => ⟨(nl_w2 42 rfl rfl), (nl_w2 43 rfl rfl)⟩⟩
set_option maxRecDepth 100000 in
theorem nl_i44 : nl_okI (yX5_fault, cX5_fault, 1, some .int, 5, 0, false) := ⟨(nl_w2 79 rfl rfl), (nl_w1 1 rfl rfl), rfl, (fun h => nomatch h), fun _ => ⟨(nl_w2 77 rfl rfl), (nl_w2 78 rfl rfl)⟩⟩
set_option maxRecDepth 100000 in
theorem nl_i45 : nl_okI (yX5_lay, cX5_lay, 1, some .int, 5, 0, false) := ⟨(nl_w2 0 rfl rfl), (nl_w1 1 rfl rfl), rfl, (fun h => nomatch h), fun _ => ⟨(nl_w1 238 rfl rfl), (nl_w1 239 rfl rfl)⟩⟩
set_option maxRecDepth 100000 in
theorem nl_i46 : nl_okI (yX5_house, cX5_house, 3, some .int, 5, 2, false) := ⟨(nl_w2 84 rfl rfl), (nl_w1 1 rfl rfl), rfl, (fun h => nomatch h), fun _ => ⟨(nl_w2 82 rfl rfl), (nl_w2 83 rfl rfl)⟩⟩
set_option maxRecDepth 100000 in
theorem nl_i47 : nl_okI (yX5_hour, cX5_hour, 3, some .int, 5, 2, false) := ⟨(nl_w2 92 rfl rfl), (nl_w1 1 rfl rfl), rfl, (fun h => nomatch h), fun _ => ⟨(nl_w2 90 rfl rfl), (nl_w2 91 rfl rfl)⟩⟩
set_option maxRecDepth 100000 in
theorem nl_i48 : nl_okI (yX5_heavy, cX5_heavy, 3, some .int, 5, 2, false) := ⟨(nl_w2 104 rfl rfl), (nl_w1 1 rfl rfl), rfl, (fun h => nomatch h), fun _ => ⟨(nl_w2 102 rfl rfl), (nl_w2 103 rfl rfl)⟩⟩
set_option maxRecDepth 100000 in
theorem nl_i49 : nl_okI (yX5_had, cX5_had, 3, some .int, 5, 2, false) := ⟨(nl_w2 117 rfl rfl), (nl_w1 1 rfl rfl), rfl, (fun h => nomatch h), fun _ => ⟨(nl_w2 115 rfl rfl), (nl_w2 116 rfl rfl)⟩⟩
set_option maxRecDepth 100000 in
theorem nl_i50 : nl_okI (yX5_pass, cX5_pass, 2, some .int, 5, 1, false) := ⟨(nl_w2 125 rfl rfl), (nl_w1 1 rfl rfl), rfl, (fun h => nomatch h), fun _ => ⟨(nl_w2 123 rfl rfl), (nl_w2 124 rfl rfl)⟩⟩
set_option maxRecDepth 100000 in
theorem nl_i51 : nl_okI (yX5_swap, cX5_swap, 3, some .int, 5, 2, false) := ⟨(nl_w2 155 rfl rfl), (nl_w1 1 rfl rfl), rfl, (fun h => nomatch h), fun _ => ⟨(nl_w2 153 rfl rfl), (nl_w2 154 rfl rfl)⟩⟩
set_option maxRecDepth 100000 in
theorem nl_i52 : nl_okI (yX5_rest, cX5_rest, 2, some .int, 5, 1, false) := ⟨(nl_w2 163 rfl rfl), (nl_w1 1 rfl rfl), rfl, (fun h => nomatch h), fun _ => ⟨(nl_w2 161 rfl rfl), (nl_w2 162 rfl rfl)⟩⟩
set_option maxRecDepth 100000 in
theorem nl_i53 : nl_okI (yX5_burden, cX5_burden, 4, some .int, 5, 2, false) := ⟨(nl_w2 171 rfl rfl), (nl_w1 1 rfl rfl), rfl, (fun h => nomatch h), fun _ => ⟨(nl_w2 169 rfl rfl), (nl_w2 170 rfl rfl)⟩⟩
set_option maxRecDepth 100000 in
theorem nl_i54 : nl_okI (yX5_undo, cX5_undo, 1, some .int, 5, 0, false) := ⟨(nl_w2 179 rfl rfl), (nl_w1 1 rfl rfl), rfl, (fun h => nomatch h), fun _ => ⟨(nl_w2 177 rfl rfl), (nl_w2 178 rfl rfl)⟩⟩
set_option maxRecDepth 100000 in
theorem nl_i55 : nl_okI (yX5_behind, cX5_behind, 4, some .int, 5, 3, false) := ⟨(nl_w2 187 rfl rfl), (nl_w1 1 rfl rfl), rfl, (fun h => nomatch h), fun _ => ⟨(nl_w2 185 rfl rfl), (nl_w2 186 rfl rfl)⟩⟩
set_option maxRecDepth 100000 in
theorem nl_i56 : nl_okI (yX5_gaps, cX5_gaps, 3, some .int, 5, 0, false) := ⟨(nl_w2 192 rfl rfl), (nl_w1 1 rfl rfl), rfl, (fun h => nomatch h), fun _ => ⟨(nl_w2 190 rfl rfl), (nl_w2 191 rfl rfl)⟩⟩
set_option maxRecDepth 100000 in
theorem nl_i57 : nl_okI (yX5_first, cX5_first, 3, some .int, 5, 1, false) := ⟨(nl_w2 201 rfl rfl), (nl_w1 1 rfl rfl), rfl, (fun h => nomatch h), fun _ => ⟨(nl_w2 199 rfl rfl), (nl_w2 200 rfl rfl)⟩⟩
set_option maxRecDepth 100000 in
theorem nl_i58 : nl_okI (yX5_even, cX5_even, 2, some .int, 5, 1, false) := ⟨(nl_w2 210 rfl rfl), (nl_w1 1 rfl rfl), rfl, (fun h => nomatch h), fun _ => ⟨(nl_w2 208 rfl rfl), (nl_w2 209 rfl rfl)⟩⟩
set_option maxRecDepth 100000 in
theorem nl_i59 : nl_okI (yX5_swaps, cX5_swaps, 1, some .int, 5, 0, false) := ⟨(nl_w3 7 rfl rfl), (nl_w1 1 rfl rfl), rfl, (fun h => nomatch h), fun _ => ⟨(nl_w3 5 rfl rfl), (nl_w3 6 rfl rfl)⟩⟩
set_option maxRecDepth 100000 in
theorem nl_i60 : nl_okI (yX5_far, cX5_far, 2, some .int, 5, 1, false) := ⟨(nl_w3 21 rfl rfl), (nl_w1 1 rfl rfl), rfl, (fun h => nomatch h), fun _ => ⟨(nl_w3 19 rfl rfl), (nl_w3 20 rfl rfl)⟩⟩
set_option maxRecDepth 100000 in
theorem nl_i61 : nl_okI (yX5_lamps, cX5_lamps, 5, some .int, 5, 2, false) := ⟨(nl_w3 36 rfl rfl), (nl_w1 1 rfl rfl), rfl, (fun h => nomatch h), fun _ => ⟨(nl_w3 34 rfl rfl), (nl_w3 35 rfl rfl)⟩⟩
set_option maxRecDepth 100000 in
theorem nl_i62 : nl_okI (yX5_seen, cX5_seen, 4, some .int, 5, 3, false) := ⟨(nl_w3 41 rfl rfl), (nl_w1 1 rfl rfl), rfl, (fun h => nomatch h), fun _ => ⟨(nl_w3 39 rfl rfl), (nl_w3 40 rfl rfl)⟩⟩
set_option maxRecDepth 100000 in
theorem nl_i63 : nl_okI (yX5_forget, cX5_forget, 2, some .int, 5, 0, false) := ⟨(nl_w3 49 rfl rfl), (nl_w1 1 rfl rfl), rfl, (fun h => nomatch h), fun _ => ⟨(nl_w3 47 rfl rfl), (nl_w3 48 rfl rfl)⟩⟩
set_option maxRecDepth 100000 in
theorem nl_i64 : nl_okI (yX5_kinds, cX5_kinds, 4, some .int, 5, 1, false) := ⟨(nl_w3 53 rfl rfl), (nl_w1 1 rfl rfl), rfl, (fun h => nomatch h), fun _ => ⟨(nl_w3 51 rfl rfl), (nl_w3 52 rfl rfl)⟩⟩
set_option maxRecDepth 100000 in
theorem nl_i65 : nl_okI (yX5_strengths, cX5_strengths, 6, some .int, 5, 2, false) := ⟨(nl_w3 71 rfl rfl), (nl_w1 1 rfl rfl), rfl, (fun h => nomatch h), fun _ => ⟨(nl_w3 69 rfl rfl), (nl_w3 70 rfl rfl)⟩⟩
set_option maxRecDepth 100000 in
theorem nl_i66 : nl_okI (yX5_likely, cX5_likely, 9, some .int, 5, 3, false) := ⟨(nl_w3 75 rfl rfl), (nl_w1 1 rfl rfl), rfl, (fun h => nomatch h), fun _ => ⟨(nl_w3 73 rfl rfl), (nl_w3 74 rfl rfl)⟩⟩
set_option maxRecDepth 100000 in
theorem nl_i67 : nl_okI (yX5_winter, cX5_winter, 6, some .int, 5, 3, false) := ⟨(nl_w3 84 rfl rfl), (nl_w1 1 rfl rfl), rfl, (fun h => nomatch h), fun _ => ⟨(nl_w3 82 rfl rfl), (nl_w3 83 rfl rfl)⟩⟩
set_option maxRecDepth 100000 in
theorem nl_i68 : nl_okI (yX5_keep, cX5_keep, 1, some .int, 5, 0, false) := ⟨(nl_w3 106 rfl rfl), (nl_w1 1 rfl rfl), rfl, (fun h => nomatch h), fun _ => ⟨(nl_w3 104 rfl rfl), (nl_w3 105 rfl rfl)⟩⟩
set_option maxRecDepth 100000 in
theorem nl_i69 : nl_okI (yX5_back, cX5_back, 1, some .int, 5, 0, false) := ⟨(nl_w3 110 rfl rfl), (nl_w1 1 rfl rfl), rfl, (fun h => nomatch h), fun _ => ⟨(nl_w3 108 rfl rfl), (nl_w3 109 rfl rfl)⟩⟩
set_option maxRecDepth 100000 in
theorem nl_i70 : nl_okI (yX5_count, cX5_count, 2, some .int, 5, 1, false) := ⟨(nl_w3 114 rfl rfl), (nl_w1 1 rfl rfl), rfl, (fun h => nomatch h), fun _ => ⟨(nl_w3 112 rfl rfl), (nl_w3 113 rfl rfl)⟩⟩
set_option maxRecDepth 100000 in
theorem nl_i71 : nl_okI (yX5_isWithin, cX5_isWithin, 3, some .boolean, 5, 3, true) := ⟨(nl_w1 236 rfl rfl), (nl_w1 1 rfl rfl), rfl, fun _ => (nl_w1 235 rfl rfl), (fun h => nomatch h)⟩
set_option maxRecDepth 100000 in
theorem nl_i72 : nl_okI (yX5_largestDivisor, cX5_largestDivisor, 3, some .int, 5, 2, true) := ⟨(nl_w3 80 rfl rfl), (nl_w1 1 rfl rfl), rfl, fun _ => (nl_w3 79 rfl rfl), (fun h => nomatch h)⟩
set_option maxRecDepth 100000 in
theorem nl_i73 : nl_okI (yX5_drawFor, cX5_drawFor, 4, some .int, 5, 2, true) := ⟨(nl_w3 87 rfl rfl), (nl_w1 1 rfl rfl), rfl, fun _ => (nl_w3 86 rfl rfl), (fun h => nomatch h)⟩
set_option maxRecDepth 100000 in
theorem nl_i74 : nl_okI (yX5_nextMissAhead, cX5_nextMissAhead, 4, some .int, 5, 2, false) := ⟨(nl_w2 205 rfl rfl), (nl_w1 1 rfl rfl), rfl, (fun h => nomatch h), fun _ => ⟨(nl_w2 204 rfl rfl), (nl_w0 6 rfl rfl)⟩⟩
set_option maxRecDepth 100000 in
theorem nl_i75 : nl_okI (yX5_fitsAllSeen, cX5_fitsAllSeen, 6, some .boolean, 5, 3, false) := ⟨(nl_w3 57 rfl rfl), (nl_w1 1 rfl rfl), rfl, (fun h => nomatch h), fun _ => ⟨(nl_w3 56 rfl rfl), (nl_w0 12 rfl rfl)⟩⟩
set_option maxRecDepth 100000 in
theorem nl_i76 : nl_okI (yX6_in, cX6_in, 3, some .boolean, 6, 3, true) := ⟨(nl_w3 226 rfl rfl), (nl_w1 12 rfl rfl), rfl, fun _ => (nl_w3 225 rfl rfl), (fun h => nomatch h)⟩
set_option maxRecDepth 100000 in
theorem nl_i77 : nl_okI (yX6_has, cX6_has, 2, some .boolean, 6, 2, true) := ⟨(nl_w4 169 rfl rfl), (nl_w1 12 rfl rfl), rfl, fun _ => (nl_w4 168 rfl rfl), (fun h => nomatch h)⟩
set_option maxRecDepth 100000 in
theorem nl_i78 : nl_okI (yX6_bits, cX6_bits, 3, some .int, 6, 1, true) := ⟨(nl_w4 183 rfl rfl), (nl_w1 12 rfl rfl), rfl, fun _ => (nl_w4 182 rfl rfl), (fun h => nomatch h)⟩
set_option maxRecDepth 100000 in
theorem nl_i79 : nl_okI (yX6_lesser, cX6_lesser, 2, some .int, 6, 2, true) := ⟨(nl_w4 85 rfl rfl), (nl_w1 12 rfl rfl), rfl, fun _ => (nl_w4 84 rfl rfl), (fun h => nomatch h)⟩
set_option maxRecDepth 100000 in
theorem nl_i80 : nl_okI (yX6_greater, cX6_greater, 2, some .int, 6, 2, true) := ⟨(nl_w4 54 rfl rfl), (nl_w1 12 rfl rfl), rfl, fun _ => (nl_w4 53 rfl rfl), (fun h => nomatch h)⟩
set_option maxRecDepth 100000 in
theorem nl_i81 : nl_okI (yX6_firstHouse, cX6_firstHouse, 5, none, 6, 4, false) := ⟨(nl_w3 124 rfl rfl), (nl_w1 12 rfl rfl), rfl, (fun h => nomatch h), fun _ => ⟨(nl_w3 123 rfl rfl), (nl_w0 13 rfl rfl)⟩⟩
set_option maxRecDepth 100000 in
theorem nl_i82 : nl_okI (yX6_begin, cX6_begin, 2, none, 6, 0, false) := ⟨(nl_w3 128 rfl rfl), (nl_w1 12 rfl rfl), rfl, (fun h => nomatch h), fun _ => ⟨(nl_w3 127 rfl rfl), (nl_w0 14 rfl rfl)⟩⟩
set_option maxRecDepth 100000 in
theorem nl_i83 : nl_okI (yX6_isOne, cX6_isOne, 2, some .boolean, 6, 1, false) := ⟨(nl_w4 31 rfl rfl), (nl_w1 12 rfl rfl), rfl, (fun h => nomatch h), fun _ => ⟨(nl_w4 30 rfl rfl), (nl_w0 21 rfl rfl)⟩⟩
set_option maxRecDepth 100000 in
theorem nl_i84 : nl_okI (yX6_write, cX6_write, 2, some .int, 6, 1, false) := ⟨(nl_w3 223 rfl rfl), (nl_w1 12 rfl rfl), rfl, (fun h => nomatch h), fun _ => ⟨(nl_w3 221 rfl rfl), (nl_w3 222 rfl rfl)⟩⟩
set_option maxRecDepth 100000 in
theorem nl_i85 : nl_okI (yX6_wipe, cX6_wipe, 2, some .int, 6, 0, false) := ⟨(nl_w3 230 rfl rfl), (nl_w1 12 rfl rfl), rfl, (fun h => nomatch h), fun _ => ⟨(nl_w3 228 rfl rfl), (nl_w3 229 rfl rfl)⟩⟩
set_option maxRecDepth 100000 in
theorem nl_i86 : nl_okI (yX6_here, cX6_here, 1, some .int, 6, 0, false) := ⟨(nl_w4 2 rfl rfl), (nl_w1 12 rfl rfl), rfl, (fun h => nomatch h), fun _ => ⟨(nl_w4 1 rfl rfl), (nl_w0 16 rfl rfl)⟩⟩
set_option maxRecDepth 100000 in
theorem nl_i87 : nl_okI (yX6_isFigure, cX6_isFigure, 1, some .boolean, 6, 0, false) := ⟨(nl_w4 14 rfl rfl), (nl_w1 12 rfl rfl), rfl, (fun h => nomatch h), fun _ => ⟨(nl_w4 13 rfl rfl), (nl_w0 19 rfl rfl)⟩⟩
set_option maxRecDepth 100000 in
theorem nl_i88 : nl_okI (yX6_number, cX6_number, 5, some .boolean, 6, 3, false) := ⟨(nl_w4 10 rfl rfl), (nl_w1 12 rfl rfl), rfl, (fun h => nomatch h), fun _ => ⟨(nl_w4 9 rfl rfl), (nl_w0 18 rfl rfl)⟩⟩
set_option maxRecDepth 100000 in
theorem nl_i89 : nl_okI (yX6_readsHour, cX6_readsHour, 1, some .boolean, 6, 0, false) := ⟨(nl_w4 6 rfl rfl), (nl_w1 12 rfl rfl), rfl, (fun h => nomatch h), fun _ => ⟨(nl_w4 5 rfl rfl), (nl_w0 17 rfl rfl)⟩⟩
set_option maxRecDepth 100000 in
theorem nl_i90 : nl_okI (yX6_readsHouse, cX6_readsHouse, 2, some .boolean, 6, 0, false) := ⟨(nl_w4 18 rfl rfl), (nl_w1 12 rfl rfl), rfl, (fun h => nomatch h), fun _ => ⟨(nl_w4 17 rfl rfl), (nl_w0 20 rfl rfl)⟩⟩
set_option maxRecDepth 100000 in
theorem nl_i91 : nl_okI (yX6_readsItem, cX6_readsItem, 2, some .boolean, 6, 0, false) := ⟨(nl_w3 238 rfl rfl), (nl_w1 12 rfl rfl), rfl, (fun h => nomatch h), fun _ => ⟨(nl_w3 237 rfl rfl), (nl_w0 15 rfl rfl)⟩⟩
set_option maxRecDepth 100000 in
theorem nl_i92 : nl_okI (yX6_fault, cX6_fault, 2, some .int, 6, 0, false) := ⟨(nl_w3 234 rfl rfl), (nl_w1 12 rfl rfl), rfl, (fun h => nomatch h), fun _ => ⟨(nl_w3 232 rfl rfl), (nl_w3 233 rfl rfl)⟩⟩
set_option maxRecDepth 100000 in
theorem nl_i93 : nl_okI (yX6_lay, cX6_lay, 2, some .int, 6, 0, false) := ⟨(nl_w4 22 rfl rfl), (nl_w1 12 rfl rfl), rfl, (fun h => nomatch h), fun _ => ⟨(nl_w4 20 rfl rfl), (nl_w4 21 rfl rfl)⟩⟩
set_option maxRecDepth 100000 in
theorem nl_i94 : nl_okI (yX6_mostOften, cX6_mostOften, 6, some .int, 6, 1, false) := ⟨(nl_w4 51 rfl rfl), (nl_w1 12 rfl rfl), rfl, (fun h => nomatch h), fun _ => ⟨(nl_w4 50 rfl rfl), (nl_w0 24 rfl rfl)⟩⟩
set_option maxRecDepth 100000 in
theorem nl_i95 : nl_okI (yX6_weight, cX6_weight, 4, some .int, 6, 2, false) := ⟨(nl_w4 47 rfl rfl), (nl_w1 12 rfl rfl), rfl, (fun h => nomatch h), fun _ => ⟨(nl_w4 46 rfl rfl), (nl_w0 23 rfl rfl)⟩⟩
set_option maxRecDepth 100000 in
theorem nl_i96 : nl_okI (yX6_keeps, cX6_keeps, 3, some .boolean, 6, 2, false) := ⟨(nl_w4 82 rfl rfl), (nl_w1 12 rfl rfl), rfl, (fun h => nomatch h), fun _ => ⟨(nl_w4 81 rfl rfl), (nl_w0 29 rfl rfl)⟩⟩
set_option maxRecDepth 100000 in
theorem nl_i97 : nl_okI (yX6_gapSet, cX6_gapSet, 3, some .int, 6, 0, false) := ⟨(nl_w4 133 rfl rfl), (nl_w1 12 rfl rfl), rfl, (fun h => nomatch h), fun _ => ⟨(nl_w4 132 rfl rfl), (nl_w0 35 rfl rfl)⟩⟩
set_option maxRecDepth 100000 in
theorem nl_i98 : nl_okI (yX6_passes, cX6_passes, 4, some .int, 6, 0, false) := ⟨(nl_w4 78 rfl rfl), (nl_w1 12 rfl rfl), rfl, (fun h => nomatch h), fun _ => ⟨(nl_w4 77 rfl rfl), (nl_w0 28 rfl rfl)⟩⟩
set_option maxRecDepth 100000 in
theorem nl_i99 : nl_okI (yX6_goesOn, cX6_goesOn, 4, some .int, 6, 1, false) := ⟨(nl_w4 74 rfl rfl), (nl_w1 12 rfl rfl), rfl, (fun h => nomatch h), fun _ => ⟨(nl_w4 73 rfl rfl), (nl_w0 27 rfl rfl)⟩⟩
set_option maxRecDepth 100000 in
theorem nl_i100 : nl_okI (yX6_house, cX6_house, 3, some .int, 6, 2, false) := ⟨(nl_w4 27 rfl rfl), (nl_w1 12 rfl rfl), rfl, (fun h => nomatch h), fun _ => ⟨(nl_w4 25 rfl rfl), (nl_w4 26 rfl rfl)⟩⟩
set_option maxRecDepth 100000 in
theorem nl_i101 : nl_okI (yX6_whoHas, cX6_whoHas, 3, some .int, 6, 1, false) := ⟨(nl_w4 39 rfl rfl), (nl_w1 12 rfl rfl), rfl, (fun h => nomatch h), fun _ => ⟨(nl_w4 38 rfl rfl), (nl_w0 22 rfl rfl)⟩⟩
set_option maxRecDepth 100000 in
theorem nl_i102 : nl_okI (yX6_hour, cX6_hour, 3, some .int, 6, 2, false) := ⟨(nl_w4 35 rfl rfl), (nl_w1 12 rfl rfl), rfl, (fun h => nomatch h), fun _ => ⟨(nl_w4 33 rfl rfl), (nl_w4 34 rfl rfl)⟩⟩
set_option maxRecDepth 100000 in
theorem nl_i103 : nl_okI (yX6_heavy, cX6_heavy, 3, some .int, 6, 2, false) := ⟨(nl_w4 43 rfl rfl), (nl_w1 12 rfl rfl), rfl, (fun h => nomatch h), fun _ => ⟨(nl_w4 41 rfl rfl), (nl_w4 42 rfl rfl)⟩⟩
set_option maxRecDepth 100000 in
theorem nl_i104 : nl_okI (yX6_had, cX6_had, 3, some .int, 6, 2, false) := ⟨(nl_w4 58 rfl rfl), (nl_w1 12 rfl rfl), rfl, (fun h => nomatch h), fun _ => ⟨(nl_w4 56 rfl rfl), (nl_w4 57 rfl rfl)⟩⟩
set_option maxRecDepth 100000 in
theorem nl_i105 : nl_okI (yX6_lays, cX6_lays, 4, none, 6, 2, false) := ⟨(nl_w4 70 rfl rfl), (nl_w1 12 rfl rfl), rfl, (fun h => nomatch h), fun _ => ⟨(nl_w4 69 rfl rfl), (nl_w0 26 rfl rfl)⟩⟩
set_option maxRecDepth 100000 in
theorem nl_i106 : nl_okI (yX6_takes, cX6_takes, 4, none, 6, 2, false) := ⟨(nl_w4 113 rfl rfl), (nl_w1 12 rfl rfl), rfl, (fun h => nomatch h), fun _ => ⟨(nl_w4 112 rfl rfl), (nl_w0 32 rfl rfl)⟩⟩
set_option maxRecDepth 100000 in
theorem nl_i107 : nl_okI (yX6_notes, cX6_notes, 2, none, 6, 0, false) := ⟨(nl_w4 66 rfl rfl), (nl_w1 12 rfl rfl), rfl, (fun h => nomatch h), fun _ => ⟨(nl_w4 65 rfl rfl), (nl_w0 25 rfl rfl)⟩⟩
set_option maxRecDepth 100000 in
theorem nl_i108 : nl_okI (yX6_pass, cX6_pass, 2, some .int, 6, 1, false) := ⟨(nl_w4 62 rfl rfl), (nl_w1 12 rfl rfl), rfl, (fun h => nomatch h), fun _ => ⟨(nl_w4 60 rfl rfl), (nl_w4 61 rfl rfl)⟩⟩
set_option maxRecDepth 100000 in
theorem nl_i109 : nl_okI (yX6_trades, cX6_trades, 4, none, 6, 2, false) := ⟨(nl_w4 93 rfl rfl), (nl_w1 12 rfl rfl), rfl, (fun h => nomatch h), fun _ => ⟨(nl_w4 92 rfl rfl), (nl_w0 30 rfl rfl)⟩⟩
set_option maxRecDepth 100000 in
theorem nl_i110 : nl_okI (yX6_swap, cX6_swap, 3, some .int, 6, 2, false) := ⟨(nl_w4 89 rfl rfl), (nl_w1 12 rfl rfl), rfl, (fun h => nomatch h), fun _ => ⟨(nl_w4 87 rfl rfl), (nl_w4 88 rfl rfl)⟩⟩
set_option maxRecDepth 100000 in
theorem nl_i111 : nl_okI (yX6_rests, cX6_rests, 2, none, 6, 1, false) := ⟨(nl_w4 101 rfl rfl), (nl_w1 12 rfl rfl), rfl, (fun h => nomatch h), fun _ => ⟨(nl_w4 100 rfl rfl), (nl_w0 31 rfl rfl)⟩⟩
set_option maxRecDepth 100000 in
theorem nl_i112 : nl_okI (yX6_rest, cX6_rest, 2, some .int, 6, 1, false) := ⟨(nl_w4 97 rfl rfl), (nl_w1 12 rfl rfl), rfl, (fun h => nomatch h), fun _ => ⟨(nl_w4 95 rfl rfl), (nl_w4 96 rfl rfl)⟩⟩
set_option maxRecDepth 100000 in
theorem nl_i113 : nl_okI (yX6_burden, cX6_burden, 4, some .int, 6, 2, false) := ⟨(nl_w4 105 rfl rfl), (nl_w1 12 rfl rfl), rfl, (fun h => nomatch h), fun _ => ⟨(nl_w4 103 rfl rfl), (nl_w4 104 rfl rfl)⟩⟩
set_option maxRecDepth 100000 in
theorem nl_i114 : nl_okI (yX6_undo, cX6_undo, 1, some .int, 6, 0, false) := ⟨(nl_w4 109 rfl rfl), (nl_w1 12 rfl rfl), rfl, (fun h => nomatch h), fun _ => ⟨(nl_w4 107 rfl rfl), (nl_w4 108 rfl rfl)⟩⟩
set_option maxRecDepth 100000 in
theorem nl_i115 : nl_okI (yX6_start, cX6_start, 1, none, 6, 0, false) := ⟨(nl_w4 121 rfl rfl), (nl_w1 12 rfl rfl), rfl, (fun h => nomatch h), fun _ => ⟨(nl_w4 120 rfl rfl), (nl_w0 33 rfl rfl)⟩⟩
set_option maxRecDepth 100000 in
theorem nl_i116 : nl_okI (yX6_putBack, cX6_putBack, 1, none, 6, 0, false) := ⟨(nl_w4 125 rfl rfl), (nl_w1 12 rfl rfl), rfl, (fun h => nomatch h), fun _ => ⟨(nl_w4 124 rfl rfl), (nl_w0 34 rfl rfl)⟩⟩
set_option maxRecDepth 100000 in
theorem nl_i117 : nl_okI (yX6_behind, cX6_behind, 5, some .int, 6, 3, false) := ⟨(nl_w4 117 rfl rfl), (nl_w1 12 rfl rfl), rfl, (fun h => nomatch h), fun _ => ⟨(nl_w4 115 rfl rfl), (nl_w4 116 rfl rfl)⟩⟩
set_option maxRecDepth 100000 in
theorem nl_i118 : nl_okI (yX6_gaps, cX6_gaps, 1, some .int, 6, 0, false) := ⟨(nl_w4 129 rfl rfl), (nl_w1 12 rfl rfl), rfl, (fun h => nomatch h), fun _ => ⟨(nl_w4 127 rfl rfl), (nl_w4 128 rfl rfl)⟩⟩
set_option maxRecDepth 100000 in
theorem nl_i119 : nl_okI (yX6_first, cX6_first, 5, some .int, 6, 1, false) := ⟨(nl_w4 137 rfl rfl), (nl_w1 12 rfl rfl), rfl, (fun h => nomatch h), fun _ => ⟨(nl_w4 135 rfl rfl), (nl_w4 136 rfl rfl)⟩⟩
set_option maxRecDepth 100000 in
theorem nl_i120 : nl_okI (yX6_firstRow, cX6_firstRow, 2, none, 6, 0, false) := ⟨(nl_w4 146 rfl rfl), (nl_w1 12 rfl rfl), rfl, (fun h => nomatch h), fun _ => ⟨(nl_w4 145 rfl rfl), (nl_w0 36 rfl rfl)⟩⟩
set_option maxRecDepth 100000 in
theorem nl_i121 : nl_okI (yX6_nextRow, cX6_nextRow, 7, some .boolean, 6, 0, false) := ⟨(nl_w4 158 rfl rfl), (nl_w1 12 rfl rfl), rfl, (fun h => nomatch h), fun _ => ⟨(nl_w4 157 rfl rfl), (nl_w0 39 rfl rfl)⟩⟩
set_option maxRecDepth 100000 in
theorem nl_i122 : nl_okI (yX6_gapsBy, cX6_gapsBy, 3, some .int, 6, 0, false) := ⟨(nl_w4 150 rfl rfl), (nl_w1 12 rfl rfl), rfl, (fun h => nomatch h), fun _ => ⟨(nl_w4 149 rfl rfl), (nl_w0 37 rfl rfl)⟩⟩
set_option maxRecDepth 100000 in
theorem nl_i123 : nl_okI (yX6_keptWeight, cX6_keptWeight, 3, some .int, 6, 0, false) := ⟨(nl_w4 154 rfl rfl), (nl_w1 12 rfl rfl), rfl, (fun h => nomatch h), fun _ => ⟨(nl_w4 153 rfl rfl), (nl_w0 38 rfl rfl)⟩⟩
set_option maxRecDepth 100000 in
theorem nl_i124 : nl_okI (yX6_even, cX6_even, 8, some .int, 6, 1, false) := ⟨(nl_w4 141 rfl rfl), (nl_w1 12 rfl rfl), rfl, (fun h => nomatch h), fun _ => ⟨(nl_w4 139 rfl rfl), (nl_w4 140 rfl rfl)⟩⟩
set_option maxRecDepth 100000 in
theorem nl_i125 : nl_okI (yX6_swapsTo, cX6_swapsTo, 5, some .int, 6, 0, false) := ⟨(nl_w4 166 rfl rfl), (nl_w1 12 rfl rfl), rfl, (fun h => nomatch h), fun _ => ⟨(nl_w4 165 rfl rfl), (nl_w0 40 rfl rfl)⟩⟩
set_option maxRecDepth 100000 in
theorem nl_i126 : nl_okI (yX6_swaps, cX6_swaps, 3, some .int, 6, 0, false) := ⟨(nl_w4 162 rfl rfl), (nl_w1 12 rfl rfl), rfl, (fun h => nomatch h), fun _ => ⟨(nl_w4 160 rfl rfl), (nl_w4 161 rfl rfl)⟩⟩
set_option maxRecDepth 100000 in
theorem nl_i127 : nl_okI (yX6_off, cX6_off, 2, some .int, 6, 2, true) := ⟨(nl_w4 176 rfl rfl), (nl_w1 12 rfl rfl), rfl, fun _ => (nl_w4 175 rfl rfl), (fun h => nomatch h)⟩
set_option maxRecDepth 100000 in
theorem nl_i128 : nl_okI (yX6_far, cX6_far, 6, some .int, 6, 1, false) := ⟨(nl_w4 173 rfl rfl), (nl_w1 12 rfl rfl), rfl, (fun h => nomatch h), fun _ => ⟨(nl_w4 171 rfl rfl), (nl_w4 172 rfl rfl)⟩⟩
set_option maxRecDepth 100000 in
theorem nl_i129 : nl_okI (yX6_lamps, cX6_lamps, 7, some .int, 6, 2, false) := ⟨(nl_w4 180 rfl rfl), (nl_w1 12 rfl rfl), rfl, (fun h => nomatch h), fun _ => ⟨(nl_w4 178 rfl rfl), (nl_w4 179 rfl rfl)⟩⟩
set_option maxRecDepth 100000 in
theorem nl_i130 : nl_okI (yX6_seen, cX6_seen, 4, some .int, 6, 3, false) := ⟨(nl_w4 187 rfl rfl), (nl_w1 12 rfl rfl), rfl, (fun h => nomatch h), fun _ => ⟨(nl_w4 185 rfl rfl), (nl_w4 186 rfl rfl)⟩⟩
set_option maxRecDepth 100000 in
theorem nl_i131 : nl_okI (yX6_forget, cX6_forget, 2, some .int, 6, 0, false) := ⟨(nl_w4 191 rfl rfl), (nl_w1 12 rfl rfl), rfl, (fun h => nomatch h), fun _ => ⟨(nl_w4 189 rfl rfl), (nl_w4 190 rfl rfl)⟩⟩
set_option maxRecDepth 100000 in
theorem nl_i132 : nl_okI (yX6_isSo, cX6_isSo, 5, some .boolean, 6, 0, false) := ⟨(nl_w4 199 rfl rfl), (nl_w1 12 rfl rfl), rfl, (fun h => nomatch h), fun _ => ⟨(nl_w4 198 rfl rfl), (nl_w0 41 rfl rfl)⟩⟩
set_option maxRecDepth 100000 in
theorem nl_i133 : nl_okI (yX6_kinds, cX6_kinds, 5, some .int, 6, 1, false) := ⟨(nl_w4 195 rfl rfl), (nl_w1 12 rfl rfl), rfl, (fun h => nomatch h), fun _ => ⟨(nl_w4 193 rfl rfl), (nl_w4 194 rfl rfl)⟩⟩
set_option maxRecDepth 100000 in
theorem nl_i134 : nl_okI (yX6_strengths, cX6_strengths, 8, some .int, 6, 2, false) := ⟨(nl_w4 203 rfl rfl), (nl_w1 12 rfl rfl), rfl, (fun h => nomatch h), fun _ => ⟨(nl_w4 201 rfl rfl), (nl_w4 202 rfl rfl)⟩⟩
set_option maxRecDepth 100000 in
theorem nl_i135 : nl_okI (yX6_common, cX6_common, 10, some .long, 6, 2, true) := ⟨(nl_w4 211 rfl rfl), (nl_w1 12 rfl rfl), rfl, fun _ => (nl_w4 210 rfl rfl), (fun h => nomatch h)⟩
set_option maxRecDepth 100000 in
theorem nl_i136 : nl_okI (yX6_likely, cX6_likely, 11, some .int, 6, 3, false) := ⟨(nl_w4 207 rfl rfl), (nl_w1 12 rfl rfl), rfl, (fun h => nomatch h), fun _ => ⟨(nl_w4 205 rfl rfl), (nl_w4 206 rfl rfl)⟩⟩
set_option maxRecDepth 100000 in
theorem nl_i137 : nl_okI (yX6_tiredAll, cX6_tiredAll, 3, some .int, 6, 0, false) := ⟨(nl_w4 223 rfl rfl), (nl_w1 12 rfl rfl), rfl, (fun h => nomatch h), fun _ => ⟨(nl_w4 222 rfl rfl), (nl_w0 42 rfl rfl)⟩⟩
set_option maxRecDepth 100000 in
theorem nl_i138 : nl_okI (yX6_winter, cX6_winter, 12, some .int, 6, 3, false) := ⟨(nl_w4 215 rfl rfl), (nl_w1 12 rfl rfl), rfl, (fun h => nomatch h), fun _ => ⟨(nl_w4 213 rfl rfl), (nl_w4 214 rfl rfl)⟩⟩
set_option maxRecDepth 100000 in
theorem nl_i139 : nl_okI (yX6_keep, cX6_keep, 1, some .int, 6, 0, false) := ⟨(nl_w4 227 rfl rfl), (nl_w1 12 rfl rfl), rfl, (fun h => nomatch h), fun _ => ⟨(nl_w4 225 rfl rfl), (nl_w4 226 rfl rfl)⟩⟩
set_option maxRecDepth 100000 in
theorem nl_i140 : nl_okI (yX6_back, cX6_back, 1, some .int, 6, 0, false) := ⟨(nl_w4 231 rfl rfl), (nl_w1 12 rfl rfl), rfl, (fun h => nomatch h), fun _ => ⟨(nl_w4 229 rfl rfl), (nl_w4 230 rfl rfl)⟩⟩
set_option maxRecDepth 100000 in
theorem nl_i141 : nl_okI (yX6_count, cX6_count, 2, some .int, 6, 1, false) := ⟨(nl_w4 235 rfl rfl), (nl_w1 12 rfl rfl), rfl, (fun h => nomatch h), fun _ => ⟨(nl_w4 233 rfl rfl), (nl_w4 234 rfl rfl)⟩⟩
set_option maxRecDepth 100000 in
theorem nl_i142 : nl_okI (yJ6_bitCount_0f7a4, cJ6_bitCount_0f7a4, 1, some .int, 8, 1, true) := ⟨(nl_w2 227 rfl rfl), (nl_w1 13 rfl rfl), rfl, fun _ => (nl_w2 226 rfl rfl), (fun h => nomatch h)⟩
theorem nl_ic0 : ∀ e ∈ ([(yX0_choose, cX0_choose, 4, none, 0, 1, false), (yX0_weigh, cX0_weigh, 5, none, 0, 1, false), (yX0_leastOf, cX0_leastOf, 6, some .int, 0, 2, false), (yX0_priceWith, cX0_priceWith, 4, some .int, 0, 3, false), (yX0_dealOut, cX0_dealOut, 5, none, 0, 1, false), (yX0_lowestOfLeast, cX0_lowestOfLeast, 5, some .int, 0, 3, false), (yX0_fewestSwaps, cX0_fewestSwaps, 3, some .int, 0, 1, false), (yX0_canBridge, cX0_canBridge, 8, some .boolean, 0, 5, true), (yX0_exchange, cX0_exchange, 4, none, 0, 3, true), (yX1_read, cX1_read, 5, none, 1, 2, false), (yX1_canBeLaid, cX1_canBeLaid, 1, some .boolean, 1, 0, false), (yX1_readItem, cX1_readItem, 10, some .int, 1, 3, false), (yX1_readNumber, cX1_readNumber, 7, some .int, 1, 4, false), (yX1_addHour, cX1_addHour, 1, some .boolean, 1, 0, false), (yX1_addHouse, cX1_addHouse, 1, some .boolean, 1, 0, false), (yX2_clear, cX2_clear, 1, none, 2, 0, false)] : List nl_I), nl_okI e := List.forall_mem_cons.mpr ⟨nl_i0, List.forall_mem_cons.mpr ⟨nl_i1, List.forall_mem_cons.mpr ⟨nl_i2, List.forall_mem_cons.mpr ⟨nl_i3, List.forall_mem_cons.mpr ⟨nl_i4, List.forall_mem_cons.mpr ⟨nl_i5, List.forall_mem_cons.mpr ⟨nl_i6, List.forall_mem_cons.mpr ⟨nl_i7, List.forall_mem_cons.mpr ⟨nl_i8, List.forall_mem_cons.mpr ⟨nl_i9, List.forall_mem_cons.mpr ⟨nl_i10, List.forall_mem_cons.mpr ⟨nl_i11, List.forall_mem_cons.mpr ⟨nl_i12, List.forall_mem_cons.mpr ⟨nl_i13, List.forall_mem_cons.mpr ⟨nl_i14, List.forall_mem_cons.mpr ⟨nl_i15, fun _ h => absurd h List.not_mem_nil⟩⟩⟩⟩⟩⟩⟩⟩⟩⟩⟩⟩⟩⟩⟩⟩
theorem nl_ic1 : ∀ e ∈ ([(yX2_put, cX2_put, 2, none, 2, 1, false), (yX2_dropOldest, cX2_dropOldest, 3, none, 2, 0, false), (yX2_takeInto, cX2_takeInto, 2, some .boolean, 2, 1, false), (yX3_clear, cX3_clear, 1, none, 3, 0, false), (yX3_add, cX3_add, 4, none, 3, 3, false), (yX3_lastNight, cX3_lastNight, 3, some .int, 3, 0, false), (yX3_fit, cX3_fit, 4, some .boolean, 3, 2, false), (yX4_settle, cX4_settle, 3, none, 4, 1, false), (yX4_copyFrom, cX4_copyFrom, 3, none, 4, 1, false), (yX4_isHouse, cX4_isHouse, 2, some .boolean, 4, 1, false), (yX4_isHour, cX4_isHour, 2, some .boolean, 4, 1, false), (yX4_houseWith, cX4_houseWith, 3, some .int, 4, 1, false), (yX4_timesHad, cX4_timesHad, 3, some .int, 4, 2, false), (yX4_heaviness, cX4_heaviness, 4, some .int, 4, 2, false), (yX4_hourHadMost, cX4_hourHadMost, 6, some .int, 4, 1, false), (yX4_wouldKeep, cX4_wouldKeep, 4, some .boolean, 4, 3, false)] : List nl_I), nl_okI e := List.forall_mem_cons.mpr ⟨nl_i16, List.forall_mem_cons.mpr ⟨nl_i17, List.forall_mem_cons.mpr ⟨nl_i18, List.forall_mem_cons.mpr ⟨nl_i19, List.forall_mem_cons.mpr ⟨nl_i20, List.forall_mem_cons.mpr ⟨nl_i21, List.forall_mem_cons.mpr ⟨nl_i22, List.forall_mem_cons.mpr ⟨nl_i23, List.forall_mem_cons.mpr ⟨nl_i24, List.forall_mem_cons.mpr ⟨nl_i25, List.forall_mem_cons.mpr ⟨nl_i26, List.forall_mem_cons.mpr ⟨nl_i27, List.forall_mem_cons.mpr ⟨nl_i28, List.forall_mem_cons.mpr ⟨nl_i29, List.forall_mem_cons.mpr ⟨nl_i30, List.forall_mem_cons.mpr ⟨nl_i31, fun _ h => absurd h List.not_mem_nil⟩⟩⟩⟩⟩⟩⟩⟩⟩⟩⟩⟩⟩⟩⟩⟩
theorem nl_ic2 : ∀ e ∈ ([(yX4_isGapAt, cX4_isGapAt, 3, some .boolean, 4, 1, false), (yX4_seeThrough, cX4_seeThrough, 4, some .boolean, 4, 1, false), (yX4_letNightsPass, cX4_letNightsPass, 5, some .int, 4, 1, false), (yX4_trade, cX4_trade, 4, none, 4, 2, false), (yX4_giveRest, cX4_giveRest, 2, none, 4, 1, false), (yX4_setBurden, cX4_setBurden, 3, none, 4, 2, false), (yX4_tiredTogether, cX4_tiredTogether, 3, some .int, 4, 0, false), (yX4_handingOver, cX4_handingOver, 5, some .int, 4, 0, false), (yX4_lengthOfRoad, cX4_lengthOfRoad, 4, some .int, 4, 0, false), (yX4_stir, cX4_stir, 4, none, 4, 1, false), (yX5_write, cX5_write, 2, some .int, 5, 1, false), (yX5_wipe, cX5_wipe, 2, some .int, 5, 0, false), (yX5_fault, cX5_fault, 1, some .int, 5, 0, false), (yX5_lay, cX5_lay, 1, some .int, 5, 0, false), (yX5_house, cX5_house, 3, some .int, 5, 2, false), (yX5_hour, cX5_hour, 3, some .int, 5, 2, false)] : List nl_I), nl_okI e := List.forall_mem_cons.mpr ⟨nl_i32, List.forall_mem_cons.mpr ⟨nl_i33, List.forall_mem_cons.mpr ⟨nl_i34, List.forall_mem_cons.mpr ⟨nl_i35, List.forall_mem_cons.mpr ⟨nl_i36, List.forall_mem_cons.mpr ⟨nl_i37, List.forall_mem_cons.mpr ⟨nl_i38, List.forall_mem_cons.mpr ⟨nl_i39, List.forall_mem_cons.mpr ⟨nl_i40, List.forall_mem_cons.mpr ⟨nl_i41, List.forall_mem_cons.mpr ⟨nl_i42, List.forall_mem_cons.mpr ⟨nl_i43, List.forall_mem_cons.mpr ⟨nl_i44, List.forall_mem_cons.mpr ⟨nl_i45, List.forall_mem_cons.mpr ⟨nl_i46, List.forall_mem_cons.mpr ⟨nl_i47, fun _ h => absurd h List.not_mem_nil⟩⟩⟩⟩⟩⟩⟩⟩⟩⟩⟩⟩⟩⟩⟩⟩
theorem nl_ic3 : ∀ e ∈ ([(yX5_heavy, cX5_heavy, 3, some .int, 5, 2, false), (yX5_had, cX5_had, 3, some .int, 5, 2, false), (yX5_pass, cX5_pass, 2, some .int, 5, 1, false), (yX5_swap, cX5_swap, 3, some .int, 5, 2, false), (yX5_rest, cX5_rest, 2, some .int, 5, 1, false), (yX5_burden, cX5_burden, 4, some .int, 5, 2, false), (yX5_undo, cX5_undo, 1, some .int, 5, 0, false), (yX5_behind, cX5_behind, 4, some .int, 5, 3, false), (yX5_gaps, cX5_gaps, 3, some .int, 5, 0, false), (yX5_first, cX5_first, 3, some .int, 5, 1, false), (yX5_even, cX5_even, 2, some .int, 5, 1, false), (yX5_swaps, cX5_swaps, 1, some .int, 5, 0, false), (yX5_far, cX5_far, 2, some .int, 5, 1, false), (yX5_lamps, cX5_lamps, 5, some .int, 5, 2, false), (yX5_seen, cX5_seen, 4, some .int, 5, 3, false), (yX5_forget, cX5_forget, 2, some .int, 5, 0, false)] : List nl_I), nl_okI e := List.forall_mem_cons.mpr ⟨nl_i48, List.forall_mem_cons.mpr ⟨nl_i49, List.forall_mem_cons.mpr ⟨nl_i50, List.forall_mem_cons.mpr ⟨nl_i51, List.forall_mem_cons.mpr ⟨nl_i52, List.forall_mem_cons.mpr ⟨nl_i53, List.forall_mem_cons.mpr ⟨nl_i54, List.forall_mem_cons.mpr ⟨nl_i55, List.forall_mem_cons.mpr ⟨nl_i56, List.forall_mem_cons.mpr ⟨nl_i57, List.forall_mem_cons.mpr ⟨nl_i58, List.forall_mem_cons.mpr ⟨nl_i59, List.forall_mem_cons.mpr ⟨nl_i60, List.forall_mem_cons.mpr ⟨nl_i61, List.forall_mem_cons.mpr ⟨nl_i62, List.forall_mem_cons.mpr ⟨nl_i63, fun _ h => absurd h List.not_mem_nil⟩⟩⟩⟩⟩⟩⟩⟩⟩⟩⟩⟩⟩⟩⟩⟩
theorem nl_ic4 : ∀ e ∈ ([(yX5_kinds, cX5_kinds, 4, some .int, 5, 1, false), (yX5_strengths, cX5_strengths, 6, some .int, 5, 2, false), (yX5_likely, cX5_likely, 9, some .int, 5, 3, false), (yX5_winter, cX5_winter, 6, some .int, 5, 3, false), (yX5_keep, cX5_keep, 1, some .int, 5, 0, false), (yX5_back, cX5_back, 1, some .int, 5, 0, false), (yX5_count, cX5_count, 2, some .int, 5, 1, false), (yX5_isWithin, cX5_isWithin, 3, some .boolean, 5, 3, true), (yX5_largestDivisor, cX5_largestDivisor, 3, some .int, 5, 2, true), (yX5_drawFor, cX5_drawFor, 4, some .int, 5, 2, true), (yX5_nextMissAhead, cX5_nextMissAhead, 4, some .int, 5, 2, false), (yX5_fitsAllSeen, cX5_fitsAllSeen, 6, some .boolean, 5, 3, false), (yX6_in, cX6_in, 3, some .boolean, 6, 3, true), (yX6_has, cX6_has, 2, some .boolean, 6, 2, true), (yX6_bits, cX6_bits, 3, some .int, 6, 1, true), (yX6_lesser, cX6_lesser, 2, some .int, 6, 2, true)] : List nl_I), nl_okI e := List.forall_mem_cons.mpr ⟨nl_i64, List.forall_mem_cons.mpr ⟨nl_i65, List.forall_mem_cons.mpr ⟨nl_i66, List.forall_mem_cons.mpr ⟨nl_i67, List.forall_mem_cons.mpr ⟨nl_i68, List.forall_mem_cons.mpr ⟨nl_i69, List.forall_mem_cons.mpr ⟨nl_i70, List.forall_mem_cons.mpr ⟨nl_i71, List.forall_mem_cons.mpr ⟨nl_i72, List.forall_mem_cons.mpr ⟨nl_i73, List.forall_mem_cons.mpr ⟨nl_i74, List.forall_mem_cons.mpr ⟨nl_i75, List.forall_mem_cons.mpr ⟨nl_i76, List.forall_mem_cons.mpr ⟨nl_i77, List.forall_mem_cons.mpr ⟨nl_i78, List.forall_mem_cons.mpr ⟨nl_i79, fun _ h => absurd h List.not_mem_nil⟩⟩⟩⟩⟩⟩⟩⟩⟩⟩⟩⟩⟩⟩⟩⟩
theorem nl_ic5 : ∀ e ∈ ([(yX6_greater, cX6_greater, 2, some .int, 6, 2, true), (yX6_firstHouse, cX6_firstHouse, 5, none, 6, 4, false), (yX6_begin, cX6_begin, 2, none, 6, 0, false), (yX6_isOne, cX6_isOne, 2, some .boolean, 6, 1, false), (yX6_write, cX6_write, 2, some .int, 6, 1, false), (yX6_wipe, cX6_wipe, 2, some .int, 6, 0, false), (yX6_here, cX6_here, 1, some .int, 6, 0, false), (yX6_isFigure, cX6_isFigure, 1, some .boolean, 6, 0, false), (yX6_number, cX6_number, 5, some .boolean, 6, 3, false), (yX6_readsHour, cX6_readsHour, 1, some .boolean, 6, 0, false), (yX6_readsHouse, cX6_readsHouse, 2, some .boolean, 6, 0, false), (yX6_readsItem, cX6_readsItem, 2, some .boolean, 6, 0, false), (yX6_fault, cX6_fault, 2, some .int, 6, 0, false), (yX6_lay, cX6_lay, 2, some .int, 6, 0, false), (yX6_mostOften, cX6_mostOften, 6, some .int, 6, 1, false), (yX6_weight, cX6_weight, 4, some .int, 6, 2, false)] : List nl_I), nl_okI e := List.forall_mem_cons.mpr ⟨nl_i80, List.forall_mem_cons.mpr ⟨nl_i81, List.forall_mem_cons.mpr ⟨nl_i82, List.forall_mem_cons.mpr ⟨nl_i83, List.forall_mem_cons.mpr ⟨nl_i84, List.forall_mem_cons.mpr ⟨nl_i85, List.forall_mem_cons.mpr ⟨nl_i86, List.forall_mem_cons.mpr ⟨nl_i87, List.forall_mem_cons.mpr ⟨nl_i88, List.forall_mem_cons.mpr ⟨nl_i89, List.forall_mem_cons.mpr ⟨nl_i90, List.forall_mem_cons.mpr ⟨nl_i91, List.forall_mem_cons.mpr ⟨nl_i92, List.forall_mem_cons.mpr ⟨nl_i93, List.forall_mem_cons.mpr ⟨nl_i94, List.forall_mem_cons.mpr ⟨nl_i95, fun _ h => absurd h List.not_mem_nil⟩⟩⟩⟩⟩⟩⟩⟩⟩⟩⟩⟩⟩⟩⟩⟩
theorem nl_ic6 : ∀ e ∈ ([(yX6_keeps, cX6_keeps, 3, some .boolean, 6, 2, false), (yX6_gapSet, cX6_gapSet, 3, some .int, 6, 0, false), (yX6_passes, cX6_passes, 4, some .int, 6, 0, false), (yX6_goesOn, cX6_goesOn, 4, some .int, 6, 1, false), (yX6_house, cX6_house, 3, some .int, 6, 2, false), (yX6_whoHas, cX6_whoHas, 3, some .int, 6, 1, false), (yX6_hour, cX6_hour, 3, some .int, 6, 2, false), (yX6_heavy, cX6_heavy, 3, some .int, 6, 2, false), (yX6_had, cX6_had, 3, some .int, 6, 2, false), (yX6_lays, cX6_lays, 4, none, 6, 2, false), (yX6_takes, cX6_takes, 4, none, 6, 2, false), (yX6_notes, cX6_notes, 2, none, 6, 0, false), (yX6_pass, cX6_pass, 2, some .int, 6, 1, false), (yX6_trades, cX6_trades, 4, none, 6, 2, false), (yX6_swap, cX6_swap, 3, some .int, 6, 2, false), (yX6_rests, cX6_rests, 2, none, 6, 1, false)] : List nl_I), nl_okI e := List.forall_mem_cons.mpr ⟨nl_i96, List.forall_mem_cons.mpr ⟨nl_i97, List.forall_mem_cons.mpr ⟨nl_i98, List.forall_mem_cons.mpr ⟨nl_i99, List.forall_mem_cons.mpr ⟨nl_i100, List.forall_mem_cons.mpr ⟨nl_i101, List.forall_mem_cons.mpr ⟨nl_i102, List.forall_mem_cons.mpr ⟨nl_i103, List.forall_mem_cons.mpr ⟨nl_i104, List.forall_mem_cons.mpr ⟨nl_i105, List.forall_mem_cons.mpr ⟨nl_i106, List.forall_mem_cons.mpr ⟨nl_i107, List.forall_mem_cons.mpr ⟨nl_i108, List.forall_mem_cons.mpr ⟨nl_i109, List.forall_mem_cons.mpr ⟨nl_i110, List.forall_mem_cons.mpr ⟨nl_i111, fun _ h => absurd h List.not_mem_nil⟩⟩⟩⟩⟩⟩⟩⟩⟩⟩⟩⟩⟩⟩⟩⟩
theorem nl_ic7 : ∀ e ∈ ([(yX6_rest, cX6_rest, 2, some .int, 6, 1, false), (yX6_burden, cX6_burden, 4, some .int, 6, 2, false), (yX6_undo, cX6_undo, 1, some .int, 6, 0, false), (yX6_start, cX6_start, 1, none, 6, 0, false), (yX6_putBack, cX6_putBack, 1, none, 6, 0, false), (yX6_behind, cX6_behind, 5, some .int, 6, 3, false), (yX6_gaps, cX6_gaps, 1, some .int, 6, 0, false), (yX6_first, cX6_first, 5, some .int, 6, 1, false), (yX6_firstRow, cX6_firstRow, 2, none, 6, 0, false), (yX6_nextRow, cX6_nextRow, 7, some .boolean, 6, 0, false), (yX6_gapsBy, cX6_gapsBy, 3, some .int, 6, 0, false), (yX6_keptWeight, cX6_keptWeight, 3, some .int, 6, 0, false), (yX6_even, cX6_even, 8, some .int, 6, 1, false), (yX6_swapsTo, cX6_swapsTo, 5, some .int, 6, 0, false), (yX6_swaps, cX6_swaps, 3, some .int, 6, 0, false), (yX6_off, cX6_off, 2, some .int, 6, 2, true)] : List nl_I), nl_okI e := List.forall_mem_cons.mpr ⟨nl_i112, List.forall_mem_cons.mpr ⟨nl_i113, List.forall_mem_cons.mpr ⟨nl_i114, List.forall_mem_cons.mpr ⟨nl_i115, List.forall_mem_cons.mpr ⟨nl_i116, List.forall_mem_cons.mpr ⟨nl_i117, List.forall_mem_cons.mpr ⟨nl_i118, List.forall_mem_cons.mpr ⟨nl_i119, List.forall_mem_cons.mpr ⟨nl_i120, List.forall_mem_cons.mpr ⟨nl_i121, List.forall_mem_cons.mpr ⟨nl_i122, List.forall_mem_cons.mpr ⟨nl_i123, List.forall_mem_cons.mpr ⟨nl_i124, List.forall_mem_cons.mpr ⟨nl_i125, List.forall_mem_cons.mpr ⟨nl_i126, List.forall_mem_cons.mpr ⟨nl_i127, fun _ h => absurd h List.not_mem_nil⟩⟩⟩⟩⟩⟩⟩⟩⟩⟩⟩⟩⟩⟩⟩⟩
theorem nl_ic8 : ∀ e ∈ ([(yX6_far, cX6_far, 6, some .int, 6, 1, false), (yX6_lamps, cX6_lamps, 7, some .int, 6, 2, false), (yX6_seen, cX6_seen, 4, some .int, 6, 3, false), (yX6_forget, cX6_forget, 2, some .int, 6, 0, false), (yX6_isSo, cX6_isSo, 5, some .boolean, 6, 0, false), (yX6_kinds, cX6_kinds, 5, some .int, 6, 1, false), (yX6_strengths, cX6_strengths, 8, some .int, 6, 2, false), (yX6_common, cX6_common, 10, some .long, 6, 2, true), (yX6_likely, cX6_likely, 11, some .int, 6, 3, false), (yX6_tiredAll, cX6_tiredAll, 3, some .int, 6, 0, false), (yX6_winter, cX6_winter, 12, some .int, 6, 3, false), (yX6_keep, cX6_keep, 1, some .int, 6, 0, false), (yX6_back, cX6_back, 1, some .int, 6, 0, false), (yX6_count, cX6_count, 2, some .int, 6, 1, false), (yJ6_bitCount_0f7a4, cJ6_bitCount_0f7a4, 1, some .int, 8, 1, true)] : List nl_I), nl_okI e := List.forall_mem_cons.mpr ⟨nl_i128, List.forall_mem_cons.mpr ⟨nl_i129, List.forall_mem_cons.mpr ⟨nl_i130, List.forall_mem_cons.mpr ⟨nl_i131, List.forall_mem_cons.mpr ⟨nl_i132, List.forall_mem_cons.mpr ⟨nl_i133, List.forall_mem_cons.mpr ⟨nl_i134, List.forall_mem_cons.mpr ⟨nl_i135, List.forall_mem_cons.mpr ⟨nl_i136, List.forall_mem_cons.mpr ⟨nl_i137, List.forall_mem_cons.mpr ⟨nl_i138, List.forall_mem_cons.mpr ⟨nl_i139, List.forall_mem_cons.mpr ⟨nl_i140, List.forall_mem_cons.mpr ⟨nl_i141, List.forall_mem_cons.mpr ⟨nl_i142, fun _ h => absurd h List.not_mem_nil⟩⟩⟩⟩⟩⟩⟩⟩⟩⟩⟩⟩⟩⟩⟩
set_option maxRecDepth 100000 in
theorem nl_inf_eq : nl_inf = ([(yX0_choose, cX0_choose, 4, none, 0, 1, false), (yX0_weigh, cX0_weigh, 5, none, 0, 1, false), (yX0_leastOf, cX0_leastOf, 6, some .int, 0, 2, false), (yX0_priceWith, cX0_priceWith, 4, some .int, 0, 3, false), (yX0_dealOut, cX0_dealOut, 5, none, 0, 1, false), (yX0_lowestOfLeast, cX0_lowestOfLeast, 5, some .int, 0, 3, false), (yX0_fewestSwaps, cX0_fewestSwaps, 3, some .int, 0, 1, false), (yX0_canBridge, cX0_canBridge, 8, some .boolean, 0, 5, true), (yX0_exchange, cX0_exchange, 4, none, 0, 3, true), (yX1_read, cX1_read, 5, none, 1, 2, false), (yX1_canBeLaid, cX1_canBeLaid, 1, some .boolean, 1, 0, false), (yX1_readItem, cX1_readItem, 10, some .int, 1, 3, false), (yX1_readNumber, cX1_readNumber, 7, some .int, 1, 4, false), (yX1_addHour, cX1_addHour, 1, some .boolean, 1, 0, false), (yX1_addHouse, cX1_addHouse, 1, some .boolean, 1, 0, false), (yX2_clear, cX2_clear, 1, none, 2, 0, false)] : List nl_I) ++ (([(yX2_put, cX2_put, 2, none, 2, 1, false), (yX2_dropOldest, cX2_dropOldest, 3, none, 2, 0, false), (yX2_takeInto, cX2_takeInto, 2, some .boolean, 2, 1, false), (yX3_clear, cX3_clear, 1, none, 3, 0, false), (yX3_add, cX3_add, 4, none, 3, 3, false), (yX3_lastNight, cX3_lastNight, 3, some .int, 3, 0, false), (yX3_fit, cX3_fit, 4, some .boolean, 3, 2, false), (yX4_settle, cX4_settle, 3, none, 4, 1, false), (yX4_copyFrom, cX4_copyFrom, 3, none, 4, 1, false), (yX4_isHouse, cX4_isHouse, 2, some .boolean, 4, 1, false), (yX4_isHour, cX4_isHour, 2, some .boolean, 4, 1, false), (yX4_houseWith, cX4_houseWith, 3, some .int, 4, 1, false), (yX4_timesHad, cX4_timesHad, 3, some .int, 4, 2, false), (yX4_heaviness, cX4_heaviness, 4, some .int, 4, 2, false), (yX4_hourHadMost, cX4_hourHadMost, 6, some .int, 4, 1, false), (yX4_wouldKeep, cX4_wouldKeep, 4, some .boolean, 4, 3, false)] : List nl_I) ++ (([(yX4_isGapAt, cX4_isGapAt, 3, some .boolean, 4, 1, false), (yX4_seeThrough, cX4_seeThrough, 4, some .boolean, 4, 1, false), (yX4_letNightsPass, cX4_letNightsPass, 5, some .int, 4, 1, false), (yX4_trade, cX4_trade, 4, none, 4, 2, false), (yX4_giveRest, cX4_giveRest, 2, none, 4, 1, false), (yX4_setBurden, cX4_setBurden, 3, none, 4, 2, false), (yX4_tiredTogether, cX4_tiredTogether, 3, some .int, 4, 0, false), (yX4_handingOver, cX4_handingOver, 5, some .int, 4, 0, false), (yX4_lengthOfRoad, cX4_lengthOfRoad, 4, some .int, 4, 0, false), (yX4_stir, cX4_stir, 4, none, 4, 1, false), (yX5_write, cX5_write, 2, some .int, 5, 1, false), (yX5_wipe, cX5_wipe, 2, some .int, 5, 0, false), (yX5_fault, cX5_fault, 1, some .int, 5, 0, false), (yX5_lay, cX5_lay, 1, some .int, 5, 0, false), (yX5_house, cX5_house, 3, some .int, 5, 2, false), (yX5_hour, cX5_hour, 3, some .int, 5, 2, false)] : List nl_I) ++ (([(yX5_heavy, cX5_heavy, 3, some .int, 5, 2, false), (yX5_had, cX5_had, 3, some .int, 5, 2, false), (yX5_pass, cX5_pass, 2, some .int, 5, 1, false), (yX5_swap, cX5_swap, 3, some .int, 5, 2, false), (yX5_rest, cX5_rest, 2, some .int, 5, 1, false), (yX5_burden, cX5_burden, 4, some .int, 5, 2, false), (yX5_undo, cX5_undo, 1, some .int, 5, 0, false), (yX5_behind, cX5_behind, 4, some .int, 5, 3, false), (yX5_gaps, cX5_gaps, 3, some .int, 5, 0, false), (yX5_first, cX5_first, 3, some .int, 5, 1, false), (yX5_even, cX5_even, 2, some .int, 5, 1, false), (yX5_swaps, cX5_swaps, 1, some .int, 5, 0, false), (yX5_far, cX5_far, 2, some .int, 5, 1, false), (yX5_lamps, cX5_lamps, 5, some .int, 5, 2, false), (yX5_seen, cX5_seen, 4, some .int, 5, 3, false), (yX5_forget, cX5_forget, 2, some .int, 5, 0, false)] : List nl_I) ++ (([(yX5_kinds, cX5_kinds, 4, some .int, 5, 1, false), (yX5_strengths, cX5_strengths, 6, some .int, 5, 2, false), (yX5_likely, cX5_likely, 9, some .int, 5, 3, false), (yX5_winter, cX5_winter, 6, some .int, 5, 3, false), (yX5_keep, cX5_keep, 1, some .int, 5, 0, false), (yX5_back, cX5_back, 1, some .int, 5, 0, false), (yX5_count, cX5_count, 2, some .int, 5, 1, false), (yX5_isWithin, cX5_isWithin, 3, some .boolean, 5, 3, true), (yX5_largestDivisor, cX5_largestDivisor, 3, some .int, 5, 2, true), (yX5_drawFor, cX5_drawFor, 4, some .int, 5, 2, true), (yX5_nextMissAhead, cX5_nextMissAhead, 4, some .int, 5, 2, false), (yX5_fitsAllSeen, cX5_fitsAllSeen, 6, some .boolean, 5, 3, false), (yX6_in, cX6_in, 3, some .boolean, 6, 3, true), (yX6_has, cX6_has, 2, some .boolean, 6, 2, true), (yX6_bits, cX6_bits, 3, some .int, 6, 1, true), (yX6_lesser, cX6_lesser, 2, some .int, 6, 2, true)] : List nl_I) ++ (([(yX6_greater, cX6_greater, 2, some .int, 6, 2, true), (yX6_firstHouse, cX6_firstHouse, 5, none, 6, 4, false), (yX6_begin, cX6_begin, 2, none, 6, 0, false), (yX6_isOne, cX6_isOne, 2, some .boolean, 6, 1, false), (yX6_write, cX6_write, 2, some .int, 6, 1, false), (yX6_wipe, cX6_wipe, 2, some .int, 6, 0, false), (yX6_here, cX6_here, 1, some .int, 6, 0, false), (yX6_isFigure, cX6_isFigure, 1, some .boolean, 6, 0, false), (yX6_number, cX6_number, 5, some .boolean, 6, 3, false), (yX6_readsHour, cX6_readsHour, 1, some .boolean, 6, 0, false), (yX6_readsHouse, cX6_readsHouse, 2, some .boolean, 6, 0, false), (yX6_readsItem, cX6_readsItem, 2, some .boolean, 6, 0, false), (yX6_fault, cX6_fault, 2, some .int, 6, 0, false), (yX6_lay, cX6_lay, 2, some .int, 6, 0, false), (yX6_mostOften, cX6_mostOften, 6, some .int, 6, 1, false), (yX6_weight, cX6_weight, 4, some .int, 6, 2, false)] : List nl_I) ++ (([(yX6_keeps, cX6_keeps, 3, some .boolean, 6, 2, false), (yX6_gapSet, cX6_gapSet, 3, some .int, 6, 0, false), (yX6_passes, cX6_passes, 4, some .int, 6, 0, false), (yX6_goesOn, cX6_goesOn, 4, some .int, 6, 1, false), (yX6_house, cX6_house, 3, some .int, 6, 2, false), (yX6_whoHas, cX6_whoHas, 3, some .int, 6, 1, false), (yX6_hour, cX6_hour, 3, some .int, 6, 2, false), (yX6_heavy, cX6_heavy, 3, some .int, 6, 2, false), (yX6_had, cX6_had, 3, some .int, 6, 2, false), (yX6_lays, cX6_lays, 4, none, 6, 2, false), (yX6_takes, cX6_takes, 4, none, 6, 2, false), (yX6_notes, cX6_notes, 2, none, 6, 0, false), (yX6_pass, cX6_pass, 2, some .int, 6, 1, false), (yX6_trades, cX6_trades, 4, none, 6, 2, false), (yX6_swap, cX6_swap, 3, some .int, 6, 2, false), (yX6_rests, cX6_rests, 2, none, 6, 1, false)] : List nl_I) ++ (([(yX6_rest, cX6_rest, 2, some .int, 6, 1, false), (yX6_burden, cX6_burden, 4, some .int, 6, 2, false), (yX6_undo, cX6_undo, 1, some .int, 6, 0, false), (yX6_start, cX6_start, 1, none, 6, 0, false), (yX6_putBack, cX6_putBack, 1, none, 6, 0, false), (yX6_behind, cX6_behind, 5, some .int, 6, 3, false), (yX6_gaps, cX6_gaps, 1, some .int, 6, 0, false), (yX6_first, cX6_first, 5, some .int, 6, 1, false), (yX6_firstRow, cX6_firstRow, 2, none, 6, 0, false), (yX6_nextRow, cX6_nextRow, 7, some .boolean, 6, 0, false), (yX6_gapsBy, cX6_gapsBy, 3, some .int, 6, 0, false), (yX6_keptWeight, cX6_keptWeight, 3, some .int, 6, 0, false), (yX6_even, cX6_even, 8, some .int, 6, 1, false), (yX6_swapsTo, cX6_swapsTo, 5, some .int, 6, 0, false), (yX6_swaps, cX6_swaps, 3, some .int, 6, 0, false), (yX6_off, cX6_off, 2, some .int, 6, 2, true)] : List nl_I) ++ (([(yX6_far, cX6_far, 6, some .int, 6, 1, false), (yX6_lamps, cX6_lamps, 7, some .int, 6, 2, false), (yX6_seen, cX6_seen, 4, some .int, 6, 3, false), (yX6_forget, cX6_forget, 2, some .int, 6, 0, false), (yX6_isSo, cX6_isSo, 5, some .boolean, 6, 0, false), (yX6_kinds, cX6_kinds, 5, some .int, 6, 1, false), (yX6_strengths, cX6_strengths, 8, some .int, 6, 2, false), (yX6_common, cX6_common, 10, some .long, 6, 2, true), (yX6_likely, cX6_likely, 11, some .int, 6, 3, false), (yX6_tiredAll, cX6_tiredAll, 3, some .int, 6, 0, false), (yX6_winter, cX6_winter, 12, some .int, 6, 3, false), (yX6_keep, cX6_keep, 1, some .int, 6, 0, false), (yX6_back, cX6_back, 1, some .int, 6, 0, false), (yX6_count, cX6_count, 2, some .int, 6, 1, false), (yJ6_bitCount_0f7a4, cJ6_bitCount_0f7a4, 1, some .int, 8, 1, true)] : List nl_I))))))))) := rfl
theorem nl_inf_ok : ∀ e ∈ nl_inf, nl_okI e := by
  rw [nl_inf_eq]
  exact List.forall_mem_append.mpr ⟨nl_ic0, List.forall_mem_append.mpr ⟨nl_ic1, List.forall_mem_append.mpr ⟨nl_ic2, List.forall_mem_append.mpr ⟨nl_ic3, List.forall_mem_append.mpr ⟨nl_ic4, List.forall_mem_append.mpr ⟨nl_ic5, List.forall_mem_append.mpr ⟨nl_ic6, List.forall_mem_append.mpr ⟨nl_ic7, nl_ic8⟩⟩⟩⟩⟩⟩⟩⟩
def nl_FL : List (Nat × Nat × Nat × Nat) := [(0, 11, 0, 0), (0, 15, 0, 1), (0, 18, 0, 2), (0, 21, 0, 3), (0, 24, 0, 4), (0, 27, 0, 5), (0, 35, 4, 0), (0, 48, 4, 7), (0, 76, 4, 8), (1, 9, 1, 0), (1, 15, 1, 1), (1, 18, 1, 2), (1, 21, 1, 3), (1, 24, 1, 4), (1, 27, 1, 5), (1, 31, 1, 6), (1, 34, 1, 7), (2, 7, 2, 1), (2, 21, 2, 0), (3, 9, 3, 0), (3, 15, 3, 1), (3, 18, 3, 2), (3, 22, 3, 3), (4, 9, 4, 0), (4, 15, 4, 1), (4, 18, 4, 2), (4, 21, 4, 3), (4, 25, 4, 4), (4, 28, 4, 5), (4, 31, 4, 6), (4, 34, 4, 7), (4, 37, 4, 8), (4, 40, 4, 9), (4, 43, 4, 10), (4, 46, 1, 6), (4, 55, 1, 0), (4, 56, 1, 1), (4, 57, 1, 2), (4, 58, 1, 3), (5, 9, 5, 0), (5, 13, 5, 1), (5, 20, 5, 2), (5, 27, 5, 3), (5, 31, 5, 4), (5, 39, 5, 5), (5, 43, 5, 6), (5, 49, 5, 7), (5, 56, 5, 8), (5, 90, 1, 7), (5, 105, 4, 0), (5, 112, 4, 4), (5, 115, 4, 5), (5, 118, 4, 6), (5, 121, 4, 7), (5, 124, 4, 8), (5, 127, 4, 9), (5, 133, 4, 3), (5, 146, 4, 1), (5, 170, 2, 1), (5, 185, 0, 5), (5, 188, 0, 2), (5, 206, 3, 3), (5, 234, 4, 2), (6, 9, 6, 1), (6, 13, 6, 2), (6, 16, 6, 3), (6, 19, 6, 6), (6, 22, 6, 7), (6, 25, 6, 8), (6, 28, 6, 9), (6, 31, 6, 10), (6, 34, 6, 12), (6, 37, 6, 13), (6, 40, 6, 14), (6, 43, 6, 15), (6, 46, 6, 20), (6, 49, 6, 21), (6, 52, 6, 23), (6, 55, 6, 25), (6, 58, 6, 26), (6, 61, 6, 27), (6, 64, 6, 28), (6, 74, 6, 0), (6, 78, 6, 4), (6, 81, 6, 5), (6, 88, 6, 16), (6, 91, 6, 17), (6, 102, 6, 22), (6, 105, 6, 18), (6, 111, 6, 19), (6, 126, 6, 11), (6, 129, 6, 24), (6, 132, 6, 29)]
def nl_okFL (e : Nat × Nat × Nat × Nat) : Prop := Cond.fieldLink (nl_R e.1) e.2.1 (nl_R e.2.2.1) (nl_T e.2.2.1 e.2.2.2).2.1 (nl_T e.2.2.1 e.2.2.2).2.2.1 ∈ nl_WL
set_option maxRecDepth 100000 in
theorem nl_FL_0 : nl_okFL (0, 11, 0, 0) := (nl_w1 160 rfl rfl)
set_option maxRecDepth 100000 in
theorem nl_FL_1 : nl_okFL (0, 15, 0, 1) := (nl_w1 161 rfl rfl)
set_option maxRecDepth 100000 in
theorem nl_FL_2 : nl_okFL (0, 18, 0, 2) := (nl_w1 162 rfl rfl)
set_option maxRecDepth 100000 in
theorem nl_FL_3 : nl_okFL (0, 21, 0, 3) := (nl_w1 164 rfl rfl)
set_option maxRecDepth 100000 in
theorem nl_FL_4 : nl_okFL (0, 24, 0, 4) := (nl_w1 165 rfl rfl)
set_option maxRecDepth 100000 in
theorem nl_FL_5 : nl_okFL (0, 27, 0, 5) := (nl_w1 166 rfl rfl)
set_option maxRecDepth 100000 in
theorem nl_FL_6 : nl_okFL (0, 35, 4, 0) := (nl_w1 67 rfl rfl)
set_option maxRecDepth 100000 in
theorem nl_FL_7 : nl_okFL (0, 48, 4, 7) := (nl_w1 82 rfl rfl)
set_option maxRecDepth 100000 in
theorem nl_FL_8 : nl_okFL (0, 76, 4, 8) := (nl_w1 86 rfl rfl)
set_option maxRecDepth 100000 in
theorem nl_FL_9 : nl_okFL (1, 9, 1, 0) := (nl_w1 28 rfl rfl)
set_option maxRecDepth 100000 in
theorem nl_FL_10 : nl_okFL (1, 15, 1, 1) := (nl_w1 30 rfl rfl)
set_option maxRecDepth 100000 in
theorem nl_FL_11 : nl_okFL (1, 18, 1, 2) := (nl_w1 32 rfl rfl)
set_option maxRecDepth 100000 in
theorem nl_FL_12 : nl_okFL (1, 21, 1, 3) := (nl_w1 34 rfl rfl)
set_option maxRecDepth 100000 in
theorem nl_FL_13 : nl_okFL (1, 24, 1, 4) := (nl_w1 36 rfl rfl)
set_option maxRecDepth 100000 in
theorem nl_FL_14 : nl_okFL (1, 27, 1, 5) := (nl_w1 37 rfl rfl)
set_option maxRecDepth 100000 in
theorem nl_FL_15 : nl_okFL (1, 31, 1, 6) := (nl_w1 38 rfl rfl)
set_option maxRecDepth 100000 in
theorem nl_FL_16 : nl_okFL (1, 34, 1, 7) := (nl_w1 40 rfl rfl)
set_option maxRecDepth 100000 in
theorem nl_FL_17 : nl_okFL (2, 7, 2, 1) := (nl_w1 126 rfl rfl)
set_option maxRecDepth 100000 in
theorem nl_FL_18 : nl_okFL (2, 21, 2, 0) := (nl_w1 125 rfl rfl)
set_option maxRecDepth 100000 in
theorem nl_FL_19 : nl_okFL (3, 9, 3, 0) := (nl_w1 139 rfl rfl)
set_option maxRecDepth 100000 in
theorem nl_FL_20 : nl_okFL (3, 15, 3, 1) := (nl_w1 140 rfl rfl)
set_option maxRecDepth 100000 in
theorem nl_FL_21 : nl_okFL (3, 18, 3, 2) := (nl_w1 141 rfl rfl)
set_option maxRecDepth 100000 in
theorem nl_FL_22 : nl_okFL (3, 22, 3, 3) := (nl_w1 142 rfl rfl)
set_option maxRecDepth 100000 in
theorem nl_FL_23 : nl_okFL (4, 9, 4, 0) := (nl_w1 66 rfl rfl)
set_option maxRecDepth 100000 in
theorem nl_FL_24 : nl_okFL (4, 15, 4, 1) := (nl_w1 69 rfl rfl)
set_option maxRecDepth 100000 in
theorem nl_FL_25 : nl_okFL (4, 18, 4, 2) := (nl_w1 71 rfl rfl)
set_option maxRecDepth 100000 in
theorem nl_FL_26 : nl_okFL (4, 21, 4, 3) := (nl_w1 73 rfl rfl)
set_option maxRecDepth 100000 in
theorem nl_FL_27 : nl_okFL (4, 25, 4, 4) := (nl_w1 75 rfl rfl)
set_option maxRecDepth 100000 in
theorem nl_FL_28 : nl_okFL (4, 28, 4, 5) := (nl_w1 77 rfl rfl)
set_option maxRecDepth 100000 in
theorem nl_FL_29 : nl_okFL (4, 31, 4, 6) := (nl_w1 79 rfl rfl)
set_option maxRecDepth 100000 in
theorem nl_FL_30 : nl_okFL (4, 34, 4, 7) := (nl_w1 81 rfl rfl)
set_option maxRecDepth 100000 in
theorem nl_FL_31 : nl_okFL (4, 37, 4, 8) := (nl_w1 84 rfl rfl)
set_option maxRecDepth 100000 in
theorem nl_FL_32 : nl_okFL (4, 40, 4, 9) := (nl_w1 87 rfl rfl)
set_option maxRecDepth 100000 in
theorem nl_FL_33 : nl_okFL (4, 43, 4, 10) := (nl_w1 89 rfl rfl)
set_option maxRecDepth 100000 in
theorem nl_FL_34 : nl_okFL (4, 46, 1, 6) := (nl_w1 39 rfl rfl)
set_option maxRecDepth 100000 in
theorem nl_FL_35 : nl_okFL (4, 55, 1, 0) := (nl_w1 29 rfl rfl)
set_option maxRecDepth 100000 in
theorem nl_FL_36 : nl_okFL (4, 56, 1, 1) := (nl_w1 31 rfl rfl)
set_option maxRecDepth 100000 in
theorem nl_FL_37 : nl_okFL (4, 57, 1, 2) := (nl_w1 33 rfl rfl)
set_option maxRecDepth 100000 in
theorem nl_FL_38 : nl_okFL (4, 58, 1, 3) := (nl_w1 35 rfl rfl)
set_option maxRecDepth 100000 in
theorem nl_FL_39 : nl_okFL (5, 9, 5, 0) := (nl_w2 45 rfl rfl)
set_option maxRecDepth 100000 in
theorem nl_FL_40 : nl_okFL (5, 13, 5, 1) := (nl_w2 46 rfl rfl)
set_option maxRecDepth 100000 in
theorem nl_FL_41 : nl_okFL (5, 20, 5, 2) := (nl_w2 47 rfl rfl)
set_option maxRecDepth 100000 in
theorem nl_FL_42 : nl_okFL (5, 27, 5, 3) := (nl_w2 48 rfl rfl)
set_option maxRecDepth 100000 in
theorem nl_FL_43 : nl_okFL (5, 31, 5, 4) := (nl_w2 49 rfl rfl)
set_option maxRecDepth 100000 in
theorem nl_FL_44 : nl_okFL (5, 39, 5, 5) := (nl_w2 50 rfl rfl)
set_option maxRecDepth 100000 in
theorem nl_FL_45 : nl_okFL (5, 43, 5, 6) := (nl_w2 51 rfl rfl)
set_option maxRecDepth 100000 in
theorem nl_FL_46 : nl_okFL (5, 49, 5, 7) := (nl_w2 52 rfl rfl)
set_option maxRecDepth 100000 in
theorem nl_FL_47 : nl_okFL (5, 56, 5, 8) := (nl_w2 53 rfl rfl)
set_option maxRecDepth 100000 in
theorem nl_FL_48 : nl_okFL (5, 90, 1, 7) := (nl_w1 41 rfl rfl)
set_option maxRecDepth 100000 in
theorem nl_FL_49 : nl_okFL (5, 105, 4, 0) := (nl_w1 68 rfl rfl)
set_option maxRecDepth 100000 in
theorem nl_FL_50 : nl_okFL (5, 112, 4, 4) := (nl_w1 76 rfl rfl)
set_option maxRecDepth 100000 in
theorem nl_FL_51 : nl_okFL (5, 115, 4, 5) := (nl_w1 78 rfl rfl)
set_option maxRecDepth 100000 in
theorem nl_FL_52 : nl_okFL (5, 118, 4, 6) := (nl_w1 80 rfl rfl)
set_option maxRecDepth 100000 in
theorem nl_FL_53 : nl_okFL (5, 121, 4, 7) := (nl_w1 83 rfl rfl)
set_option maxRecDepth 100000 in
theorem nl_FL_54 : nl_okFL (5, 124, 4, 8) := (nl_w1 85 rfl rfl)
set_option maxRecDepth 100000 in
theorem nl_FL_55 : nl_okFL (5, 127, 4, 9) := (nl_w1 88 rfl rfl)
set_option maxRecDepth 100000 in
theorem nl_FL_56 : nl_okFL (5, 133, 4, 3) := (nl_w1 74 rfl rfl)
set_option maxRecDepth 100000 in
theorem nl_FL_57 : nl_okFL (5, 146, 4, 1) := (nl_w1 70 rfl rfl)
set_option maxRecDepth 100000 in
theorem nl_FL_58 : nl_okFL (5, 170, 2, 1) := (nl_w1 127 rfl rfl)
set_option maxRecDepth 100000 in
theorem nl_FL_59 : nl_okFL (5, 185, 0, 5) := (nl_w1 167 rfl rfl)
set_option maxRecDepth 100000 in
theorem nl_FL_60 : nl_okFL (5, 188, 0, 2) := (nl_w1 163 rfl rfl)
set_option maxRecDepth 100000 in
theorem nl_FL_61 : nl_okFL (5, 206, 3, 3) := (nl_w1 143 rfl rfl)
set_option maxRecDepth 100000 in
theorem nl_FL_62 : nl_okFL (5, 234, 4, 2) := (nl_w1 72 rfl rfl)
set_option maxRecDepth 100000 in
theorem nl_FL_63 : nl_okFL (6, 9, 6, 1) := (nl_w3 130 rfl rfl)
set_option maxRecDepth 100000 in
theorem nl_FL_64 : nl_okFL (6, 13, 6, 2) := (nl_w3 131 rfl rfl)
set_option maxRecDepth 100000 in
theorem nl_FL_65 : nl_okFL (6, 16, 6, 3) := (nl_w3 132 rfl rfl)
set_option maxRecDepth 100000 in
theorem nl_FL_66 : nl_okFL (6, 19, 6, 6) := (nl_w3 135 rfl rfl)
set_option maxRecDepth 100000 in
theorem nl_FL_67 : nl_okFL (6, 22, 6, 7) := (nl_w3 136 rfl rfl)
set_option maxRecDepth 100000 in
theorem nl_FL_68 : nl_okFL (6, 25, 6, 8) := (nl_w3 137 rfl rfl)
set_option maxRecDepth 100000 in
theorem nl_FL_69 : nl_okFL (6, 28, 6, 9) := (nl_w3 138 rfl rfl)
set_option maxRecDepth 100000 in
theorem nl_FL_70 : nl_okFL (6, 31, 6, 10) := (nl_w3 139 rfl rfl)
set_option maxRecDepth 100000 in
theorem nl_FL_71 : nl_okFL (6, 34, 6, 12) := (nl_w3 141 rfl rfl)
set_option maxRecDepth 100000 in
theorem nl_FL_72 : nl_okFL (6, 37, 6, 13) := (nl_w3 142 rfl rfl)
set_option maxRecDepth 100000 in
theorem nl_FL_73 : nl_okFL (6, 40, 6, 14) := (nl_w3 143 rfl rfl)
set_option maxRecDepth 100000 in
theorem nl_FL_74 : nl_okFL (6, 43, 6, 15) := (nl_w3 144 rfl rfl)
set_option maxRecDepth 100000 in
theorem nl_FL_75 : nl_okFL (6, 46, 6, 20) := (nl_w3 149 rfl rfl)
set_option maxRecDepth 100000 in
theorem nl_FL_76 : nl_okFL (6, 49, 6, 21) := (nl_w3 150 rfl rfl)
set_option maxRecDepth 100000 in
theorem nl_FL_77 : nl_okFL (6, 52, 6, 23) := (nl_w3 152 rfl rfl)
set_option maxRecDepth 100000 in
theorem nl_FL_78 : nl_okFL (6, 55, 6, 25) := (nl_w3 154 rfl rfl)
set_option maxRecDepth 100000 in
theorem nl_FL_79 : nl_okFL (6, 58, 6, 26) := (nl_w3 155 rfl rfl)
set_option maxRecDepth 100000 in
theorem nl_FL_80 : nl_okFL (6, 61, 6, 27) := (nl_w3 156 rfl rfl)
set_option maxRecDepth 100000 in
theorem nl_FL_81 : nl_okFL (6, 64, 6, 28) := (nl_w3 157 rfl rfl)
set_option maxRecDepth 100000 in
theorem nl_FL_82 : nl_okFL (6, 74, 6, 0) := (nl_w3 129 rfl rfl)
set_option maxRecDepth 100000 in
theorem nl_FL_83 : nl_okFL (6, 78, 6, 4) := (nl_w3 133 rfl rfl)
set_option maxRecDepth 100000 in
theorem nl_FL_84 : nl_okFL (6, 81, 6, 5) := (nl_w3 134 rfl rfl)
set_option maxRecDepth 100000 in
theorem nl_FL_85 : nl_okFL (6, 88, 6, 16) := (nl_w3 145 rfl rfl)
set_option maxRecDepth 100000 in
theorem nl_FL_86 : nl_okFL (6, 91, 6, 17) := (nl_w3 146 rfl rfl)
set_option maxRecDepth 100000 in
theorem nl_FL_87 : nl_okFL (6, 102, 6, 22) := (nl_w3 151 rfl rfl)
set_option maxRecDepth 100000 in
theorem nl_FL_88 : nl_okFL (6, 105, 6, 18) := (nl_w3 147 rfl rfl)
set_option maxRecDepth 100000 in
theorem nl_FL_89 : nl_okFL (6, 111, 6, 19) := (nl_w3 148 rfl rfl)
set_option maxRecDepth 100000 in
theorem nl_FL_90 : nl_okFL (6, 126, 6, 11) := (nl_w3 140 rfl rfl)
set_option maxRecDepth 100000 in
theorem nl_FL_91 : nl_okFL (6, 129, 6, 24) := (nl_w3 153 rfl rfl)
set_option maxRecDepth 100000 in
theorem nl_FL_92 : nl_okFL (6, 132, 6, 29) := (nl_w3 158 rfl rfl)
theorem nl_FLc0 : ∀ e ∈ ([(0, 11, 0, 0), (0, 15, 0, 1), (0, 18, 0, 2), (0, 21, 0, 3), (0, 24, 0, 4), (0, 27, 0, 5), (0, 35, 4, 0), (0, 48, 4, 7), (0, 76, 4, 8), (1, 9, 1, 0), (1, 15, 1, 1), (1, 18, 1, 2), (1, 21, 1, 3), (1, 24, 1, 4), (1, 27, 1, 5), (1, 31, 1, 6), (1, 34, 1, 7), (2, 7, 2, 1), (2, 21, 2, 0), (3, 9, 3, 0)] : List (Nat × Nat × Nat × Nat)), nl_okFL e := List.forall_mem_cons.mpr ⟨nl_FL_0, List.forall_mem_cons.mpr ⟨nl_FL_1, List.forall_mem_cons.mpr ⟨nl_FL_2, List.forall_mem_cons.mpr ⟨nl_FL_3, List.forall_mem_cons.mpr ⟨nl_FL_4, List.forall_mem_cons.mpr ⟨nl_FL_5, List.forall_mem_cons.mpr ⟨nl_FL_6, List.forall_mem_cons.mpr ⟨nl_FL_7, List.forall_mem_cons.mpr ⟨nl_FL_8, List.forall_mem_cons.mpr ⟨nl_FL_9, List.forall_mem_cons.mpr ⟨nl_FL_10, List.forall_mem_cons.mpr ⟨nl_FL_11, List.forall_mem_cons.mpr ⟨nl_FL_12, List.forall_mem_cons.mpr ⟨nl_FL_13, List.forall_mem_cons.mpr ⟨nl_FL_14, List.forall_mem_cons.mpr ⟨nl_FL_15, List.forall_mem_cons.mpr ⟨nl_FL_16, List.forall_mem_cons.mpr ⟨nl_FL_17, List.forall_mem_cons.mpr ⟨nl_FL_18, List.forall_mem_cons.mpr ⟨nl_FL_19, fun _ h => absurd h List.not_mem_nil⟩⟩⟩⟩⟩⟩⟩⟩⟩⟩⟩⟩⟩⟩⟩⟩⟩⟩⟩⟩
theorem nl_FLc1 : ∀ e ∈ ([(3, 15, 3, 1), (3, 18, 3, 2), (3, 22, 3, 3), (4, 9, 4, 0), (4, 15, 4, 1), (4, 18, 4, 2), (4, 21, 4, 3), (4, 25, 4, 4), (4, 28, 4, 5), (4, 31, 4, 6), (4, 34, 4, 7), (4, 37, 4, 8), (4, 40, 4, 9), (4, 43, 4, 10), (4, 46, 1, 6), (4, 55, 1, 0), (4, 56, 1, 1), (4, 57, 1, 2), (4, 58, 1, 3), (5, 9, 5, 0)] : List (Nat × Nat × Nat × Nat)), nl_okFL e := List.forall_mem_cons.mpr ⟨nl_FL_20, List.forall_mem_cons.mpr ⟨nl_FL_21, List.forall_mem_cons.mpr ⟨nl_FL_22, List.forall_mem_cons.mpr ⟨nl_FL_23, List.forall_mem_cons.mpr ⟨nl_FL_24, List.forall_mem_cons.mpr ⟨nl_FL_25, List.forall_mem_cons.mpr ⟨nl_FL_26, List.forall_mem_cons.mpr ⟨nl_FL_27, List.forall_mem_cons.mpr ⟨nl_FL_28, List.forall_mem_cons.mpr ⟨nl_FL_29, List.forall_mem_cons.mpr ⟨nl_FL_30, List.forall_mem_cons.mpr ⟨nl_FL_31, List.forall_mem_cons.mpr ⟨nl_FL_32, List.forall_mem_cons.mpr ⟨nl_FL_33, List.forall_mem_cons.mpr ⟨nl_FL_34, List.forall_mem_cons.mpr ⟨nl_FL_35, List.forall_mem_cons.mpr ⟨nl_FL_36, List.forall_mem_cons.mpr ⟨nl_FL_37, List.forall_mem_cons.mpr ⟨nl_FL_38, List.forall_mem_cons.mpr ⟨nl_FL_39, fun _ h => absurd h List.not_mem_nil⟩⟩⟩⟩⟩⟩⟩⟩⟩⟩⟩⟩⟩⟩⟩⟩⟩⟩⟩⟩
theorem nl_FLc2 : ∀ e ∈ ([(5, 13, 5, 1), (5, 20, 5, 2), (5, 27, 5, 3), (5, 31, 5, 4), (5, 39, 5, 5), (5, 43, 5, 6), (5, 49, 5, 7), (5, 56, 5, 8), (5, 90, 1, 7), (5, 105, 4, 0), (5, 112, 4, 4), (5, 115, 4, 5), (5, 118, 4, 6), (5, 121, 4, 7), (5, 124, 4, 8), (5, 127, 4, 9), (5, 133, 4, 3), (5, 146, 4, 1), (5, 170, 2, 1), (5, 185, 0, 5)] : List (Nat × Nat × Nat × Nat)), nl_okFL e := List.forall_mem_cons.mpr ⟨nl_FL_40, List.forall_mem_cons.mpr ⟨nl_FL_41, List.forall_mem_cons.mpr ⟨nl_FL_42, List.forall_mem_cons.mpr ⟨nl_FL_43, List.forall_mem_cons.mpr ⟨nl_FL_44, List.forall_mem_cons.mpr ⟨nl_FL_45, List.forall_mem_cons.mpr ⟨nl_FL_46, List.forall_mem_cons.mpr ⟨nl_FL_47, List.forall_mem_cons.mpr ⟨nl_FL_48, List.forall_mem_cons.mpr ⟨nl_FL_49, List.forall_mem_cons.mpr ⟨nl_FL_50, List.forall_mem_cons.mpr ⟨nl_FL_51, List.forall_mem_cons.mpr ⟨nl_FL_52, List.forall_mem_cons.mpr ⟨nl_FL_53, List.forall_mem_cons.mpr ⟨nl_FL_54, List.forall_mem_cons.mpr ⟨nl_FL_55, List.forall_mem_cons.mpr ⟨nl_FL_56, List.forall_mem_cons.mpr ⟨nl_FL_57, List.forall_mem_cons.mpr ⟨nl_FL_58, List.forall_mem_cons.mpr ⟨nl_FL_59, fun _ h => absurd h List.not_mem_nil⟩⟩⟩⟩⟩⟩⟩⟩⟩⟩⟩⟩⟩⟩⟩⟩⟩⟩⟩⟩
theorem nl_FLc3 : ∀ e ∈ ([(5, 188, 0, 2), (5, 206, 3, 3), (5, 234, 4, 2), (6, 9, 6, 1), (6, 13, 6, 2), (6, 16, 6, 3), (6, 19, 6, 6), (6, 22, 6, 7), (6, 25, 6, 8), (6, 28, 6, 9), (6, 31, 6, 10), (6, 34, 6, 12), (6, 37, 6, 13), (6, 40, 6, 14), (6, 43, 6, 15), (6, 46, 6, 20), (6, 49, 6, 21), (6, 52, 6, 23), (6, 55, 6, 25), (6, 58, 6, 26)] : List (Nat × Nat × Nat × Nat)), nl_okFL e := List.forall_mem_cons.mpr ⟨nl_FL_60, List.forall_mem_cons.mpr ⟨nl_FL_61, List.forall_mem_cons.mpr ⟨nl_FL_62, List.forall_mem_cons.mpr ⟨nl_FL_63, List.forall_mem_cons.mpr ⟨nl_FL_64, List.forall_mem_cons.mpr ⟨nl_FL_65, List.forall_mem_cons.mpr ⟨nl_FL_66, List.forall_mem_cons.mpr ⟨nl_FL_67, List.forall_mem_cons.mpr ⟨nl_FL_68, List.forall_mem_cons.mpr ⟨nl_FL_69, List.forall_mem_cons.mpr ⟨nl_FL_70, List.forall_mem_cons.mpr ⟨nl_FL_71, List.forall_mem_cons.mpr ⟨nl_FL_72, List.forall_mem_cons.mpr ⟨nl_FL_73, List.forall_mem_cons.mpr ⟨nl_FL_74, List.forall_mem_cons.mpr ⟨nl_FL_75, List.forall_mem_cons.mpr ⟨nl_FL_76, List.forall_mem_cons.mpr ⟨nl_FL_77, List.forall_mem_cons.mpr ⟨nl_FL_78, List.forall_mem_cons.mpr ⟨nl_FL_79, fun _ h => absurd h List.not_mem_nil⟩⟩⟩⟩⟩⟩⟩⟩⟩⟩⟩⟩⟩⟩⟩⟩⟩⟩⟩⟩
theorem nl_FLc4 : ∀ e ∈ ([(6, 61, 6, 27), (6, 64, 6, 28), (6, 74, 6, 0), (6, 78, 6, 4), (6, 81, 6, 5), (6, 88, 6, 16), (6, 91, 6, 17), (6, 102, 6, 22), (6, 105, 6, 18), (6, 111, 6, 19), (6, 126, 6, 11), (6, 129, 6, 24), (6, 132, 6, 29)] : List (Nat × Nat × Nat × Nat)), nl_okFL e := List.forall_mem_cons.mpr ⟨nl_FL_80, List.forall_mem_cons.mpr ⟨nl_FL_81, List.forall_mem_cons.mpr ⟨nl_FL_82, List.forall_mem_cons.mpr ⟨nl_FL_83, List.forall_mem_cons.mpr ⟨nl_FL_84, List.forall_mem_cons.mpr ⟨nl_FL_85, List.forall_mem_cons.mpr ⟨nl_FL_86, List.forall_mem_cons.mpr ⟨nl_FL_87, List.forall_mem_cons.mpr ⟨nl_FL_88, List.forall_mem_cons.mpr ⟨nl_FL_89, List.forall_mem_cons.mpr ⟨nl_FL_90, List.forall_mem_cons.mpr ⟨nl_FL_91, List.forall_mem_cons.mpr ⟨nl_FL_92, fun _ h => absurd h List.not_mem_nil⟩⟩⟩⟩⟩⟩⟩⟩⟩⟩⟩⟩⟩
set_option maxRecDepth 100000 in
theorem nl_FL_eq : nl_FL = ([(0, 11, 0, 0), (0, 15, 0, 1), (0, 18, 0, 2), (0, 21, 0, 3), (0, 24, 0, 4), (0, 27, 0, 5), (0, 35, 4, 0), (0, 48, 4, 7), (0, 76, 4, 8), (1, 9, 1, 0), (1, 15, 1, 1), (1, 18, 1, 2), (1, 21, 1, 3), (1, 24, 1, 4), (1, 27, 1, 5), (1, 31, 1, 6), (1, 34, 1, 7), (2, 7, 2, 1), (2, 21, 2, 0), (3, 9, 3, 0)] : List (Nat × Nat × Nat × Nat)) ++ (([(3, 15, 3, 1), (3, 18, 3, 2), (3, 22, 3, 3), (4, 9, 4, 0), (4, 15, 4, 1), (4, 18, 4, 2), (4, 21, 4, 3), (4, 25, 4, 4), (4, 28, 4, 5), (4, 31, 4, 6), (4, 34, 4, 7), (4, 37, 4, 8), (4, 40, 4, 9), (4, 43, 4, 10), (4, 46, 1, 6), (4, 55, 1, 0), (4, 56, 1, 1), (4, 57, 1, 2), (4, 58, 1, 3), (5, 9, 5, 0)] : List (Nat × Nat × Nat × Nat)) ++ (([(5, 13, 5, 1), (5, 20, 5, 2), (5, 27, 5, 3), (5, 31, 5, 4), (5, 39, 5, 5), (5, 43, 5, 6), (5, 49, 5, 7), (5, 56, 5, 8), (5, 90, 1, 7), (5, 105, 4, 0), (5, 112, 4, 4), (5, 115, 4, 5), (5, 118, 4, 6), (5, 121, 4, 7), (5, 124, 4, 8), (5, 127, 4, 9), (5, 133, 4, 3), (5, 146, 4, 1), (5, 170, 2, 1), (5, 185, 0, 5)] : List (Nat × Nat × Nat × Nat)) ++ (([(5, 188, 0, 2), (5, 206, 3, 3), (5, 234, 4, 2), (6, 9, 6, 1), (6, 13, 6, 2), (6, 16, 6, 3), (6, 19, 6, 6), (6, 22, 6, 7), (6, 25, 6, 8), (6, 28, 6, 9), (6, 31, 6, 10), (6, 34, 6, 12), (6, 37, 6, 13), (6, 40, 6, 14), (6, 43, 6, 15), (6, 46, 6, 20), (6, 49, 6, 21), (6, 52, 6, 23), (6, 55, 6, 25), (6, 58, 6, 26)] : List (Nat × Nat × Nat × Nat)) ++ (([(6, 61, 6, 27), (6, 64, 6, 28), (6, 74, 6, 0), (6, 78, 6, 4), (6, 81, 6, 5), (6, 88, 6, 16), (6, 91, 6, 17), (6, 102, 6, 22), (6, 105, 6, 18), (6, 111, 6, 19), (6, 126, 6, 11), (6, 129, 6, 24), (6, 132, 6, 29)] : List (Nat × Nat × Nat × Nat)))))) := rfl
theorem nl_FL_all : ∀ e ∈ nl_FL, nl_okFL e := by
  rw [nl_FL_eq]
  exact List.forall_mem_append.mpr ⟨nl_FLc0, List.forall_mem_append.mpr ⟨nl_FLc1, List.forall_mem_append.mpr ⟨nl_FLc2, List.forall_mem_append.mpr ⟨nl_FLc3, nl_FLc4⟩⟩⟩⟩
def nl_nm (y : Nat) : MethodName := (nl_inf.getD y (yX0_choose, cX0_choose, 4, none, 0, 1, false)).1
def nl_ML : List (Nat × Nat × Nat) := [(0, 31, 1), (0, 40, 2), (0, 44, 4), (0, 51, 31), (0, 55, 29), (0, 58, 142), (0, 64, 3), (0, 73, 5), (0, 79, 7), (0, 83, 8), (1, 37, 11), (1, 41, 12), (1, 45, 13), (1, 49, 14), (2, 26, 17), (2, 29, 24), (3, 32, 32), (4, 59, 30), (4, 66, 29), (4, 69, 27), (4, 72, 31), (4, 76, 26), (4, 80, 33), (4, 86, 35), (4, 90, 36), (4, 94, 37), (5, 82, 71), (5, 86, 9), (5, 93, 10), (5, 97, 23), (5, 101, 15), (5, 104, 19), (5, 108, 25), (5, 130, 26), (5, 136, 27), (5, 139, 29), (5, 143, 28), (5, 149, 16), (5, 153, 34), (5, 156, 35), (5, 160, 36), (5, 163, 37), (5, 166, 18), (5, 173, 24), (5, 176, 32), (5, 179, 74), (5, 182, 0), (5, 191, 6), (5, 195, 39), (5, 198, 40), (5, 201, 142), (5, 207, 20), (5, 211, 75), (5, 219, 31), (5, 222, 72), (5, 225, 73), (5, 228, 41), (5, 231, 38), (5, 245, 33), (5, 248, 21), (5, 251, 22), (6, 67, 81), (6, 71, 82), (6, 84, 76), (6, 94, 86), (6, 98, 87), (6, 108, 88), (6, 114, 89), (6, 117, 90), (6, 120, 91), (6, 123, 92), (6, 135, 80), (6, 139, 94), (6, 143, 95), (6, 146, 96), (6, 150, 79), (6, 153, 98), (6, 156, 83), (6, 160, 101), (6, 163, 105), (6, 167, 107), (6, 170, 99), (6, 173, 109), (6, 177, 111), (6, 181, 106), (6, 184, 115), (6, 187, 116), (6, 190, 97), (6, 194, 120), (6, 197, 122), (6, 200, 123), (6, 203, 121), (6, 206, 77), (6, 209, 125), (6, 212, 127), (6, 215, 78), (6, 218, 132), (6, 223, 135), (6, 235, 137), (7, 13, 42), (7, 17, 84), (7, 18, 43), (7, 22, 85), (7, 23, 44), (7, 26, 92), (7, 27, 45), (7, 30, 93), (7, 31, 46), (7, 35, 100), (7, 36, 47), (7, 39, 102), (7, 40, 48), (7, 43, 103), (7, 44, 49), (7, 47, 104), (7, 48, 50), (7, 51, 108), (7, 52, 51), (7, 55, 110), (7, 56, 52), (7, 59, 112), (7, 60, 53), (7, 63, 113), (7, 64, 54), (7, 67, 114), (7, 68, 55), (7, 72, 117), (7, 73, 56), (7, 76, 118), (7, 77, 57), (7, 80, 119), (7, 81, 58), (7, 84, 124), (7, 85, 59), (7, 88, 126), (7, 89, 60), (7, 92, 128), (7, 93, 61), (7, 96, 129), (7, 97, 62), (7, 100, 130), (7, 101, 63), (7, 104, 131), (7, 105, 64), (7, 108, 133), (7, 109, 65), (7, 112, 134), (7, 113, 66), (7, 116, 136), (7, 117, 67), (7, 120, 138), (7, 121, 68), (7, 124, 139), (7, 125, 69), (7, 128, 140), (7, 129, 70), (7, 132, 141)]
def nl_okML (e : Nat × Nat × Nat) : Prop := Cond.methodLink (nl_R e.1) e.2.1 (nl_nm e.2.2) ∈ nl_WL
set_option maxRecDepth 100000 in
theorem nl_ML_0 : nl_okML (0, 31, 1) := (nl_w2 215 rfl rfl)
set_option maxRecDepth 100000 in
theorem nl_ML_1 : nl_okML (0, 40, 2) := (nl_w2 221 rfl rfl)
set_option maxRecDepth 100000 in
theorem nl_ML_2 : nl_okML (0, 44, 4) := (nl_w2 236 rfl rfl)
set_option maxRecDepth 100000 in
theorem nl_ML_3 : nl_okML (0, 51, 31) := (nl_w2 219 rfl rfl)
set_option maxRecDepth 100000 in
theorem nl_ML_4 : nl_okML (0, 55, 29) := (nl_w2 220 rfl rfl)
set_option maxRecDepth 100000 in
theorem nl_ML_5 : nl_okML (0, 58, 142) := (nl_w2 225 rfl rfl)
set_option maxRecDepth 100000 in
theorem nl_ML_6 : nl_okML (0, 64, 3) := (nl_w2 231 rfl rfl)
set_option maxRecDepth 100000 in
theorem nl_ML_7 : nl_okML (0, 73, 5) := (nl_w3 0 rfl rfl)
set_option maxRecDepth 100000 in
theorem nl_ML_8 : nl_okML (0, 79, 7) := (nl_w3 12 rfl rfl)
set_option maxRecDepth 100000 in
theorem nl_ML_9 : nl_okML (0, 83, 8) := (nl_w3 15 rfl rfl)
set_option maxRecDepth 100000 in
theorem nl_ML_10 : nl_okML (1, 37, 11) := (nl_w2 5 rfl rfl)
set_option maxRecDepth 100000 in
theorem nl_ML_11 : nl_okML (1, 41, 12) := (nl_w2 9 rfl rfl)
set_option maxRecDepth 100000 in
theorem nl_ML_12 : nl_okML (1, 45, 13) := (nl_w2 14 rfl rfl)
set_option maxRecDepth 100000 in
theorem nl_ML_13 : nl_okML (1, 49, 14) := (nl_w2 18 rfl rfl)
set_option maxRecDepth 100000 in
theorem nl_ML_14 : nl_okML (2, 26, 17) := (nl_w2 130 rfl rfl)
set_option maxRecDepth 100000 in
theorem nl_ML_15 : nl_okML (2, 29, 24) := (nl_w2 134 rfl rfl)
set_option maxRecDepth 100000 in
theorem nl_ML_16 : nl_okML (3, 32, 32) := (nl_w3 67 rfl rfl)
set_option maxRecDepth 100000 in
theorem nl_ML_17 : nl_okML (4, 59, 30) := (nl_w2 109 rfl rfl)
set_option maxRecDepth 100000 in
theorem nl_ML_18 : nl_okML (4, 66, 29) := (nl_w2 151 rfl rfl)
set_option maxRecDepth 100000 in
theorem nl_ML_19 : nl_okML (4, 69, 27) := (nl_w2 197 rfl rfl)
set_option maxRecDepth 100000 in
theorem nl_ML_20 : nl_okML (4, 72, 31) := (nl_w2 147 rfl rfl)
set_option maxRecDepth 100000 in
theorem nl_ML_21 : nl_okML (4, 76, 26) := (nl_w2 146 rfl rfl)
set_option maxRecDepth 100000 in
theorem nl_ML_22 : nl_okML (4, 80, 33) := (nl_w2 142 rfl rfl)
set_option maxRecDepth 100000 in
theorem nl_ML_23 : nl_okML (4, 86, 35) := (nl_w3 96 rfl rfl)
set_option maxRecDepth 100000 in
theorem nl_ML_24 : nl_okML (4, 90, 36) := (nl_w3 97 rfl rfl)
set_option maxRecDepth 100000 in
theorem nl_ML_25 : nl_okML (4, 94, 37) := (nl_w3 98 rfl rfl)
set_option maxRecDepth 100000 in
theorem nl_ML_26 : nl_okML (5, 82, 71) := (nl_w1 234 rfl rfl)
set_option maxRecDepth 100000 in
theorem nl_ML_27 : nl_okML (5, 86, 9) := (nl_w2 1 rfl rfl)
set_option maxRecDepth 100000 in
theorem nl_ML_28 : nl_okML (5, 93, 10) := (nl_w2 22 rfl rfl)
set_option maxRecDepth 100000 in
theorem nl_ML_29 : nl_okML (5, 97, 23) := (nl_w2 26 rfl rfl)
set_option maxRecDepth 100000 in
theorem nl_ML_30 : nl_okML (5, 101, 15) := (nl_w2 33 rfl rfl)
set_option maxRecDepth 100000 in
theorem nl_ML_31 : nl_okML (5, 104, 19) := (nl_w2 37 rfl rfl)
set_option maxRecDepth 100000 in
theorem nl_ML_32 : nl_okML (5, 108, 25) := (nl_w2 85 rfl rfl)
set_option maxRecDepth 100000 in
theorem nl_ML_33 : nl_okML (5, 130, 26) := (nl_w2 93 rfl rfl)
set_option maxRecDepth 100000 in
theorem nl_ML_34 : nl_okML (5, 136, 27) := (nl_w2 97 rfl rfl)
set_option maxRecDepth 100000 in
theorem nl_ML_35 : nl_okML (5, 139, 29) := (nl_w2 105 rfl rfl)
set_option maxRecDepth 100000 in
theorem nl_ML_36 : nl_okML (5, 143, 28) := (nl_w2 118 rfl rfl)
set_option maxRecDepth 100000 in
theorem nl_ML_37 : nl_okML (5, 149, 16) := (nl_w2 126 rfl rfl)
set_option maxRecDepth 100000 in
theorem nl_ML_38 : nl_okML (5, 153, 34) := (nl_w2 138 rfl rfl)
set_option maxRecDepth 100000 in
theorem nl_ML_39 : nl_okML (5, 156, 35) := (nl_w2 156 rfl rfl)
set_option maxRecDepth 100000 in
theorem nl_ML_40 : nl_okML (5, 160, 36) := (nl_w2 164 rfl rfl)
set_option maxRecDepth 100000 in
theorem nl_ML_41 : nl_okML (5, 163, 37) := (nl_w2 172 rfl rfl)
set_option maxRecDepth 100000 in
theorem nl_ML_42 : nl_okML (5, 166, 18) := (nl_w2 180 rfl rfl)
set_option maxRecDepth 100000 in
theorem nl_ML_43 : nl_okML (5, 173, 24) := (nl_w2 188 rfl rfl)
set_option maxRecDepth 100000 in
theorem nl_ML_44 : nl_okML (5, 176, 32) := (nl_w2 193 rfl rfl)
set_option maxRecDepth 100000 in
theorem nl_ML_45 : nl_okML (5, 179, 74) := (nl_w2 202 rfl rfl)
set_option maxRecDepth 100000 in
theorem nl_ML_46 : nl_okML (5, 182, 0) := (nl_w2 211 rfl rfl)
set_option maxRecDepth 100000 in
theorem nl_ML_47 : nl_okML (5, 191, 6) := (nl_w3 8 rfl rfl)
set_option maxRecDepth 100000 in
theorem nl_ML_48 : nl_okML (5, 195, 39) := (nl_w3 22 rfl rfl)
set_option maxRecDepth 100000 in
theorem nl_ML_49 : nl_okML (5, 198, 40) := (nl_w3 29 rfl rfl)
set_option maxRecDepth 100000 in
theorem nl_ML_50 : nl_okML (5, 201, 142) := (nl_w3 37 rfl rfl)
set_option maxRecDepth 100000 in
theorem nl_ML_51 : nl_okML (5, 207, 20) := (nl_w3 42 rfl rfl)
set_option maxRecDepth 100000 in
theorem nl_ML_52 : nl_okML (5, 211, 75) := (nl_w3 54 rfl rfl)
set_option maxRecDepth 100000 in
theorem nl_ML_53 : nl_okML (5, 219, 31) := (nl_w3 77 rfl rfl)
set_option maxRecDepth 100000 in
theorem nl_ML_54 : nl_okML (5, 222, 72) := (nl_w3 78 rfl rfl)
set_option maxRecDepth 100000 in
theorem nl_ML_55 : nl_okML (5, 225, 73) := (nl_w3 85 rfl rfl)
set_option maxRecDepth 100000 in
theorem nl_ML_56 : nl_okML (5, 228, 41) := (nl_w3 92 rfl rfl)
set_option maxRecDepth 100000 in
theorem nl_ML_57 : nl_okML (5, 231, 38) := (nl_w3 99 rfl rfl)
set_option maxRecDepth 100000 in
theorem nl_ML_58 : nl_okML (5, 245, 33) := (nl_w2 206 rfl rfl)
set_option maxRecDepth 100000 in
theorem nl_ML_59 : nl_okML (5, 248, 21) := (nl_w3 58 rfl rfl)
set_option maxRecDepth 100000 in
theorem nl_ML_60 : nl_okML (5, 251, 22) := (nl_w3 63 rfl rfl)
set_option maxRecDepth 100000 in
theorem nl_ML_61 : nl_okML (6, 67, 81) := (nl_w3 121 rfl rfl)
set_option maxRecDepth 100000 in
theorem nl_ML_62 : nl_okML (6, 71, 82) := (nl_w3 125 rfl rfl)
set_option maxRecDepth 100000 in
theorem nl_ML_63 : nl_okML (6, 84, 76) := (nl_w3 224 rfl rfl)
set_option maxRecDepth 100000 in
theorem nl_ML_64 : nl_okML (6, 94, 86) := (nl_w3 239 rfl rfl)
set_option maxRecDepth 100000 in
theorem nl_ML_65 : nl_okML (6, 98, 87) := (nl_w4 11 rfl rfl)
set_option maxRecDepth 100000 in
theorem nl_ML_66 : nl_okML (6, 108, 88) := (nl_w4 7 rfl rfl)
set_option maxRecDepth 100000 in
theorem nl_ML_67 : nl_okML (6, 114, 89) := (nl_w4 3 rfl rfl)
set_option maxRecDepth 100000 in
theorem nl_ML_68 : nl_okML (6, 117, 90) := (nl_w4 15 rfl rfl)
set_option maxRecDepth 100000 in
theorem nl_ML_69 : nl_okML (6, 120, 91) := (nl_w3 235 rfl rfl)
set_option maxRecDepth 100000 in
theorem nl_ML_70 : nl_okML (6, 123, 92) := (nl_w4 23 rfl rfl)
set_option maxRecDepth 100000 in
theorem nl_ML_71 : nl_okML (6, 135, 80) := (nl_w4 52 rfl rfl)
set_option maxRecDepth 100000 in
theorem nl_ML_72 : nl_okML (6, 139, 94) := (nl_w4 48 rfl rfl)
set_option maxRecDepth 100000 in
theorem nl_ML_73 : nl_okML (6, 143, 95) := (nl_w4 44 rfl rfl)
set_option maxRecDepth 100000 in
theorem nl_ML_74 : nl_okML (6, 146, 96) := (nl_w4 79 rfl rfl)
set_option maxRecDepth 100000 in
theorem nl_ML_75 : nl_okML (6, 150, 79) := (nl_w4 83 rfl rfl)
set_option maxRecDepth 100000 in
theorem nl_ML_76 : nl_okML (6, 153, 98) := (nl_w4 75 rfl rfl)
set_option maxRecDepth 100000 in
theorem nl_ML_77 : nl_okML (6, 156, 83) := (nl_w4 28 rfl rfl)
set_option maxRecDepth 100000 in
theorem nl_ML_78 : nl_okML (6, 160, 101) := (nl_w4 36 rfl rfl)
set_option maxRecDepth 100000 in
theorem nl_ML_79 : nl_okML (6, 163, 105) := (nl_w4 67 rfl rfl)
set_option maxRecDepth 100000 in
theorem nl_ML_80 : nl_okML (6, 167, 107) := (nl_w4 63 rfl rfl)
set_option maxRecDepth 100000 in
theorem nl_ML_81 : nl_okML (6, 170, 99) := (nl_w4 71 rfl rfl)
set_option maxRecDepth 100000 in
theorem nl_ML_82 : nl_okML (6, 173, 109) := (nl_w4 90 rfl rfl)
set_option maxRecDepth 100000 in
theorem nl_ML_83 : nl_okML (6, 177, 111) := (nl_w4 98 rfl rfl)
set_option maxRecDepth 100000 in
theorem nl_ML_84 : nl_okML (6, 181, 106) := (nl_w4 110 rfl rfl)
set_option maxRecDepth 100000 in
theorem nl_ML_85 : nl_okML (6, 184, 115) := (nl_w4 118 rfl rfl)
set_option maxRecDepth 100000 in
theorem nl_ML_86 : nl_okML (6, 187, 116) := (nl_w4 122 rfl rfl)
set_option maxRecDepth 100000 in
theorem nl_ML_87 : nl_okML (6, 190, 97) := (nl_w4 130 rfl rfl)
set_option maxRecDepth 100000 in
theorem nl_ML_88 : nl_okML (6, 194, 120) := (nl_w4 143 rfl rfl)
set_option maxRecDepth 100000 in
theorem nl_ML_89 : nl_okML (6, 197, 122) := (nl_w4 147 rfl rfl)
set_option maxRecDepth 100000 in
theorem nl_ML_90 : nl_okML (6, 200, 123) := (nl_w4 151 rfl rfl)
set_option maxRecDepth 100000 in
theorem nl_ML_91 : nl_okML (6, 203, 121) := (nl_w4 155 rfl rfl)
set_option maxRecDepth 100000 in
theorem nl_ML_92 : nl_okML (6, 206, 77) := (nl_w4 167 rfl rfl)
set_option maxRecDepth 100000 in
theorem nl_ML_93 : nl_okML (6, 209, 125) := (nl_w4 163 rfl rfl)
set_option maxRecDepth 100000 in
theorem nl_ML_94 : nl_okML (6, 212, 127) := (nl_w4 174 rfl rfl)
set_option maxRecDepth 100000 in
theorem nl_ML_95 : nl_okML (6, 215, 78) := (nl_w4 181 rfl rfl)
set_option maxRecDepth 100000 in
theorem nl_ML_96 : nl_okML (6, 218, 132) := (nl_w4 196 rfl rfl)
set_option maxRecDepth 100000 in
theorem nl_ML_97 : nl_okML (6, 223, 135) := (nl_w4 209 rfl rfl)
set_option maxRecDepth 100000 in
theorem nl_ML_98 : nl_okML (6, 235, 137) := (nl_w4 220 rfl rfl)
set_option maxRecDepth 100000 in
theorem nl_ML_99 : nl_okML (7, 13, 42) := (nl_w2 74 rfl rfl)
set_option maxRecDepth 100000 in
theorem nl_ML_100 : nl_okML (7, 17, 84) := (nl_w3 220 rfl rfl)
set_option maxRecDepth 100000 in
theorem nl_ML_101 : nl_okML (7, 18, 43) := (nl_w2 75 rfl rfl)
set_option maxRecDepth 100000 in
theorem nl_ML_102 : nl_okML (7, 22, 85) := (nl_w3 227 rfl rfl)
set_option maxRecDepth 100000 in
theorem nl_ML_103 : nl_okML (7, 23, 44) := (nl_w2 76 rfl rfl)
set_option maxRecDepth 100000 in
theorem nl_ML_104 : nl_okML (7, 26, 92) := (nl_w3 231 rfl rfl)
set_option maxRecDepth 100000 in
theorem nl_ML_105 : nl_okML (7, 27, 45) := (nl_w2 80 rfl rfl)
set_option maxRecDepth 100000 in
theorem nl_ML_106 : nl_okML (7, 30, 93) := (nl_w4 19 rfl rfl)
set_option maxRecDepth 100000 in
theorem nl_ML_107 : nl_okML (7, 31, 46) := (nl_w2 81 rfl rfl)
set_option maxRecDepth 100000 in
theorem nl_ML_108 : nl_okML (7, 35, 100) := (nl_w4 24 rfl rfl)
set_option maxRecDepth 100000 in
theorem nl_ML_109 : nl_okML (7, 36, 47) := (nl_w2 89 rfl rfl)
set_option maxRecDepth 100000 in
theorem nl_ML_110 : nl_okML (7, 39, 102) := (nl_w4 32 rfl rfl)
set_option maxRecDepth 100000 in
theorem nl_ML_111 : nl_okML (7, 40, 48) := (nl_w2 101 rfl rfl)
set_option maxRecDepth 100000 in
theorem nl_ML_112 : nl_okML (7, 43, 103) := (nl_w4 40 rfl rfl)
set_option maxRecDepth 100000 in
theorem nl_ML_113 : nl_okML (7, 44, 49) := (nl_w2 114 rfl rfl)
set_option maxRecDepth 100000 in
theorem nl_ML_114 : nl_okML (7, 47, 104) := (nl_w4 55 rfl rfl)
set_option maxRecDepth 100000 in
theorem nl_ML_115 : nl_okML (7, 48, 50) := (nl_w2 122 rfl rfl)
set_option maxRecDepth 100000 in
theorem nl_ML_116 : nl_okML (7, 51, 108) := (nl_w4 59 rfl rfl)
set_option maxRecDepth 100000 in
theorem nl_ML_117 : nl_okML (7, 52, 51) := (nl_w2 152 rfl rfl)
set_option maxRecDepth 100000 in
theorem nl_ML_118 : nl_okML (7, 55, 110) := (nl_w4 86 rfl rfl)
set_option maxRecDepth 100000 in
theorem nl_ML_119 : nl_okML (7, 56, 52) := (nl_w2 160 rfl rfl)
set_option maxRecDepth 100000 in
theorem nl_ML_120 : nl_okML (7, 59, 112) := (nl_w4 94 rfl rfl)
set_option maxRecDepth 100000 in
theorem nl_ML_121 : nl_okML (7, 60, 53) := (nl_w2 168 rfl rfl)
set_option maxRecDepth 100000 in
theorem nl_ML_122 : nl_okML (7, 63, 113) := (nl_w4 102 rfl rfl)
set_option maxRecDepth 100000 in
theorem nl_ML_123 : nl_okML (7, 64, 54) := (nl_w2 176 rfl rfl)
set_option maxRecDepth 100000 in
theorem nl_ML_124 : nl_okML (7, 67, 114) := (nl_w4 106 rfl rfl)
set_option maxRecDepth 100000 in
theorem nl_ML_125 : nl_okML (7, 68, 55) := (nl_w2 184 rfl rfl)
set_option maxRecDepth 100000 in
theorem nl_ML_126 : nl_okML (7, 72, 117) := (nl_w4 114 rfl rfl)
set_option maxRecDepth 100000 in
theorem nl_ML_127 : nl_okML (7, 73, 56) := (nl_w2 189 rfl rfl)
set_option maxRecDepth 100000 in
theorem nl_ML_128 : nl_okML (7, 76, 118) := (nl_w4 126 rfl rfl)
set_option maxRecDepth 100000 in
theorem nl_ML_129 : nl_okML (7, 77, 57) := (nl_w2 198 rfl rfl)
set_option maxRecDepth 100000 in
theorem nl_ML_130 : nl_okML (7, 80, 119) := (nl_w4 134 rfl rfl)
set_option maxRecDepth 100000 in
theorem nl_ML_131 : nl_okML (7, 81, 58) := (nl_w2 207 rfl rfl)
set_option maxRecDepth 100000 in
theorem nl_ML_132 : nl_okML (7, 84, 124) := (nl_w4 138 rfl rfl)
set_option maxRecDepth 100000 in
theorem nl_ML_133 : nl_okML (7, 85, 59) := (nl_w3 4 rfl rfl)
set_option maxRecDepth 100000 in
theorem nl_ML_134 : nl_okML (7, 88, 126) := (nl_w4 159 rfl rfl)
set_option maxRecDepth 100000 in
theorem nl_ML_135 : nl_okML (7, 89, 60) := (nl_w3 18 rfl rfl)
set_option maxRecDepth 100000 in
theorem nl_ML_136 : nl_okML (7, 92, 128) := (nl_w4 170 rfl rfl)
set_option maxRecDepth 100000 in
theorem nl_ML_137 : nl_okML (7, 93, 61) := (nl_w3 33 rfl rfl)
set_option maxRecDepth 100000 in
theorem nl_ML_138 : nl_okML (7, 96, 129) := (nl_w4 177 rfl rfl)
set_option maxRecDepth 100000 in
theorem nl_ML_139 : nl_okML (7, 97, 62) := (nl_w3 38 rfl rfl)
set_option maxRecDepth 100000 in
theorem nl_ML_140 : nl_okML (7, 100, 130) := (nl_w4 184 rfl rfl)
set_option maxRecDepth 100000 in
theorem nl_ML_141 : nl_okML (7, 101, 63) := (nl_w3 46 rfl rfl)
set_option maxRecDepth 100000 in
theorem nl_ML_142 : nl_okML (7, 104, 131) := (nl_w4 188 rfl rfl)
set_option maxRecDepth 100000 in
theorem nl_ML_143 : nl_okML (7, 105, 64) := (nl_w3 50 rfl rfl)
set_option maxRecDepth 100000 in
theorem nl_ML_144 : nl_okML (7, 108, 133) := (nl_w4 192 rfl rfl)
set_option maxRecDepth 100000 in
theorem nl_ML_145 : nl_okML (7, 109, 65) := (nl_w3 68 rfl rfl)
set_option maxRecDepth 100000 in
theorem nl_ML_146 : nl_okML (7, 112, 134) := (nl_w4 200 rfl rfl)
set_option maxRecDepth 100000 in
theorem nl_ML_147 : nl_okML (7, 113, 66) := (nl_w3 72 rfl rfl)
set_option maxRecDepth 100000 in
theorem nl_ML_148 : nl_okML (7, 116, 136) := (nl_w4 204 rfl rfl)
set_option maxRecDepth 100000 in
theorem nl_ML_149 : nl_okML (7, 117, 67) := (nl_w3 81 rfl rfl)
set_option maxRecDepth 100000 in
theorem nl_ML_150 : nl_okML (7, 120, 138) := (nl_w4 212 rfl rfl)
set_option maxRecDepth 100000 in
theorem nl_ML_151 : nl_okML (7, 121, 68) := (nl_w3 103 rfl rfl)
set_option maxRecDepth 100000 in
theorem nl_ML_152 : nl_okML (7, 124, 139) := (nl_w4 224 rfl rfl)
set_option maxRecDepth 100000 in
theorem nl_ML_153 : nl_okML (7, 125, 69) := (nl_w3 107 rfl rfl)
set_option maxRecDepth 100000 in
theorem nl_ML_154 : nl_okML (7, 128, 140) := (nl_w4 228 rfl rfl)
set_option maxRecDepth 100000 in
theorem nl_ML_155 : nl_okML (7, 129, 70) := (nl_w3 111 rfl rfl)
set_option maxRecDepth 100000 in
theorem nl_ML_156 : nl_okML (7, 132, 141) := (nl_w4 232 rfl rfl)
theorem nl_MLc0 : ∀ e ∈ ([(0, 31, 1), (0, 40, 2), (0, 44, 4), (0, 51, 31), (0, 55, 29), (0, 58, 142), (0, 64, 3), (0, 73, 5), (0, 79, 7), (0, 83, 8), (1, 37, 11), (1, 41, 12), (1, 45, 13), (1, 49, 14), (2, 26, 17), (2, 29, 24), (3, 32, 32), (4, 59, 30), (4, 66, 29), (4, 69, 27)] : List (Nat × Nat × Nat)), nl_okML e := List.forall_mem_cons.mpr ⟨nl_ML_0, List.forall_mem_cons.mpr ⟨nl_ML_1, List.forall_mem_cons.mpr ⟨nl_ML_2, List.forall_mem_cons.mpr ⟨nl_ML_3, List.forall_mem_cons.mpr ⟨nl_ML_4, List.forall_mem_cons.mpr ⟨nl_ML_5, List.forall_mem_cons.mpr ⟨nl_ML_6, List.forall_mem_cons.mpr ⟨nl_ML_7, List.forall_mem_cons.mpr ⟨nl_ML_8, List.forall_mem_cons.mpr ⟨nl_ML_9, List.forall_mem_cons.mpr ⟨nl_ML_10, List.forall_mem_cons.mpr ⟨nl_ML_11, List.forall_mem_cons.mpr ⟨nl_ML_12, List.forall_mem_cons.mpr ⟨nl_ML_13, List.forall_mem_cons.mpr ⟨nl_ML_14, List.forall_mem_cons.mpr ⟨nl_ML_15, List.forall_mem_cons.mpr ⟨nl_ML_16, List.forall_mem_cons.mpr ⟨nl_ML_17, List.forall_mem_cons.mpr ⟨nl_ML_18, List.forall_mem_cons.mpr ⟨nl_ML_19, fun _ h => absurd h List.not_mem_nil⟩⟩⟩⟩⟩⟩⟩⟩⟩⟩⟩⟩⟩⟩⟩⟩⟩⟩⟩⟩
theorem nl_MLc1 : ∀ e ∈ ([(4, 72, 31), (4, 76, 26), (4, 80, 33), (4, 86, 35), (4, 90, 36), (4, 94, 37), (5, 82, 71), (5, 86, 9), (5, 93, 10), (5, 97, 23), (5, 101, 15), (5, 104, 19), (5, 108, 25), (5, 130, 26), (5, 136, 27), (5, 139, 29), (5, 143, 28), (5, 149, 16), (5, 153, 34), (5, 156, 35)] : List (Nat × Nat × Nat)), nl_okML e := List.forall_mem_cons.mpr ⟨nl_ML_20, List.forall_mem_cons.mpr ⟨nl_ML_21, List.forall_mem_cons.mpr ⟨nl_ML_22, List.forall_mem_cons.mpr ⟨nl_ML_23, List.forall_mem_cons.mpr ⟨nl_ML_24, List.forall_mem_cons.mpr ⟨nl_ML_25, List.forall_mem_cons.mpr ⟨nl_ML_26, List.forall_mem_cons.mpr ⟨nl_ML_27, List.forall_mem_cons.mpr ⟨nl_ML_28, List.forall_mem_cons.mpr ⟨nl_ML_29, List.forall_mem_cons.mpr ⟨nl_ML_30, List.forall_mem_cons.mpr ⟨nl_ML_31, List.forall_mem_cons.mpr ⟨nl_ML_32, List.forall_mem_cons.mpr ⟨nl_ML_33, List.forall_mem_cons.mpr ⟨nl_ML_34, List.forall_mem_cons.mpr ⟨nl_ML_35, List.forall_mem_cons.mpr ⟨nl_ML_36, List.forall_mem_cons.mpr ⟨nl_ML_37, List.forall_mem_cons.mpr ⟨nl_ML_38, List.forall_mem_cons.mpr ⟨nl_ML_39, fun _ h => absurd h List.not_mem_nil⟩⟩⟩⟩⟩⟩⟩⟩⟩⟩⟩⟩⟩⟩⟩⟩⟩⟩⟩⟩
theorem nl_MLc2 : ∀ e ∈ ([(5, 160, 36), (5, 163, 37), (5, 166, 18), (5, 173, 24), (5, 176, 32), (5, 179, 74), (5, 182, 0), (5, 191, 6), (5, 195, 39), (5, 198, 40), (5, 201, 142), (5, 207, 20), (5, 211, 75), (5, 219, 31), (5, 222, 72), (5, 225, 73), (5, 228, 41), (5, 231, 38), (5, 245, 33), (5, 248, 21)] : List (Nat × Nat × Nat)), nl_okML e := List.forall_mem_cons.mpr ⟨nl_ML_40, List.forall_mem_cons.mpr ⟨nl_ML_41, List.forall_mem_cons.mpr ⟨nl_ML_42, List.forall_mem_cons.mpr ⟨nl_ML_43, List.forall_mem_cons.mpr ⟨nl_ML_44, List.forall_mem_cons.mpr ⟨nl_ML_45, List.forall_mem_cons.mpr ⟨nl_ML_46, List.forall_mem_cons.mpr ⟨nl_ML_47, List.forall_mem_cons.mpr ⟨nl_ML_48, List.forall_mem_cons.mpr ⟨nl_ML_49, List.forall_mem_cons.mpr ⟨nl_ML_50, List.forall_mem_cons.mpr ⟨nl_ML_51, List.forall_mem_cons.mpr ⟨nl_ML_52, List.forall_mem_cons.mpr ⟨nl_ML_53, List.forall_mem_cons.mpr ⟨nl_ML_54, List.forall_mem_cons.mpr ⟨nl_ML_55, List.forall_mem_cons.mpr ⟨nl_ML_56, List.forall_mem_cons.mpr ⟨nl_ML_57, List.forall_mem_cons.mpr ⟨nl_ML_58, List.forall_mem_cons.mpr ⟨nl_ML_59, fun _ h => absurd h List.not_mem_nil⟩⟩⟩⟩⟩⟩⟩⟩⟩⟩⟩⟩⟩⟩⟩⟩⟩⟩⟩⟩
theorem nl_MLc3 : ∀ e ∈ ([(5, 251, 22), (6, 67, 81), (6, 71, 82), (6, 84, 76), (6, 94, 86), (6, 98, 87), (6, 108, 88), (6, 114, 89), (6, 117, 90), (6, 120, 91), (6, 123, 92), (6, 135, 80), (6, 139, 94), (6, 143, 95), (6, 146, 96), (6, 150, 79), (6, 153, 98), (6, 156, 83), (6, 160, 101), (6, 163, 105)] : List (Nat × Nat × Nat)), nl_okML e := List.forall_mem_cons.mpr ⟨nl_ML_60, List.forall_mem_cons.mpr ⟨nl_ML_61, List.forall_mem_cons.mpr ⟨nl_ML_62, List.forall_mem_cons.mpr ⟨nl_ML_63, List.forall_mem_cons.mpr ⟨nl_ML_64, List.forall_mem_cons.mpr ⟨nl_ML_65, List.forall_mem_cons.mpr ⟨nl_ML_66, List.forall_mem_cons.mpr ⟨nl_ML_67, List.forall_mem_cons.mpr ⟨nl_ML_68, List.forall_mem_cons.mpr ⟨nl_ML_69, List.forall_mem_cons.mpr ⟨nl_ML_70, List.forall_mem_cons.mpr ⟨nl_ML_71, List.forall_mem_cons.mpr ⟨nl_ML_72, List.forall_mem_cons.mpr ⟨nl_ML_73, List.forall_mem_cons.mpr ⟨nl_ML_74, List.forall_mem_cons.mpr ⟨nl_ML_75, List.forall_mem_cons.mpr ⟨nl_ML_76, List.forall_mem_cons.mpr ⟨nl_ML_77, List.forall_mem_cons.mpr ⟨nl_ML_78, List.forall_mem_cons.mpr ⟨nl_ML_79, fun _ h => absurd h List.not_mem_nil⟩⟩⟩⟩⟩⟩⟩⟩⟩⟩⟩⟩⟩⟩⟩⟩⟩⟩⟩⟩
theorem nl_MLc4 : ∀ e ∈ ([(6, 167, 107), (6, 170, 99), (6, 173, 109), (6, 177, 111), (6, 181, 106), (6, 184, 115), (6, 187, 116), (6, 190, 97), (6, 194, 120), (6, 197, 122), (6, 200, 123), (6, 203, 121), (6, 206, 77), (6, 209, 125), (6, 212, 127), (6, 215, 78), (6, 218, 132), (6, 223, 135), (6, 235, 137), (7, 13, 42)] : List (Nat × Nat × Nat)), nl_okML e := List.forall_mem_cons.mpr ⟨nl_ML_80, List.forall_mem_cons.mpr ⟨nl_ML_81, List.forall_mem_cons.mpr ⟨nl_ML_82, List.forall_mem_cons.mpr ⟨nl_ML_83, List.forall_mem_cons.mpr ⟨nl_ML_84, List.forall_mem_cons.mpr ⟨nl_ML_85, List.forall_mem_cons.mpr ⟨nl_ML_86, List.forall_mem_cons.mpr ⟨nl_ML_87, List.forall_mem_cons.mpr ⟨nl_ML_88, List.forall_mem_cons.mpr ⟨nl_ML_89, List.forall_mem_cons.mpr ⟨nl_ML_90, List.forall_mem_cons.mpr ⟨nl_ML_91, List.forall_mem_cons.mpr ⟨nl_ML_92, List.forall_mem_cons.mpr ⟨nl_ML_93, List.forall_mem_cons.mpr ⟨nl_ML_94, List.forall_mem_cons.mpr ⟨nl_ML_95, List.forall_mem_cons.mpr ⟨nl_ML_96, List.forall_mem_cons.mpr ⟨nl_ML_97, List.forall_mem_cons.mpr ⟨nl_ML_98, List.forall_mem_cons.mpr ⟨nl_ML_99, fun _ h => absurd h List.not_mem_nil⟩⟩⟩⟩⟩⟩⟩⟩⟩⟩⟩⟩⟩⟩⟩⟩⟩⟩⟩⟩
theorem nl_MLc5 : ∀ e ∈ ([(7, 17, 84), (7, 18, 43), (7, 22, 85), (7, 23, 44), (7, 26, 92), (7, 27, 45), (7, 30, 93), (7, 31, 46), (7, 35, 100), (7, 36, 47), (7, 39, 102), (7, 40, 48), (7, 43, 103), (7, 44, 49), (7, 47, 104), (7, 48, 50), (7, 51, 108), (7, 52, 51), (7, 55, 110), (7, 56, 52)] : List (Nat × Nat × Nat)), nl_okML e := List.forall_mem_cons.mpr ⟨nl_ML_100, List.forall_mem_cons.mpr ⟨nl_ML_101, List.forall_mem_cons.mpr ⟨nl_ML_102, List.forall_mem_cons.mpr ⟨nl_ML_103, List.forall_mem_cons.mpr ⟨nl_ML_104, List.forall_mem_cons.mpr ⟨nl_ML_105, List.forall_mem_cons.mpr ⟨nl_ML_106, List.forall_mem_cons.mpr ⟨nl_ML_107, List.forall_mem_cons.mpr ⟨nl_ML_108, List.forall_mem_cons.mpr ⟨nl_ML_109, List.forall_mem_cons.mpr ⟨nl_ML_110, List.forall_mem_cons.mpr ⟨nl_ML_111, List.forall_mem_cons.mpr ⟨nl_ML_112, List.forall_mem_cons.mpr ⟨nl_ML_113, List.forall_mem_cons.mpr ⟨nl_ML_114, List.forall_mem_cons.mpr ⟨nl_ML_115, List.forall_mem_cons.mpr ⟨nl_ML_116, List.forall_mem_cons.mpr ⟨nl_ML_117, List.forall_mem_cons.mpr ⟨nl_ML_118, List.forall_mem_cons.mpr ⟨nl_ML_119, fun _ h => absurd h List.not_mem_nil⟩⟩⟩⟩⟩⟩⟩⟩⟩⟩⟩⟩⟩⟩⟩⟩⟩⟩⟩⟩
theorem nl_MLc6 : ∀ e ∈ ([(7, 59, 112), (7, 60, 53), (7, 63, 113), (7, 64, 54), (7, 67, 114), (7, 68, 55), (7, 72, 117), (7, 73, 56), (7, 76, 118), (7, 77, 57), (7, 80, 119), (7, 81, 58), (7, 84, 124), (7, 85, 59), (7, 88, 126), (7, 89, 60), (7, 92, 128), (7, 93, 61), (7, 96, 129), (7, 97, 62)] : List (Nat × Nat × Nat)), nl_okML e := List.forall_mem_cons.mpr ⟨nl_ML_120, List.forall_mem_cons.mpr ⟨nl_ML_121, List.forall_mem_cons.mpr ⟨nl_ML_122, List.forall_mem_cons.mpr ⟨nl_ML_123, List.forall_mem_cons.mpr ⟨nl_ML_124, List.forall_mem_cons.mpr ⟨nl_ML_125, List.forall_mem_cons.mpr ⟨nl_ML_126, List.forall_mem_cons.mpr ⟨nl_ML_127, List.forall_mem_cons.mpr ⟨nl_ML_128, List.forall_mem_cons.mpr ⟨nl_ML_129, List.forall_mem_cons.mpr ⟨nl_ML_130, List.forall_mem_cons.mpr ⟨nl_ML_131, List.forall_mem_cons.mpr ⟨nl_ML_132, List.forall_mem_cons.mpr ⟨nl_ML_133, List.forall_mem_cons.mpr ⟨nl_ML_134, List.forall_mem_cons.mpr ⟨nl_ML_135, List.forall_mem_cons.mpr ⟨nl_ML_136, List.forall_mem_cons.mpr ⟨nl_ML_137, List.forall_mem_cons.mpr ⟨nl_ML_138, List.forall_mem_cons.mpr ⟨nl_ML_139, fun _ h => absurd h List.not_mem_nil⟩⟩⟩⟩⟩⟩⟩⟩⟩⟩⟩⟩⟩⟩⟩⟩⟩⟩⟩⟩
theorem nl_MLc7 : ∀ e ∈ ([(7, 100, 130), (7, 101, 63), (7, 104, 131), (7, 105, 64), (7, 108, 133), (7, 109, 65), (7, 112, 134), (7, 113, 66), (7, 116, 136), (7, 117, 67), (7, 120, 138), (7, 121, 68), (7, 124, 139), (7, 125, 69), (7, 128, 140), (7, 129, 70), (7, 132, 141)] : List (Nat × Nat × Nat)), nl_okML e := List.forall_mem_cons.mpr ⟨nl_ML_140, List.forall_mem_cons.mpr ⟨nl_ML_141, List.forall_mem_cons.mpr ⟨nl_ML_142, List.forall_mem_cons.mpr ⟨nl_ML_143, List.forall_mem_cons.mpr ⟨nl_ML_144, List.forall_mem_cons.mpr ⟨nl_ML_145, List.forall_mem_cons.mpr ⟨nl_ML_146, List.forall_mem_cons.mpr ⟨nl_ML_147, List.forall_mem_cons.mpr ⟨nl_ML_148, List.forall_mem_cons.mpr ⟨nl_ML_149, List.forall_mem_cons.mpr ⟨nl_ML_150, List.forall_mem_cons.mpr ⟨nl_ML_151, List.forall_mem_cons.mpr ⟨nl_ML_152, List.forall_mem_cons.mpr ⟨nl_ML_153, List.forall_mem_cons.mpr ⟨nl_ML_154, List.forall_mem_cons.mpr ⟨nl_ML_155, List.forall_mem_cons.mpr ⟨nl_ML_156, fun _ h => absurd h List.not_mem_nil⟩⟩⟩⟩⟩⟩⟩⟩⟩⟩⟩⟩⟩⟩⟩⟩⟩
set_option maxRecDepth 100000 in
theorem nl_ML_eq : nl_ML = ([(0, 31, 1), (0, 40, 2), (0, 44, 4), (0, 51, 31), (0, 55, 29), (0, 58, 142), (0, 64, 3), (0, 73, 5), (0, 79, 7), (0, 83, 8), (1, 37, 11), (1, 41, 12), (1, 45, 13), (1, 49, 14), (2, 26, 17), (2, 29, 24), (3, 32, 32), (4, 59, 30), (4, 66, 29), (4, 69, 27)] : List (Nat × Nat × Nat)) ++ (([(4, 72, 31), (4, 76, 26), (4, 80, 33), (4, 86, 35), (4, 90, 36), (4, 94, 37), (5, 82, 71), (5, 86, 9), (5, 93, 10), (5, 97, 23), (5, 101, 15), (5, 104, 19), (5, 108, 25), (5, 130, 26), (5, 136, 27), (5, 139, 29), (5, 143, 28), (5, 149, 16), (5, 153, 34), (5, 156, 35)] : List (Nat × Nat × Nat)) ++ (([(5, 160, 36), (5, 163, 37), (5, 166, 18), (5, 173, 24), (5, 176, 32), (5, 179, 74), (5, 182, 0), (5, 191, 6), (5, 195, 39), (5, 198, 40), (5, 201, 142), (5, 207, 20), (5, 211, 75), (5, 219, 31), (5, 222, 72), (5, 225, 73), (5, 228, 41), (5, 231, 38), (5, 245, 33), (5, 248, 21)] : List (Nat × Nat × Nat)) ++ (([(5, 251, 22), (6, 67, 81), (6, 71, 82), (6, 84, 76), (6, 94, 86), (6, 98, 87), (6, 108, 88), (6, 114, 89), (6, 117, 90), (6, 120, 91), (6, 123, 92), (6, 135, 80), (6, 139, 94), (6, 143, 95), (6, 146, 96), (6, 150, 79), (6, 153, 98), (6, 156, 83), (6, 160, 101), (6, 163, 105)] : List (Nat × Nat × Nat)) ++ (([(6, 167, 107), (6, 170, 99), (6, 173, 109), (6, 177, 111), (6, 181, 106), (6, 184, 115), (6, 187, 116), (6, 190, 97), (6, 194, 120), (6, 197, 122), (6, 200, 123), (6, 203, 121), (6, 206, 77), (6, 209, 125), (6, 212, 127), (6, 215, 78), (6, 218, 132), (6, 223, 135), (6, 235, 137), (7, 13, 42)] : List (Nat × Nat × Nat)) ++ (([(7, 17, 84), (7, 18, 43), (7, 22, 85), (7, 23, 44), (7, 26, 92), (7, 27, 45), (7, 30, 93), (7, 31, 46), (7, 35, 100), (7, 36, 47), (7, 39, 102), (7, 40, 48), (7, 43, 103), (7, 44, 49), (7, 47, 104), (7, 48, 50), (7, 51, 108), (7, 52, 51), (7, 55, 110), (7, 56, 52)] : List (Nat × Nat × Nat)) ++ (([(7, 59, 112), (7, 60, 53), (7, 63, 113), (7, 64, 54), (7, 67, 114), (7, 68, 55), (7, 72, 117), (7, 73, 56), (7, 76, 118), (7, 77, 57), (7, 80, 119), (7, 81, 58), (7, 84, 124), (7, 85, 59), (7, 88, 126), (7, 89, 60), (7, 92, 128), (7, 93, 61), (7, 96, 129), (7, 97, 62)] : List (Nat × Nat × Nat)) ++ (([(7, 100, 130), (7, 101, 63), (7, 104, 131), (7, 105, 64), (7, 108, 133), (7, 109, 65), (7, 112, 134), (7, 113, 66), (7, 116, 136), (7, 117, 67), (7, 120, 138), (7, 121, 68), (7, 124, 139), (7, 125, 69), (7, 128, 140), (7, 129, 70), (7, 132, 141)] : List (Nat × Nat × Nat))))))))) := rfl
theorem nl_ML_all : ∀ e ∈ nl_ML, nl_okML e := by
  rw [nl_ML_eq]
  exact List.forall_mem_append.mpr ⟨nl_MLc0, List.forall_mem_append.mpr ⟨nl_MLc1, List.forall_mem_append.mpr ⟨nl_MLc2, List.forall_mem_append.mpr ⟨nl_MLc3, List.forall_mem_append.mpr ⟨nl_MLc4, List.forall_mem_append.mpr ⟨nl_MLc5, List.forall_mem_append.mpr ⟨nl_MLc6, nl_MLc7⟩⟩⟩⟩⟩⟩⟩
def nl_mm (c : Nat) : MethodName := match c with
  | 3 => Lib.Math.max.name
  | 4 => Lib.Math.min.name
  | _ => Lib.Math.abs.name
def nl_MM : List (Nat × Nat × Nat) := [(0, 68, 4), (3, 26, 3), (4, 49, 4), (4, 63, 3), (4, 83, 5), (5, 214, 4)]
def nl_okMM (e : Nat × Nat × Nat) : Prop := Cond.methodLink (nl_R e.1) e.2.1 (nl_mm e.2.2) ∈ nl_WL
set_option maxRecDepth 100000 in
theorem nl_MM_0 : nl_okMM (0, 68, 4) := (nl_w2 235 rfl rfl)
set_option maxRecDepth 100000 in
theorem nl_MM_1 : nl_okMM (3, 26, 3) := (nl_w3 62 rfl rfl)
set_option maxRecDepth 100000 in
theorem nl_MM_2 : nl_okMM (4, 49, 4) := (nl_w2 30 rfl rfl)
set_option maxRecDepth 100000 in
theorem nl_MM_3 : nl_okMM (4, 63, 3) := (nl_w2 113 rfl rfl)
set_option maxRecDepth 100000 in
theorem nl_MM_4 : nl_okMM (4, 83, 5) := (nl_w3 26 rfl rfl)
set_option maxRecDepth 100000 in
theorem nl_MM_5 : nl_okMM (5, 214, 4) := (nl_w3 76 rfl rfl)
theorem nl_MMc0 : ∀ e ∈ ([(0, 68, 4), (3, 26, 3), (4, 49, 4), (4, 63, 3), (4, 83, 5), (5, 214, 4)] : List (Nat × Nat × Nat)), nl_okMM e := List.forall_mem_cons.mpr ⟨nl_MM_0, List.forall_mem_cons.mpr ⟨nl_MM_1, List.forall_mem_cons.mpr ⟨nl_MM_2, List.forall_mem_cons.mpr ⟨nl_MM_3, List.forall_mem_cons.mpr ⟨nl_MM_4, List.forall_mem_cons.mpr ⟨nl_MM_5, fun _ h => absurd h List.not_mem_nil⟩⟩⟩⟩⟩⟩
set_option maxRecDepth 100000 in
theorem nl_MM_eq : nl_MM = ([(0, 68, 4), (3, 26, 3), (4, 49, 4), (4, 63, 3), (4, 83, 5), (5, 214, 4)] : List (Nat × Nat × Nat)) := rfl
theorem nl_MM_all : ∀ e ∈ nl_MM, nl_okMM e := by
  rw [nl_MM_eq]
  exact nl_MMc0
set_option maxRecDepth 100000 in
theorem nl_ma3 : Cond.static Lib.Math.max.name ∈ nl_WL ∧ Cond.code Lib.Math.max.name Lib.Math.max.code 2 (some .int) ∈ nl_WL := ⟨(nl_w1 120 rfl rfl), (nl_w1 121 rfl rfl)⟩
set_option maxRecDepth 100000 in
theorem nl_ma4 : Cond.static Lib.Math.min.name ∈ nl_WL ∧ Cond.code Lib.Math.min.name Lib.Math.min.code 2 (some .int) ∈ nl_WL := ⟨(nl_w2 31 rfl rfl), (nl_w2 32 rfl rfl)⟩
set_option maxRecDepth 100000 in
theorem nl_ma5 : Cond.static Lib.Math.abs.name ∈ nl_WL ∧ Cond.code Lib.Math.abs.name Lib.Math.abs.code 1 (some .int) ∈ nl_WL := ⟨(nl_w3 27 rfl rfl), (nl_w3 28 rfl rfl)⟩
theorem nl_mi : Cond.initialized "java/lang/Math" ∈ nl_WL := (nl_w1 5 rfl rfl)
def nl_KI : List (Nat × Nat × Nat) := [(6, 193, 1048576), (8, 265, 1431655765), (8, 266, 858993459), (8, 267, 252645135)]
def nl_okKI (e : Nat × Nat × Nat) : Prop := Cond.constant (nl_R e.1) e.2.1 (Int32.ofInt e.2.2) ∈ nl_WL
set_option maxRecDepth 100000 in
theorem nl_KI_0 : nl_okKI (6, 193, 1048576) := (nl_w4 142 rfl rfl)
set_option maxRecDepth 100000 in
theorem nl_KI_1 : nl_okKI (8, 265, 1431655765) := (nl_w2 228 rfl rfl)
set_option maxRecDepth 100000 in
theorem nl_KI_2 : nl_okKI (8, 266, 858993459) := (nl_w2 229 rfl rfl)
set_option maxRecDepth 100000 in
theorem nl_KI_3 : nl_okKI (8, 267, 252645135) := (nl_w2 230 rfl rfl)
theorem nl_KIc0 : ∀ e ∈ ([(6, 193, 1048576), (8, 265, 1431655765), (8, 266, 858993459), (8, 267, 252645135)] : List (Nat × Nat × Nat)), nl_okKI e := List.forall_mem_cons.mpr ⟨nl_KI_0, List.forall_mem_cons.mpr ⟨nl_KI_1, List.forall_mem_cons.mpr ⟨nl_KI_2, List.forall_mem_cons.mpr ⟨nl_KI_3, fun _ h => absurd h List.not_mem_nil⟩⟩⟩⟩
set_option maxRecDepth 100000 in
theorem nl_KI_eq : nl_KI = ([(6, 193, 1048576), (8, 265, 1431655765), (8, 266, 858993459), (8, 267, 252645135)] : List (Nat × Nat × Nat)) := rfl
theorem nl_KI_all : ∀ e ∈ nl_KI, nl_okKI e := by
  rw [nl_KI_eq]
  exact nl_KIc0
def nl_KL : List (Nat × Nat × Nat) := [(5, 237, 7919), (5, 239, 6151), (5, 241, 65521), (5, 243, 2), (6, 221, 10), (6, 227, 7919), (6, 229, 6151), (6, 231, 65521), (6, 233, 2)]
def nl_okKL (e : Nat × Nat × Nat) : Prop := Cond.constantLong (nl_R e.1) e.2.1 (Int64.ofInt e.2.2) ∈ nl_WL
set_option maxRecDepth 100000 in
theorem nl_KL_0 : nl_okKL (5, 237, 7919) := (nl_w3 88 rfl rfl)
set_option maxRecDepth 100000 in
theorem nl_KL_1 : nl_okKL (5, 239, 6151) := (nl_w3 89 rfl rfl)
set_option maxRecDepth 100000 in
theorem nl_KL_2 : nl_okKL (5, 241, 65521) := (nl_w3 90 rfl rfl)
set_option maxRecDepth 100000 in
theorem nl_KL_3 : nl_okKL (5, 243, 2) := (nl_w3 91 rfl rfl)
set_option maxRecDepth 100000 in
theorem nl_KL_4 : nl_okKL (6, 221, 10) := (nl_w4 208 rfl rfl)
set_option maxRecDepth 100000 in
theorem nl_KL_5 : nl_okKL (6, 227, 7919) := (nl_w4 216 rfl rfl)
set_option maxRecDepth 100000 in
theorem nl_KL_6 : nl_okKL (6, 229, 6151) := (nl_w4 217 rfl rfl)
set_option maxRecDepth 100000 in
theorem nl_KL_7 : nl_okKL (6, 231, 65521) := (nl_w4 218 rfl rfl)
set_option maxRecDepth 100000 in
theorem nl_KL_8 : nl_okKL (6, 233, 2) := (nl_w4 219 rfl rfl)
theorem nl_KLc0 : ∀ e ∈ ([(5, 237, 7919), (5, 239, 6151), (5, 241, 65521), (5, 243, 2), (6, 221, 10), (6, 227, 7919), (6, 229, 6151), (6, 231, 65521), (6, 233, 2)] : List (Nat × Nat × Nat)), nl_okKL e := List.forall_mem_cons.mpr ⟨nl_KL_0, List.forall_mem_cons.mpr ⟨nl_KL_1, List.forall_mem_cons.mpr ⟨nl_KL_2, List.forall_mem_cons.mpr ⟨nl_KL_3, List.forall_mem_cons.mpr ⟨nl_KL_4, List.forall_mem_cons.mpr ⟨nl_KL_5, List.forall_mem_cons.mpr ⟨nl_KL_6, List.forall_mem_cons.mpr ⟨nl_KL_7, List.forall_mem_cons.mpr ⟨nl_KL_8, fun _ h => absurd h List.not_mem_nil⟩⟩⟩⟩⟩⟩⟩⟩⟩
set_option maxRecDepth 100000 in
theorem nl_KL_eq : nl_KL = ([(5, 237, 7919), (5, 239, 6151), (5, 241, 65521), (5, 243, 2), (6, 221, 10), (6, 227, 7919), (6, 229, 6151), (6, 231, 65521), (6, 233, 2)] : List (Nat × Nat × Nat)) := rfl
theorem nl_KL_all : ∀ e ∈ nl_KL, nl_okKL e := by
  rw [nl_KL_eq]
  exact nl_KLc0
set_option maxRecDepth 100000 in
theorem nl_la0_0 : u_lay (nl_R 0) (nl_T 0) 0 ∈ nl_WL := (nl_w1 168 rfl rfl)
set_option maxRecDepth 100000 in
theorem nl_la0_1 : u_lay (nl_R 0) (nl_T 0) 1 ∈ nl_WL := (nl_w1 170 rfl rfl)
set_option maxRecDepth 100000 in
theorem nl_la0_2 : u_lay (nl_R 0) (nl_T 0) 2 ∈ nl_WL := (nl_w1 172 rfl rfl)
set_option maxRecDepth 100000 in
theorem nl_la0_3 : u_lay (nl_R 0) (nl_T 0) 3 ∈ nl_WL := (nl_w1 174 rfl rfl)
set_option maxRecDepth 100000 in
theorem nl_la0_4 : u_lay (nl_R 0) (nl_T 0) 4 ∈ nl_WL := (nl_w1 176 rfl rfl)
set_option maxRecDepth 100000 in
theorem nl_la0_5 : u_lay (nl_R 0) (nl_T 0) 5 ∈ nl_WL := (nl_w1 178 rfl rfl)
theorem nl_la0 : ∀ k, k < 6 → u_lay (nl_R 0) (nl_T 0) k ∈ nl_WL := by
  intro k hk
  match k, hk with
  | 0, _ => exact nl_la0_0
  | 1, _ => exact nl_la0_1
  | 2, _ => exact nl_la0_2
  | 3, _ => exact nl_la0_3
  | 4, _ => exact nl_la0_4
  | 5, _ => exact nl_la0_5
  | n + 6, h => exact absurd h (by omega)
set_option maxRecDepth 100000 in
theorem nl_la1_0 : u_lay (nl_R 1) (nl_T 1) 0 ∈ nl_WL := (nl_w1 42 rfl rfl)
set_option maxRecDepth 100000 in
theorem nl_la1_1 : u_lay (nl_R 1) (nl_T 1) 1 ∈ nl_WL := (nl_w1 44 rfl rfl)
set_option maxRecDepth 100000 in
theorem nl_la1_2 : u_lay (nl_R 1) (nl_T 1) 2 ∈ nl_WL := (nl_w1 46 rfl rfl)
set_option maxRecDepth 100000 in
theorem nl_la1_3 : u_lay (nl_R 1) (nl_T 1) 3 ∈ nl_WL := (nl_w1 48 rfl rfl)
set_option maxRecDepth 100000 in
theorem nl_la1_4 : u_lay (nl_R 1) (nl_T 1) 4 ∈ nl_WL := (nl_w1 50 rfl rfl)
set_option maxRecDepth 100000 in
theorem nl_la1_5 : u_lay (nl_R 1) (nl_T 1) 5 ∈ nl_WL := (nl_w1 52 rfl rfl)
set_option maxRecDepth 100000 in
theorem nl_la1_6 : u_lay (nl_R 1) (nl_T 1) 6 ∈ nl_WL := (nl_w1 54 rfl rfl)
set_option maxRecDepth 100000 in
theorem nl_la1_7 : u_lay (nl_R 1) (nl_T 1) 7 ∈ nl_WL := (nl_w1 56 rfl rfl)
theorem nl_la1 : ∀ k, k < 8 → u_lay (nl_R 1) (nl_T 1) k ∈ nl_WL := by
  intro k hk
  match k, hk with
  | 0, _ => exact nl_la1_0
  | 1, _ => exact nl_la1_1
  | 2, _ => exact nl_la1_2
  | 3, _ => exact nl_la1_3
  | 4, _ => exact nl_la1_4
  | 5, _ => exact nl_la1_5
  | 6, _ => exact nl_la1_6
  | 7, _ => exact nl_la1_7
  | n + 8, h => exact absurd h (by omega)
set_option maxRecDepth 100000 in
theorem nl_la2_0 : u_lay (nl_R 2) (nl_T 2) 0 ∈ nl_WL := (nl_w1 128 rfl rfl)
set_option maxRecDepth 100000 in
theorem nl_la2_1 : u_lay (nl_R 2) (nl_T 2) 1 ∈ nl_WL := (nl_w1 130 rfl rfl)
theorem nl_la2 : ∀ k, k < 2 → u_lay (nl_R 2) (nl_T 2) k ∈ nl_WL := by
  intro k hk
  match k, hk with
  | 0, _ => exact nl_la2_0
  | 1, _ => exact nl_la2_1
  | n + 2, h => exact absurd h (by omega)
set_option maxRecDepth 100000 in
theorem nl_la3_0 : u_lay (nl_R 3) (nl_T 3) 0 ∈ nl_WL := (nl_w1 144 rfl rfl)
set_option maxRecDepth 100000 in
theorem nl_la3_1 : u_lay (nl_R 3) (nl_T 3) 1 ∈ nl_WL := (nl_w1 146 rfl rfl)
set_option maxRecDepth 100000 in
theorem nl_la3_2 : u_lay (nl_R 3) (nl_T 3) 2 ∈ nl_WL := (nl_w1 148 rfl rfl)
set_option maxRecDepth 100000 in
theorem nl_la3_3 : u_lay (nl_R 3) (nl_T 3) 3 ∈ nl_WL := (nl_w1 150 rfl rfl)
theorem nl_la3 : ∀ k, k < 4 → u_lay (nl_R 3) (nl_T 3) k ∈ nl_WL := by
  intro k hk
  match k, hk with
  | 0, _ => exact nl_la3_0
  | 1, _ => exact nl_la3_1
  | 2, _ => exact nl_la3_2
  | 3, _ => exact nl_la3_3
  | n + 4, h => exact absurd h (by omega)
set_option maxRecDepth 100000 in
theorem nl_la4_0 : u_lay (nl_R 4) (nl_T 4) 0 ∈ nl_WL := (nl_w1 90 rfl rfl)
set_option maxRecDepth 100000 in
theorem nl_la4_1 : u_lay (nl_R 4) (nl_T 4) 1 ∈ nl_WL := (nl_w1 92 rfl rfl)
set_option maxRecDepth 100000 in
theorem nl_la4_2 : u_lay (nl_R 4) (nl_T 4) 2 ∈ nl_WL := (nl_w1 94 rfl rfl)
set_option maxRecDepth 100000 in
theorem nl_la4_3 : u_lay (nl_R 4) (nl_T 4) 3 ∈ nl_WL := (nl_w1 96 rfl rfl)
set_option maxRecDepth 100000 in
theorem nl_la4_4 : u_lay (nl_R 4) (nl_T 4) 4 ∈ nl_WL := (nl_w1 98 rfl rfl)
set_option maxRecDepth 100000 in
theorem nl_la4_5 : u_lay (nl_R 4) (nl_T 4) 5 ∈ nl_WL := (nl_w1 100 rfl rfl)
set_option maxRecDepth 100000 in
theorem nl_la4_6 : u_lay (nl_R 4) (nl_T 4) 6 ∈ nl_WL := (nl_w1 102 rfl rfl)
set_option maxRecDepth 100000 in
theorem nl_la4_7 : u_lay (nl_R 4) (nl_T 4) 7 ∈ nl_WL := (nl_w1 104 rfl rfl)
set_option maxRecDepth 100000 in
theorem nl_la4_8 : u_lay (nl_R 4) (nl_T 4) 8 ∈ nl_WL := (nl_w1 106 rfl rfl)
set_option maxRecDepth 100000 in
theorem nl_la4_9 : u_lay (nl_R 4) (nl_T 4) 9 ∈ nl_WL := (nl_w1 108 rfl rfl)
set_option maxRecDepth 100000 in
theorem nl_la4_10 : u_lay (nl_R 4) (nl_T 4) 10 ∈ nl_WL := (nl_w1 110 rfl rfl)
theorem nl_la4 : ∀ k, k < 11 → u_lay (nl_R 4) (nl_T 4) k ∈ nl_WL := by
  intro k hk
  match k, hk with
  | 0, _ => exact nl_la4_0
  | 1, _ => exact nl_la4_1
  | 2, _ => exact nl_la4_2
  | 3, _ => exact nl_la4_3
  | 4, _ => exact nl_la4_4
  | 5, _ => exact nl_la4_5
  | 6, _ => exact nl_la4_6
  | 7, _ => exact nl_la4_7
  | 8, _ => exact nl_la4_8
  | 9, _ => exact nl_la4_9
  | 10, _ => exact nl_la4_10
  | n + 11, h => exact absurd h (by omega)
set_option maxRecDepth 100000 in
theorem nl_la5_0 : u_lay (nl_R 5) (nl_T 5) 0 ∈ nl_WL := (nl_w2 54 rfl rfl)
set_option maxRecDepth 100000 in
theorem nl_la5_1 : u_lay (nl_R 5) (nl_T 5) 1 ∈ nl_WL := (nl_w2 56 rfl rfl)
set_option maxRecDepth 100000 in
theorem nl_la5_2 : u_lay (nl_R 5) (nl_T 5) 2 ∈ nl_WL := (nl_w2 58 rfl rfl)
set_option maxRecDepth 100000 in
theorem nl_la5_3 : u_lay (nl_R 5) (nl_T 5) 3 ∈ nl_WL := (nl_w2 60 rfl rfl)
set_option maxRecDepth 100000 in
theorem nl_la5_4 : u_lay (nl_R 5) (nl_T 5) 4 ∈ nl_WL := (nl_w2 62 rfl rfl)
set_option maxRecDepth 100000 in
theorem nl_la5_5 : u_lay (nl_R 5) (nl_T 5) 5 ∈ nl_WL := (nl_w2 64 rfl rfl)
set_option maxRecDepth 100000 in
theorem nl_la5_6 : u_lay (nl_R 5) (nl_T 5) 6 ∈ nl_WL := (nl_w2 66 rfl rfl)
set_option maxRecDepth 100000 in
theorem nl_la5_7 : u_lay (nl_R 5) (nl_T 5) 7 ∈ nl_WL := (nl_w2 68 rfl rfl)
set_option maxRecDepth 100000 in
theorem nl_la5_8 : u_lay (nl_R 5) (nl_T 5) 8 ∈ nl_WL := (nl_w2 70 rfl rfl)
theorem nl_la5 : ∀ k, k < 9 → u_lay (nl_R 5) (nl_T 5) k ∈ nl_WL := by
  intro k hk
  match k, hk with
  | 0, _ => exact nl_la5_0
  | 1, _ => exact nl_la5_1
  | 2, _ => exact nl_la5_2
  | 3, _ => exact nl_la5_3
  | 4, _ => exact nl_la5_4
  | 5, _ => exact nl_la5_5
  | 6, _ => exact nl_la5_6
  | 7, _ => exact nl_la5_7
  | 8, _ => exact nl_la5_8
  | n + 9, h => exact absurd h (by omega)
set_option maxRecDepth 100000 in
theorem nl_la6_0 : u_lay (nl_R 6) (nl_T 6) 0 ∈ nl_WL := (nl_w3 159 rfl rfl)
set_option maxRecDepth 100000 in
theorem nl_la6_1 : u_lay (nl_R 6) (nl_T 6) 1 ∈ nl_WL := (nl_w3 161 rfl rfl)
set_option maxRecDepth 100000 in
theorem nl_la6_2 : u_lay (nl_R 6) (nl_T 6) 2 ∈ nl_WL := (nl_w3 163 rfl rfl)
set_option maxRecDepth 100000 in
theorem nl_la6_3 : u_lay (nl_R 6) (nl_T 6) 3 ∈ nl_WL := (nl_w3 165 rfl rfl)
set_option maxRecDepth 100000 in
theorem nl_la6_4 : u_lay (nl_R 6) (nl_T 6) 4 ∈ nl_WL := (nl_w3 167 rfl rfl)
set_option maxRecDepth 100000 in
theorem nl_la6_5 : u_lay (nl_R 6) (nl_T 6) 5 ∈ nl_WL := (nl_w3 169 rfl rfl)
set_option maxRecDepth 100000 in
theorem nl_la6_6 : u_lay (nl_R 6) (nl_T 6) 6 ∈ nl_WL := (nl_w3 171 rfl rfl)
set_option maxRecDepth 100000 in
theorem nl_la6_7 : u_lay (nl_R 6) (nl_T 6) 7 ∈ nl_WL := (nl_w3 173 rfl rfl)
set_option maxRecDepth 100000 in
theorem nl_la6_8 : u_lay (nl_R 6) (nl_T 6) 8 ∈ nl_WL := (nl_w3 175 rfl rfl)
set_option maxRecDepth 100000 in
theorem nl_la6_9 : u_lay (nl_R 6) (nl_T 6) 9 ∈ nl_WL := (nl_w3 177 rfl rfl)
set_option maxRecDepth 100000 in
theorem nl_la6_10 : u_lay (nl_R 6) (nl_T 6) 10 ∈ nl_WL := (nl_w3 179 rfl rfl)
set_option maxRecDepth 100000 in
theorem nl_la6_11 : u_lay (nl_R 6) (nl_T 6) 11 ∈ nl_WL := (nl_w3 181 rfl rfl)
set_option maxRecDepth 100000 in
theorem nl_la6_12 : u_lay (nl_R 6) (nl_T 6) 12 ∈ nl_WL := (nl_w3 183 rfl rfl)
set_option maxRecDepth 100000 in
theorem nl_la6_13 : u_lay (nl_R 6) (nl_T 6) 13 ∈ nl_WL := (nl_w3 185 rfl rfl)
set_option maxRecDepth 100000 in
theorem nl_la6_14 : u_lay (nl_R 6) (nl_T 6) 14 ∈ nl_WL := (nl_w3 187 rfl rfl)
set_option maxRecDepth 100000 in
theorem nl_la6_15 : u_lay (nl_R 6) (nl_T 6) 15 ∈ nl_WL := (nl_w3 189 rfl rfl)
set_option maxRecDepth 100000 in
theorem nl_la6_16 : u_lay (nl_R 6) (nl_T 6) 16 ∈ nl_WL := (nl_w3 191 rfl rfl)
set_option maxRecDepth 100000 in
theorem nl_la6_17 : u_lay (nl_R 6) (nl_T 6) 17 ∈ nl_WL := (nl_w3 193 rfl rfl)
set_option maxRecDepth 100000 in
theorem nl_la6_18 : u_lay (nl_R 6) (nl_T 6) 18 ∈ nl_WL := (nl_w3 195 rfl rfl)
set_option maxRecDepth 100000 in
theorem nl_la6_19 : u_lay (nl_R 6) (nl_T 6) 19 ∈ nl_WL := (nl_w3 197 rfl rfl)
set_option maxRecDepth 100000 in
theorem nl_la6_20 : u_lay (nl_R 6) (nl_T 6) 20 ∈ nl_WL := (nl_w3 199 rfl rfl)
set_option maxRecDepth 100000 in
theorem nl_la6_21 : u_lay (nl_R 6) (nl_T 6) 21 ∈ nl_WL := (nl_w3 201 rfl rfl)
set_option maxRecDepth 100000 in
theorem nl_la6_22 : u_lay (nl_R 6) (nl_T 6) 22 ∈ nl_WL := (nl_w3 203 rfl rfl)
set_option maxRecDepth 100000 in
theorem nl_la6_23 : u_lay (nl_R 6) (nl_T 6) 23 ∈ nl_WL := (nl_w3 205 rfl rfl)
set_option maxRecDepth 100000 in
theorem nl_la6_24 : u_lay (nl_R 6) (nl_T 6) 24 ∈ nl_WL := (nl_w3 207 rfl rfl)
set_option maxRecDepth 100000 in
theorem nl_la6_25 : u_lay (nl_R 6) (nl_T 6) 25 ∈ nl_WL := (nl_w3 209 rfl rfl)
set_option maxRecDepth 100000 in
theorem nl_la6_26 : u_lay (nl_R 6) (nl_T 6) 26 ∈ nl_WL := (nl_w3 211 rfl rfl)
set_option maxRecDepth 100000 in
theorem nl_la6_27 : u_lay (nl_R 6) (nl_T 6) 27 ∈ nl_WL := (nl_w3 213 rfl rfl)
set_option maxRecDepth 100000 in
theorem nl_la6_28 : u_lay (nl_R 6) (nl_T 6) 28 ∈ nl_WL := (nl_w3 215 rfl rfl)
set_option maxRecDepth 100000 in
theorem nl_la6_29 : u_lay (nl_R 6) (nl_T 6) 29 ∈ nl_WL := (nl_w3 217 rfl rfl)
theorem nl_la6 : ∀ k, k < 30 → u_lay (nl_R 6) (nl_T 6) k ∈ nl_WL := by
  intro k hk
  match k, hk with
  | 0, _ => exact nl_la6_0
  | 1, _ => exact nl_la6_1
  | 2, _ => exact nl_la6_2
  | 3, _ => exact nl_la6_3
  | 4, _ => exact nl_la6_4
  | 5, _ => exact nl_la6_5
  | 6, _ => exact nl_la6_6
  | 7, _ => exact nl_la6_7
  | 8, _ => exact nl_la6_8
  | 9, _ => exact nl_la6_9
  | 10, _ => exact nl_la6_10
  | 11, _ => exact nl_la6_11
  | 12, _ => exact nl_la6_12
  | 13, _ => exact nl_la6_13
  | 14, _ => exact nl_la6_14
  | 15, _ => exact nl_la6_15
  | 16, _ => exact nl_la6_16
  | 17, _ => exact nl_la6_17
  | 18, _ => exact nl_la6_18
  | 19, _ => exact nl_la6_19
  | 20, _ => exact nl_la6_20
  | 21, _ => exact nl_la6_21
  | 22, _ => exact nl_la6_22
  | 23, _ => exact nl_la6_23
  | 24, _ => exact nl_la6_24
  | 25, _ => exact nl_la6_25
  | 26, _ => exact nl_la6_26
  | 27, _ => exact nl_la6_27
  | 28, _ => exact nl_la6_28
  | 29, _ => exact nl_la6_29
  | n + 30, h => exact absurd h (by omega)
theorem nl_lays (c : Nat) (hc : c < 7) : ∀ w ∈ u_ws (nl_R c) (nl_T c) (nl_N c), w ∈ nl_WL := by
  intro w hw
  obtain ⟨k, hk, rfl⟩ := List.mem_map.mp hw
  have hk := List.mem_range.mp hk
  match c, hc with
  | 0, _ => exact nl_la0 k hk
  | 1, _ => exact nl_la1 k hk
  | 2, _ => exact nl_la2 k hk
  | 3, _ => exact nl_la3 k hk
  | 4, _ => exact nl_la4 k hk
  | 5, _ => exact nl_la5 k hk
  | 6, _ => exact nl_la6 k hk
end
section
/-! The tables are what the bytes say. -/
def nl_fk (c k : Nat) : Nat := match c with
  | 0 => match k with
    | 0 => 1
    | 1 => 1
    | 2 => 1
    | 3 => 1
    | 4 => 1
    | _ => 0
  | 1 => match k with
    | 0 => 1
    | 1 => 1
    | 2 => 1
    | 3 => 1
    | 4 => 1
    | 5 => 0
    | 6 => 0
    | _ => 0
  | 2 => match k with
    | 0 => 1
    | _ => 0
  | 3 => match k with
    | 0 => 1
    | 1 => 1
    | 2 => 1
    | _ => 0
  | 4 => match k with
    | 0 => 0
    | 1 => 0
    | 2 => 0
    | 3 => 1
    | 4 => 1
    | 5 => 1
    | 6 => 1
    | 7 => 1
    | 8 => 1
    | 9 => 1
    | _ => 1
  | 5 => match k with
    | 0 => 1
    | 1 => 0
    | 2 => 34
    | 3 => 130
    | 4 => 131
    | 5 => 66
    | 6 => 67
    | 7 => 98
    | _ => 2
  | _ => match k with
    | 0 => 0
    | 1 => 1
    | 2 => 1
    | 3 => 1
    | 4 => 0
    | 5 => 0
    | 6 => 1
    | 7 => 1
    | 8 => 1
    | 9 => 1
    | 10 => 1
    | 11 => 0
    | 12 => 1
    | 13 => 1
    | 14 => 1
    | 15 => 1
    | 16 => 0
    | 17 => 0
    | 18 => 0
    | 19 => 0
    | 20 => 1
    | 21 => 1
    | 22 => 0
    | 23 => 1
    | 24 => 0
    | 25 => 1
    | 26 => 1
    | 27 => 1
    | 28 => 1
    | _ => 0
theorem nl_fi0 : ∀ k, k < 6 → nl_fk 0 k = 0 → (nl_T 0 k).2.2.2 = false ∧ (nl_T 0 k).2.2.1 = "I" := by
  intro k hk h
  match k, hk, h with
  | 0, _, h => exact absurd h (by decide)
  | 1, _, h => exact absurd h (by decide)
  | 2, _, h => exact absurd h (by decide)
  | 3, _, h => exact absurd h (by decide)
  | 4, _, h => exact absurd h (by decide)
  | 5, _, h => exact ⟨rfl, rfl⟩
  | n + 6, hk, _ => exact absurd hk (by omega)
theorem nl_fi1 : ∀ k, k < 8 → nl_fk 1 k = 0 → (nl_T 1 k).2.2.2 = false ∧ (nl_T 1 k).2.2.1 = "I" := by
  intro k hk h
  match k, hk, h with
  | 0, _, h => exact absurd h (by decide)
  | 1, _, h => exact absurd h (by decide)
  | 2, _, h => exact absurd h (by decide)
  | 3, _, h => exact absurd h (by decide)
  | 4, _, h => exact absurd h (by decide)
  | 5, _, h => exact ⟨rfl, rfl⟩
  | 6, _, h => exact ⟨rfl, rfl⟩
  | 7, _, h => exact ⟨rfl, rfl⟩
  | n + 8, hk, _ => exact absurd hk (by omega)
theorem nl_fi2 : ∀ k, k < 2 → nl_fk 2 k = 0 → (nl_T 2 k).2.2.2 = false ∧ (nl_T 2 k).2.2.1 = "I" := by
  intro k hk h
  match k, hk, h with
  | 0, _, h => exact absurd h (by decide)
  | 1, _, h => exact ⟨rfl, rfl⟩
  | n + 2, hk, _ => exact absurd hk (by omega)
theorem nl_fi3 : ∀ k, k < 4 → nl_fk 3 k = 0 → (nl_T 3 k).2.2.2 = false ∧ (nl_T 3 k).2.2.1 = "I" := by
  intro k hk h
  match k, hk, h with
  | 0, _, h => exact absurd h (by decide)
  | 1, _, h => exact absurd h (by decide)
  | 2, _, h => exact absurd h (by decide)
  | 3, _, h => exact ⟨rfl, rfl⟩
  | n + 4, hk, _ => exact absurd hk (by omega)
theorem nl_fi4 : ∀ k, k < 11 → nl_fk 4 k = 0 → (nl_T 4 k).2.2.2 = false ∧ (nl_T 4 k).2.2.1 = "I" := by
  intro k hk h
  match k, hk, h with
  | 0, _, h => exact ⟨rfl, rfl⟩
  | 1, _, h => exact ⟨rfl, rfl⟩
  | 2, _, h => exact ⟨rfl, rfl⟩
  | 3, _, h => exact absurd h (by decide)
  | 4, _, h => exact absurd h (by decide)
  | 5, _, h => exact absurd h (by decide)
  | 6, _, h => exact absurd h (by decide)
  | 7, _, h => exact absurd h (by decide)
  | 8, _, h => exact absurd h (by decide)
  | 9, _, h => exact absurd h (by decide)
  | 10, _, h => exact absurd h (by decide)
  | n + 11, hk, _ => exact absurd hk (by omega)
theorem nl_fi5 : ∀ k, k < 9 → nl_fk 5 k = 0 → (nl_T 5 k).2.2.2 = false ∧ (nl_T 5 k).2.2.1 = "I" := by
  intro k hk h
  match k, hk, h with
  | 0, _, h => exact absurd h (by decide)
  | 1, _, h => exact ⟨rfl, rfl⟩
  | 2, _, h => exact absurd h (by decide)
  | 3, _, h => exact absurd h (by decide)
  | 4, _, h => exact absurd h (by decide)
  | 5, _, h => exact absurd h (by decide)
  | 6, _, h => exact absurd h (by decide)
  | 7, _, h => exact absurd h (by decide)
  | 8, _, h => exact absurd h (by decide)
  | n + 9, hk, _ => exact absurd hk (by omega)
theorem nl_fi6 : ∀ k, k < 30 → nl_fk 6 k = 0 → (nl_T 6 k).2.2.2 = false ∧ (nl_T 6 k).2.2.1 = "I" := by
  intro k hk h
  match k, hk, h with
  | 0, _, h => exact ⟨rfl, rfl⟩
  | 1, _, h => exact absurd h (by decide)
  | 2, _, h => exact absurd h (by decide)
  | 3, _, h => exact absurd h (by decide)
  | 4, _, h => exact ⟨rfl, rfl⟩
  | 5, _, h => exact ⟨rfl, rfl⟩
  | 6, _, h => exact absurd h (by decide)
  | 7, _, h => exact absurd h (by decide)
  | 8, _, h => exact absurd h (by decide)
  | 9, _, h => exact absurd h (by decide)
  | 10, _, h => exact absurd h (by decide)
  | 11, _, h => exact ⟨rfl, rfl⟩
  | 12, _, h => exact absurd h (by decide)
  | 13, _, h => exact absurd h (by decide)
  | 14, _, h => exact absurd h (by decide)
  | 15, _, h => exact absurd h (by decide)
  | 16, _, h => exact ⟨rfl, rfl⟩
  | 17, _, h => exact ⟨rfl, rfl⟩
  | 18, _, h => exact ⟨rfl, rfl⟩
  | 19, _, h => exact ⟨rfl, rfl⟩
  | 20, _, h => exact absurd h (by decide)
  | 21, _, h => exact absurd h (by decide)
  | 22, _, h => exact ⟨rfl, rfl⟩
  | 23, _, h => exact absurd h (by decide)
  | 24, _, h => exact ⟨rfl, rfl⟩
  | 25, _, h => exact absurd h (by decide)
  | 26, _, h => exact absurd h (by decide)
  | 27, _, h => exact absurd h (by decide)
  | 28, _, h => exact absurd h (by decide)
  | 29, _, h => exact ⟨rfl, rfl⟩
  | n + 30, hk, _ => exact absurd hk (by omega)
theorem nl_fint (c : Nat) (hc : c < 7) (k : Nat) (hk : k < nl_N c) (h : nl_fk c k = 0) : (nl_T c k).2.2.2 = false ∧ (nl_T c k).2.2.1 = "I" := by
  match c, hc with
  | 0, _ => exact nl_fi0 k hk h
  | 1, _ => exact nl_fi1 k hk h
  | 2, _ => exact nl_fi2 k hk h
  | 3, _ => exact nl_fi3 k hk h
  | 4, _ => exact nl_fi4 k hk h
  | 5, _ => exact nl_fi5 k hk h
  | 6, _ => exact nl_fi6 k hk h
  | n + 7, hc => exact absurd hc (by omega)
def nl_r3 : Option FieldType → Nat
  | none => 0
  | some .int => 1
  | some .long => 2
  | some .boolean => 3
  | _ => 9
def nl_rc (r : Nat) : Nat := match r with
  | 3 => 1
  | r => r
/-- what a row of the code needs beside its bytes -/
def nl_ok (ci nL : Nat) (e : nl_E) : Bool := match e with
  | (pc, i, len, a, b, c) => match i with
    | .iconst _ => len == 1
    | .bipush n => decide (-128 ≤ n) && decide (n < 128) && len == 2
    | .sipush n => decide (-32768 ≤ n) && decide (n < 32768) && len == 3
    | .ldc k => nl_KI.contains (ci, k, a) && len == 2
    | .ldc_w k => nl_KI.contains (ci, k, a) && len == 3
    | .ldc2_w k => nl_KL.contains (ci, k, a) && len == 3
    | .iload _ => len == 2
    | .lload _ => len == 2
    | .aload _ => len == 2
    | .istore k => Nat.blt k nL && len == 2
    | .astore k => Nat.blt k nL && len == 2
    | .lstore k => Nat.blt (k + 1) nL && len == 2
    | .istore_n k => Nat.blt k nL && len == 1
    | .astore_n k => Nat.blt k nL && len == 1
    | .lstore_n k => Nat.blt (k + 1) nL && len == 1
    | .iinc k _ => Nat.blt k nL && len == 3
    | .ifCond _ off => decide ((pc : Int) + off = a) && len == 3
    | .if_icmp _ off => decide ((pc : Int) + off = a) && len == 3
    | .goto off => decide ((pc : Int) + off = a) && len == 3
    | .tableswitch d lo hi offs => decide ((pc : Int) + d = a) && decide (hi - lo + 1 = (c : Int)) && decide (offs.toList.map (fun o => (pc : Int) + o) = (nl_ts c b).map (fun t : Nat => (t : Int)))
    | .getfield k => nl_FL.contains (ci, k, a, b) && Nat.blt a 7 && Nat.blt b (nl_N a) && Nat.beq (nl_fk a b) c && len == 3
    | .putfield k => nl_FL.contains (ci, k, a, b) && Nat.blt a 7 && Nat.blt b (nl_N a) && Nat.beq (nl_fk a b) 0 && len == 3
    | .invokevirtual k => nl_ML.contains (ci, k, a) && len == 3 && (match nl_inf[a]? with
      | some I => Nat.beq I.2.2.2.2.2.1 b && !I.2.2.2.2.2.2 && Nat.beq (nl_rc (nl_r3 I.2.2.2.1)) (c % 4) && Nat.beq I.2.2.2.2.1 (c / 4)
      | none => false)
    | .invokestatic k => if 3 ≤ c then c ≤ 5 && nl_MM.contains (ci, k, c) && len == 3 else (nl_ML.contains (ci, k, a) || (Nat.beq ci 1 && Nat.beq k 52 && Nat.beq a 71)) && len == 3 && (match nl_inf[a]? with
      | some I => Nat.beq I.2.2.2.2.2.1 b && I.2.2.2.2.2.2 && Nat.beq (nl_rc (nl_r3 I.2.2.2.1)) c
      | none => false)
    | _ => len == 1
abbrev nl_okM (M : nl_M) (I : nl_I) : Prop := M.2.2.1 = nl_r3 I.2.2.2.1 ∧ M.2.2.2 = I.2.2.1 ∧ (∀ e ∈ M.1, decode I.2.1 e.1 = .ok (e.2.1, e.2.2.1)) ∧ M.1.all (nl_ok I.2.2.2.2.1 I.2.2.1) = true ∧ M.2.2.2 ≤ 60 ∧ (parseMethodDescriptor I.1.desc).map (fun d => d.parameters.length) = some I.2.2.2.2.2.1
set_option maxRecDepth 100000 in
theorem nl_d0 : nl_okM (cd_X0_choose, ct_X0_choose, 0, 4) (yX0_choose, cX0_choose, 4, none, 0, 1, false) := ⟨rfl, rfl, by decide +kernel, by decide +kernel, by decide, by decide +kernel⟩
set_option maxRecDepth 100000 in
theorem nl_d1 : nl_okM (cd_X0_weigh, ct_X0_weigh, 0, 5) (yX0_weigh, cX0_weigh, 5, none, 0, 1, false) := ⟨rfl, rfl, by decide +kernel, by decide +kernel, by decide, by decide +kernel⟩
set_option maxRecDepth 100000 in
theorem nl_d2 : nl_okM (cd_X0_leastOf, ct_X0_leastOf, 1, 6) (yX0_leastOf, cX0_leastOf, 6, some .int, 0, 2, false) := ⟨rfl, rfl, by decide +kernel, by decide +kernel, by decide, by decide +kernel⟩
set_option maxRecDepth 100000 in
theorem nl_d3 : nl_okM (cd_X0_priceWith, ct_X0_priceWith, 1, 4) (yX0_priceWith, cX0_priceWith, 4, some .int, 0, 3, false) := ⟨rfl, rfl, by decide +kernel, by decide +kernel, by decide, by decide +kernel⟩
set_option maxRecDepth 100000 in
theorem nl_d4 : nl_okM (cd_X0_dealOut, ct_X0_dealOut, 0, 5) (yX0_dealOut, cX0_dealOut, 5, none, 0, 1, false) := ⟨rfl, rfl, by decide +kernel, by decide +kernel, by decide, by decide +kernel⟩
set_option maxRecDepth 100000 in
theorem nl_d5 : nl_okM (cd_X0_lowestOfLeast, ct_X0_lowestOfLeast, 1, 5) (yX0_lowestOfLeast, cX0_lowestOfLeast, 5, some .int, 0, 3, false) := ⟨rfl, rfl, by decide +kernel, by decide +kernel, by decide, by decide +kernel⟩
set_option maxRecDepth 100000 in
theorem nl_d6 : nl_okM (cd_X0_fewestSwaps, ct_X0_fewestSwaps, 1, 3) (yX0_fewestSwaps, cX0_fewestSwaps, 3, some .int, 0, 1, false) := ⟨rfl, rfl, by decide +kernel, by decide +kernel, by decide, by decide +kernel⟩
set_option maxRecDepth 100000 in
theorem nl_d7 : nl_okM (cd_X0_canBridge, ct_X0_canBridge, 3, 8) (yX0_canBridge, cX0_canBridge, 8, some .boolean, 0, 5, true) := ⟨rfl, rfl, by decide +kernel, by decide +kernel, by decide, by decide +kernel⟩
set_option maxRecDepth 100000 in
theorem nl_d8 : nl_okM (cd_X0_exchange, ct_X0_exchange, 0, 4) (yX0_exchange, cX0_exchange, 4, none, 0, 3, true) := ⟨rfl, rfl, by decide +kernel, by decide +kernel, by decide, by decide +kernel⟩
set_option maxRecDepth 100000 in
theorem nl_d9 : nl_okM (cd_X1_read, ct_X1_read, 0, 5) (yX1_read, cX1_read, 5, none, 1, 2, false) := ⟨rfl, rfl, by decide +kernel, by decide +kernel, by decide, by decide +kernel⟩
set_option maxRecDepth 100000 in
theorem nl_d10 : nl_okM (cd_X1_canBeLaid, ct_X1_canBeLaid, 3, 1) (yX1_canBeLaid, cX1_canBeLaid, 1, some .boolean, 1, 0, false) := ⟨rfl, rfl, by decide +kernel, by decide +kernel, by decide, by decide +kernel⟩
set_option maxRecDepth 100000 in
theorem nl_d11 : nl_okM (cd_X1_readItem, ct_X1_readItem, 1, 10) (yX1_readItem, cX1_readItem, 10, some .int, 1, 3, false) := ⟨rfl, rfl, by decide +kernel, by decide +kernel, by decide, by decide +kernel⟩
set_option maxRecDepth 100000 in
theorem nl_d12 : nl_okM (cd_X1_readNumber, ct_X1_readNumber, 1, 7) (yX1_readNumber, cX1_readNumber, 7, some .int, 1, 4, false) := ⟨rfl, rfl, by decide +kernel, by decide +kernel, by decide, by decide +kernel⟩
set_option maxRecDepth 100000 in
theorem nl_d13 : nl_okM (cd_X1_addHour, ct_X1_addHour, 3, 1) (yX1_addHour, cX1_addHour, 1, some .boolean, 1, 0, false) := ⟨rfl, rfl, by decide +kernel, by decide +kernel, by decide, by decide +kernel⟩
set_option maxRecDepth 100000 in
theorem nl_d14 : nl_okM (cd_X1_addHouse, ct_X1_addHouse, 3, 1) (yX1_addHouse, cX1_addHouse, 1, some .boolean, 1, 0, false) := ⟨rfl, rfl, by decide +kernel, by decide +kernel, by decide, by decide +kernel⟩
set_option maxRecDepth 100000 in
theorem nl_d15 : nl_okM (cd_X2_clear, ct_X2_clear, 0, 1) (yX2_clear, cX2_clear, 1, none, 2, 0, false) := ⟨rfl, rfl, by decide +kernel, by decide +kernel, by decide, by decide +kernel⟩
set_option maxRecDepth 100000 in
theorem nl_d16 : nl_okM (cd_X2_put, ct_X2_put, 0, 2) (yX2_put, cX2_put, 2, none, 2, 1, false) := ⟨rfl, rfl, by decide +kernel, by decide +kernel, by decide, by decide +kernel⟩
set_option maxRecDepth 100000 in
theorem nl_d17 : nl_okM (cd_X2_dropOldest, ct_X2_dropOldest, 0, 3) (yX2_dropOldest, cX2_dropOldest, 3, none, 2, 0, false) := ⟨rfl, rfl, by decide +kernel, by decide +kernel, by decide, by decide +kernel⟩
set_option maxRecDepth 100000 in
theorem nl_d18 : nl_okM (cd_X2_takeInto, ct_X2_takeInto, 3, 2) (yX2_takeInto, cX2_takeInto, 2, some .boolean, 2, 1, false) := ⟨rfl, rfl, by decide +kernel, by decide +kernel, by decide, by decide +kernel⟩
set_option maxRecDepth 100000 in
theorem nl_d19 : nl_okM (cd_X3_clear, ct_X3_clear, 0, 1) (yX3_clear, cX3_clear, 1, none, 3, 0, false) := ⟨rfl, rfl, by decide +kernel, by decide +kernel, by decide, by decide +kernel⟩
set_option maxRecDepth 100000 in
theorem nl_d20 : nl_okM (cd_X3_add, ct_X3_add, 0, 4) (yX3_add, cX3_add, 4, none, 3, 3, false) := ⟨rfl, rfl, by decide +kernel, by decide +kernel, by decide, by decide +kernel⟩
set_option maxRecDepth 100000 in
theorem nl_d21 : nl_okM (cd_X3_lastNight, ct_X3_lastNight, 1, 3) (yX3_lastNight, cX3_lastNight, 3, some .int, 3, 0, false) := ⟨rfl, rfl, by decide +kernel, by decide +kernel, by decide, by decide +kernel⟩
set_option maxRecDepth 100000 in
theorem nl_d22 : nl_okM (cd_X3_fit, ct_X3_fit, 3, 4) (yX3_fit, cX3_fit, 4, some .boolean, 3, 2, false) := ⟨rfl, rfl, by decide +kernel, by decide +kernel, by decide, by decide +kernel⟩
set_option maxRecDepth 100000 in
theorem nl_d23 : nl_okM (cd_X4_settle, ct_X4_settle, 0, 3) (yX4_settle, cX4_settle, 3, none, 4, 1, false) := ⟨rfl, rfl, by decide +kernel, by decide +kernel, by decide, by decide +kernel⟩
set_option maxRecDepth 100000 in
theorem nl_d24 : nl_okM (cd_X4_copyFrom, ct_X4_copyFrom, 0, 3) (yX4_copyFrom, cX4_copyFrom, 3, none, 4, 1, false) := ⟨rfl, rfl, by decide +kernel, by decide +kernel, by decide, by decide +kernel⟩
set_option maxRecDepth 100000 in
theorem nl_d25 : nl_okM (cd_X4_isHouse, ct_X4_isHouse, 3, 2) (yX4_isHouse, cX4_isHouse, 2, some .boolean, 4, 1, false) := ⟨rfl, rfl, by decide +kernel, by decide +kernel, by decide, by decide +kernel⟩
set_option maxRecDepth 100000 in
theorem nl_d26 : nl_okM (cd_X4_isHour, ct_X4_isHour, 3, 2) (yX4_isHour, cX4_isHour, 2, some .boolean, 4, 1, false) := ⟨rfl, rfl, by decide +kernel, by decide +kernel, by decide, by decide +kernel⟩
set_option maxRecDepth 100000 in
theorem nl_d27 : nl_okM (cd_X4_houseWith, ct_X4_houseWith, 1, 3) (yX4_houseWith, cX4_houseWith, 3, some .int, 4, 1, false) := ⟨rfl, rfl, by decide +kernel, by decide +kernel, by decide, by decide +kernel⟩
set_option maxRecDepth 100000 in
theorem nl_d28 : nl_okM (cd_X4_timesHad, ct_X4_timesHad, 1, 3) (yX4_timesHad, cX4_timesHad, 3, some .int, 4, 2, false) := ⟨rfl, rfl, by decide +kernel, by decide +kernel, by decide, by decide +kernel⟩
set_option maxRecDepth 100000 in
theorem nl_d29 : nl_okM (cd_X4_heaviness, ct_X4_heaviness, 1, 4) (yX4_heaviness, cX4_heaviness, 4, some .int, 4, 2, false) := ⟨rfl, rfl, by decide +kernel, by decide +kernel, by decide, by decide +kernel⟩
set_option maxRecDepth 100000 in
theorem nl_d30 : nl_okM (cd_X4_hourHadMost, ct_X4_hourHadMost, 1, 6) (yX4_hourHadMost, cX4_hourHadMost, 6, some .int, 4, 1, false) := ⟨rfl, rfl, by decide +kernel, by decide +kernel, by decide, by decide +kernel⟩
set_option maxRecDepth 100000 in
theorem nl_d31 : nl_okM (cd_X4_wouldKeep, ct_X4_wouldKeep, 3, 4) (yX4_wouldKeep, cX4_wouldKeep, 4, some .boolean, 4, 3, false) := ⟨rfl, rfl, by decide +kernel, by decide +kernel, by decide, by decide +kernel⟩
set_option maxRecDepth 100000 in
theorem nl_d32 : nl_okM (cd_X4_isGapAt, ct_X4_isGapAt, 3, 3) (yX4_isGapAt, cX4_isGapAt, 3, some .boolean, 4, 1, false) := ⟨rfl, rfl, by decide +kernel, by decide +kernel, by decide, by decide +kernel⟩
set_option maxRecDepth 100000 in
theorem nl_d33 : nl_okM (cd_X4_seeThrough, ct_X4_seeThrough, 3, 4) (yX4_seeThrough, cX4_seeThrough, 4, some .boolean, 4, 1, false) := ⟨rfl, rfl, by decide +kernel, by decide +kernel, by decide, by decide +kernel⟩
set_option maxRecDepth 100000 in
theorem nl_d34 : nl_okM (cd_X4_letNightsPass, ct_X4_letNightsPass, 1, 5) (yX4_letNightsPass, cX4_letNightsPass, 5, some .int, 4, 1, false) := ⟨rfl, rfl, by decide +kernel, by decide +kernel, by decide, by decide +kernel⟩
set_option maxRecDepth 100000 in
theorem nl_d35 : nl_okM (cd_X4_trade, ct_X4_trade, 0, 4) (yX4_trade, cX4_trade, 4, none, 4, 2, false) := ⟨rfl, rfl, by decide +kernel, by decide +kernel, by decide, by decide +kernel⟩
set_option maxRecDepth 100000 in
theorem nl_d36 : nl_okM (cd_X4_giveRest, ct_X4_giveRest, 0, 2) (yX4_giveRest, cX4_giveRest, 2, none, 4, 1, false) := ⟨rfl, rfl, by decide +kernel, by decide +kernel, by decide, by decide +kernel⟩
set_option maxRecDepth 100000 in
theorem nl_d37 : nl_okM (cd_X4_setBurden, ct_X4_setBurden, 0, 3) (yX4_setBurden, cX4_setBurden, 3, none, 4, 2, false) := ⟨rfl, rfl, by decide +kernel, by decide +kernel, by decide, by decide +kernel⟩
set_option maxRecDepth 100000 in
theorem nl_d38 : nl_okM (cd_X4_tiredTogether, ct_X4_tiredTogether, 1, 3) (yX4_tiredTogether, cX4_tiredTogether, 3, some .int, 4, 0, false) := ⟨rfl, rfl, by decide +kernel, by decide +kernel, by decide, by decide +kernel⟩
set_option maxRecDepth 100000 in
theorem nl_d39 : nl_okM (cd_X4_handingOver, ct_X4_handingOver, 1, 5) (yX4_handingOver, cX4_handingOver, 5, some .int, 4, 0, false) := ⟨rfl, rfl, by decide +kernel, by decide +kernel, by decide, by decide +kernel⟩
set_option maxRecDepth 100000 in
theorem nl_d40 : nl_okM (cd_X4_lengthOfRoad, ct_X4_lengthOfRoad, 1, 4) (yX4_lengthOfRoad, cX4_lengthOfRoad, 4, some .int, 4, 0, false) := ⟨rfl, rfl, by decide +kernel, by decide +kernel, by decide, by decide +kernel⟩
set_option maxRecDepth 100000 in
theorem nl_d41 : nl_okM (cd_X4_stir, ct_X4_stir, 0, 4) (yX4_stir, cX4_stir, 4, none, 4, 1, false) := ⟨rfl, rfl, by decide +kernel, by decide +kernel, by decide, by decide +kernel⟩
set_option maxRecDepth 100000 in
theorem nl_d42 : nl_okM (cd_X5_write, ct_X5_write, 1, 2) (yX5_write, cX5_write, 2, some .int, 5, 1, false) := ⟨rfl, rfl, by decide +kernel, by decide +kernel, by decide, by decide +kernel⟩
set_option maxRecDepth 100000 in
theorem nl_d43 : nl_okM (cd_X5_wipe, ct_X5_wipe, 1, 2) (yX5_wipe, cX5_wipe, 2, some .int, 5, 0, false) := ⟨rfl, rfl, by decide +kernel, by decide +kernel, by decide, by decide +kernel⟩
set_option maxRecDepth 100000 in
theorem nl_d44 : nl_okM (cd_X5_fault, ct_X5_fault, 1, 1) (yX5_fault, cX5_fault, 1, some .int, 5, 0, false) := ⟨rfl, rfl, by decide +kernel, by decide +kernel, by decide, by decide +kernel⟩
set_option maxRecDepth 100000 in
theorem nl_d45 : nl_okM (cd_X5_lay, ct_X5_lay, 1, 1) (yX5_lay, cX5_lay, 1, some .int, 5, 0, false) := ⟨rfl, rfl, by decide +kernel, by decide +kernel, by decide, by decide +kernel⟩
set_option maxRecDepth 100000 in
theorem nl_d46 : nl_okM (cd_X5_house, ct_X5_house, 1, 3) (yX5_house, cX5_house, 3, some .int, 5, 2, false) := ⟨rfl, rfl, by decide +kernel, by decide +kernel, by decide, by decide +kernel⟩
set_option maxRecDepth 100000 in
theorem nl_d47 : nl_okM (cd_X5_hour, ct_X5_hour, 1, 3) (yX5_hour, cX5_hour, 3, some .int, 5, 2, false) := ⟨rfl, rfl, by decide +kernel, by decide +kernel, by decide, by decide +kernel⟩
set_option maxRecDepth 100000 in
theorem nl_d48 : nl_okM (cd_X5_heavy, ct_X5_heavy, 1, 3) (yX5_heavy, cX5_heavy, 3, some .int, 5, 2, false) := ⟨rfl, rfl, by decide +kernel, by decide +kernel, by decide, by decide +kernel⟩
set_option maxRecDepth 100000 in
theorem nl_d49 : nl_okM (cd_X5_had, ct_X5_had, 1, 3) (yX5_had, cX5_had, 3, some .int, 5, 2, false) := ⟨rfl, rfl, by decide +kernel, by decide +kernel, by decide, by decide +kernel⟩
set_option maxRecDepth 100000 in
theorem nl_d50 : nl_okM (cd_X5_pass, ct_X5_pass, 1, 2) (yX5_pass, cX5_pass, 2, some .int, 5, 1, false) := ⟨rfl, rfl, by decide +kernel, by decide +kernel, by decide, by decide +kernel⟩
set_option maxRecDepth 100000 in
theorem nl_d51 : nl_okM (cd_X5_swap, ct_X5_swap, 1, 3) (yX5_swap, cX5_swap, 3, some .int, 5, 2, false) := ⟨rfl, rfl, by decide +kernel, by decide +kernel, by decide, by decide +kernel⟩
set_option maxRecDepth 100000 in
theorem nl_d52 : nl_okM (cd_X5_rest, ct_X5_rest, 1, 2) (yX5_rest, cX5_rest, 2, some .int, 5, 1, false) := ⟨rfl, rfl, by decide +kernel, by decide +kernel, by decide, by decide +kernel⟩
set_option maxRecDepth 100000 in
theorem nl_d53 : nl_okM (cd_X5_burden, ct_X5_burden, 1, 4) (yX5_burden, cX5_burden, 4, some .int, 5, 2, false) := ⟨rfl, rfl, by decide +kernel, by decide +kernel, by decide, by decide +kernel⟩
set_option maxRecDepth 100000 in
theorem nl_d54 : nl_okM (cd_X5_undo, ct_X5_undo, 1, 1) (yX5_undo, cX5_undo, 1, some .int, 5, 0, false) := ⟨rfl, rfl, by decide +kernel, by decide +kernel, by decide, by decide +kernel⟩
set_option maxRecDepth 100000 in
theorem nl_d55 : nl_okM (cd_X5_behind, ct_X5_behind, 1, 4) (yX5_behind, cX5_behind, 4, some .int, 5, 3, false) := ⟨rfl, rfl, by decide +kernel, by decide +kernel, by decide, by decide +kernel⟩
set_option maxRecDepth 100000 in
theorem nl_d56 : nl_okM (cd_X5_gaps, ct_X5_gaps, 1, 3) (yX5_gaps, cX5_gaps, 3, some .int, 5, 0, false) := ⟨rfl, rfl, by decide +kernel, by decide +kernel, by decide, by decide +kernel⟩
set_option maxRecDepth 100000 in
theorem nl_d57 : nl_okM (cd_X5_first, ct_X5_first, 1, 3) (yX5_first, cX5_first, 3, some .int, 5, 1, false) := ⟨rfl, rfl, by decide +kernel, by decide +kernel, by decide, by decide +kernel⟩
set_option maxRecDepth 100000 in
theorem nl_d58 : nl_okM (cd_X5_even, ct_X5_even, 1, 2) (yX5_even, cX5_even, 2, some .int, 5, 1, false) := ⟨rfl, rfl, by decide +kernel, by decide +kernel, by decide, by decide +kernel⟩
set_option maxRecDepth 100000 in
theorem nl_d59 : nl_okM (cd_X5_swaps, ct_X5_swaps, 1, 1) (yX5_swaps, cX5_swaps, 1, some .int, 5, 0, false) := ⟨rfl, rfl, by decide +kernel, by decide +kernel, by decide, by decide +kernel⟩
set_option maxRecDepth 100000 in
theorem nl_d60 : nl_okM (cd_X5_far, ct_X5_far, 1, 2) (yX5_far, cX5_far, 2, some .int, 5, 1, false) := ⟨rfl, rfl, by decide +kernel, by decide +kernel, by decide, by decide +kernel⟩
set_option maxRecDepth 100000 in
theorem nl_d61 : nl_okM (cd_X5_lamps, ct_X5_lamps, 1, 5) (yX5_lamps, cX5_lamps, 5, some .int, 5, 2, false) := ⟨rfl, rfl, by decide +kernel, by decide +kernel, by decide, by decide +kernel⟩
set_option maxRecDepth 100000 in
theorem nl_d62 : nl_okM (cd_X5_seen, ct_X5_seen, 1, 4) (yX5_seen, cX5_seen, 4, some .int, 5, 3, false) := ⟨rfl, rfl, by decide +kernel, by decide +kernel, by decide, by decide +kernel⟩
set_option maxRecDepth 100000 in
theorem nl_d63 : nl_okM (cd_X5_forget, ct_X5_forget, 1, 2) (yX5_forget, cX5_forget, 2, some .int, 5, 0, false) := ⟨rfl, rfl, by decide +kernel, by decide +kernel, by decide, by decide +kernel⟩
set_option maxRecDepth 100000 in
theorem nl_d64 : nl_okM (cd_X5_kinds, ct_X5_kinds, 1, 4) (yX5_kinds, cX5_kinds, 4, some .int, 5, 1, false) := ⟨rfl, rfl, by decide +kernel, by decide +kernel, by decide, by decide +kernel⟩
set_option maxRecDepth 100000 in
theorem nl_d65 : nl_okM (cd_X5_strengths, ct_X5_strengths, 1, 6) (yX5_strengths, cX5_strengths, 6, some .int, 5, 2, false) := ⟨rfl, rfl, by decide +kernel, by decide +kernel, by decide, by decide +kernel⟩
set_option maxRecDepth 100000 in
theorem nl_d66 : nl_okM (cd_X5_likely, ct_X5_likely, 1, 9) (yX5_likely, cX5_likely, 9, some .int, 5, 3, false) := ⟨rfl, rfl, by decide +kernel, by decide +kernel, by decide, by decide +kernel⟩
set_option maxRecDepth 100000 in
theorem nl_d67 : nl_okM (cd_X5_winter, ct_X5_winter, 1, 6) (yX5_winter, cX5_winter, 6, some .int, 5, 3, false) := ⟨rfl, rfl, by decide +kernel, by decide +kernel, by decide, by decide +kernel⟩
set_option maxRecDepth 100000 in
theorem nl_d68 : nl_okM (cd_X5_keep, ct_X5_keep, 1, 1) (yX5_keep, cX5_keep, 1, some .int, 5, 0, false) := ⟨rfl, rfl, by decide +kernel, by decide +kernel, by decide, by decide +kernel⟩
set_option maxRecDepth 100000 in
theorem nl_d69 : nl_okM (cd_X5_back, ct_X5_back, 1, 1) (yX5_back, cX5_back, 1, some .int, 5, 0, false) := ⟨rfl, rfl, by decide +kernel, by decide +kernel, by decide, by decide +kernel⟩
set_option maxRecDepth 100000 in
theorem nl_d70 : nl_okM (cd_X5_count, ct_X5_count, 1, 2) (yX5_count, cX5_count, 2, some .int, 5, 1, false) := ⟨rfl, rfl, by decide +kernel, by decide +kernel, by decide, by decide +kernel⟩
set_option maxRecDepth 100000 in
theorem nl_d71 : nl_okM (cd_X5_isWithin, ct_X5_isWithin, 3, 3) (yX5_isWithin, cX5_isWithin, 3, some .boolean, 5, 3, true) := ⟨rfl, rfl, by decide +kernel, by decide +kernel, by decide, by decide +kernel⟩
set_option maxRecDepth 100000 in
theorem nl_d72 : nl_okM (cd_X5_largestDivisor, ct_X5_largestDivisor, 1, 3) (yX5_largestDivisor, cX5_largestDivisor, 3, some .int, 5, 2, true) := ⟨rfl, rfl, by decide +kernel, by decide +kernel, by decide, by decide +kernel⟩
set_option maxRecDepth 100000 in
theorem nl_d73 : nl_okM (cd_X5_drawFor, ct_X5_drawFor, 1, 4) (yX5_drawFor, cX5_drawFor, 4, some .int, 5, 2, true) := ⟨rfl, rfl, by decide +kernel, by decide +kernel, by decide, by decide +kernel⟩
set_option maxRecDepth 100000 in
theorem nl_d74 : nl_okM (cd_X5_nextMissAhead, ct_X5_nextMissAhead, 1, 4) (yX5_nextMissAhead, cX5_nextMissAhead, 4, some .int, 5, 2, false) := ⟨rfl, rfl, by decide +kernel, by decide +kernel, by decide, by decide +kernel⟩
set_option maxRecDepth 100000 in
theorem nl_d75 : nl_okM (cd_X5_fitsAllSeen, ct_X5_fitsAllSeen, 3, 6) (yX5_fitsAllSeen, cX5_fitsAllSeen, 6, some .boolean, 5, 3, false) := ⟨rfl, rfl, by decide +kernel, by decide +kernel, by decide, by decide +kernel⟩
set_option maxRecDepth 100000 in
theorem nl_d76 : nl_okM (cd_X6_in, ct_X6_in, 3, 3) (yX6_in, cX6_in, 3, some .boolean, 6, 3, true) := ⟨rfl, rfl, by decide +kernel, by decide +kernel, by decide, by decide +kernel⟩
set_option maxRecDepth 100000 in
theorem nl_d77 : nl_okM (cd_X6_has, ct_X6_has, 3, 2) (yX6_has, cX6_has, 2, some .boolean, 6, 2, true) := ⟨rfl, rfl, by decide +kernel, by decide +kernel, by decide, by decide +kernel⟩
set_option maxRecDepth 100000 in
theorem nl_d78 : nl_okM (cd_X6_bits, ct_X6_bits, 1, 3) (yX6_bits, cX6_bits, 3, some .int, 6, 1, true) := ⟨rfl, rfl, by decide +kernel, by decide +kernel, by decide, by decide +kernel⟩
set_option maxRecDepth 100000 in
theorem nl_d79 : nl_okM (cd_X6_lesser, ct_X6_lesser, 1, 2) (yX6_lesser, cX6_lesser, 2, some .int, 6, 2, true) := ⟨rfl, rfl, by decide +kernel, by decide +kernel, by decide, by decide +kernel⟩
set_option maxRecDepth 100000 in
theorem nl_d80 : nl_okM (cd_X6_greater, ct_X6_greater, 1, 2) (yX6_greater, cX6_greater, 2, some .int, 6, 2, true) := ⟨rfl, rfl, by decide +kernel, by decide +kernel, by decide, by decide +kernel⟩
set_option maxRecDepth 100000 in
theorem nl_d81 : nl_okM (cd_X6_firstHouse, ct_X6_firstHouse, 0, 5) (yX6_firstHouse, cX6_firstHouse, 5, none, 6, 4, false) := ⟨rfl, rfl, by decide +kernel, by decide +kernel, by decide, by decide +kernel⟩
set_option maxRecDepth 100000 in
theorem nl_d82 : nl_okM (cd_X6_begin, ct_X6_begin, 0, 2) (yX6_begin, cX6_begin, 2, none, 6, 0, false) := ⟨rfl, rfl, by decide +kernel, by decide +kernel, by decide, by decide +kernel⟩
set_option maxRecDepth 100000 in
theorem nl_d83 : nl_okM (cd_X6_isOne, ct_X6_isOne, 3, 2) (yX6_isOne, cX6_isOne, 2, some .boolean, 6, 1, false) := ⟨rfl, rfl, by decide +kernel, by decide +kernel, by decide, by decide +kernel⟩
set_option maxRecDepth 100000 in
theorem nl_d84 : nl_okM (cd_X6_write, ct_X6_write, 1, 2) (yX6_write, cX6_write, 2, some .int, 6, 1, false) := ⟨rfl, rfl, by decide +kernel, by decide +kernel, by decide, by decide +kernel⟩
set_option maxRecDepth 100000 in
theorem nl_d85 : nl_okM (cd_X6_wipe, ct_X6_wipe, 1, 2) (yX6_wipe, cX6_wipe, 2, some .int, 6, 0, false) := ⟨rfl, rfl, by decide +kernel, by decide +kernel, by decide, by decide +kernel⟩
set_option maxRecDepth 100000 in
theorem nl_d86 : nl_okM (cd_X6_here, ct_X6_here, 1, 1) (yX6_here, cX6_here, 1, some .int, 6, 0, false) := ⟨rfl, rfl, by decide +kernel, by decide +kernel, by decide, by decide +kernel⟩
set_option maxRecDepth 100000 in
theorem nl_d87 : nl_okM (cd_X6_isFigure, ct_X6_isFigure, 3, 1) (yX6_isFigure, cX6_isFigure, 1, some .boolean, 6, 0, false) := ⟨rfl, rfl, by decide +kernel, by decide +kernel, by decide, by decide +kernel⟩
set_option maxRecDepth 100000 in
theorem nl_d88 : nl_okM (cd_X6_number, ct_X6_number, 3, 5) (yX6_number, cX6_number, 5, some .boolean, 6, 3, false) := ⟨rfl, rfl, by decide +kernel, by decide +kernel, by decide, by decide +kernel⟩
set_option maxRecDepth 100000 in
theorem nl_d89 : nl_okM (cd_X6_readsHour, ct_X6_readsHour, 3, 1) (yX6_readsHour, cX6_readsHour, 1, some .boolean, 6, 0, false) := ⟨rfl, rfl, by decide +kernel, by decide +kernel, by decide, by decide +kernel⟩
set_option maxRecDepth 100000 in
theorem nl_d90 : nl_okM (cd_X6_readsHouse, ct_X6_readsHouse, 3, 2) (yX6_readsHouse, cX6_readsHouse, 2, some .boolean, 6, 0, false) := ⟨rfl, rfl, by decide +kernel, by decide +kernel, by decide, by decide +kernel⟩
set_option maxRecDepth 100000 in
theorem nl_d91 : nl_okM (cd_X6_readsItem, ct_X6_readsItem, 3, 2) (yX6_readsItem, cX6_readsItem, 2, some .boolean, 6, 0, false) := ⟨rfl, rfl, by decide +kernel, by decide +kernel, by decide, by decide +kernel⟩
set_option maxRecDepth 100000 in
theorem nl_d92 : nl_okM (cd_X6_fault, ct_X6_fault, 1, 2) (yX6_fault, cX6_fault, 2, some .int, 6, 0, false) := ⟨rfl, rfl, by decide +kernel, by decide +kernel, by decide, by decide +kernel⟩
set_option maxRecDepth 100000 in
theorem nl_d93 : nl_okM (cd_X6_lay, ct_X6_lay, 1, 2) (yX6_lay, cX6_lay, 2, some .int, 6, 0, false) := ⟨rfl, rfl, by decide +kernel, by decide +kernel, by decide, by decide +kernel⟩
set_option maxRecDepth 100000 in
theorem nl_d94 : nl_okM (cd_X6_mostOften, ct_X6_mostOften, 1, 6) (yX6_mostOften, cX6_mostOften, 6, some .int, 6, 1, false) := ⟨rfl, rfl, by decide +kernel, by decide +kernel, by decide, by decide +kernel⟩
set_option maxRecDepth 100000 in
theorem nl_d95 : nl_okM (cd_X6_weight, ct_X6_weight, 1, 4) (yX6_weight, cX6_weight, 4, some .int, 6, 2, false) := ⟨rfl, rfl, by decide +kernel, by decide +kernel, by decide, by decide +kernel⟩
set_option maxRecDepth 100000 in
theorem nl_d96 : nl_okM (cd_X6_keeps, ct_X6_keeps, 3, 3) (yX6_keeps, cX6_keeps, 3, some .boolean, 6, 2, false) := ⟨rfl, rfl, by decide +kernel, by decide +kernel, by decide, by decide +kernel⟩
set_option maxRecDepth 100000 in
theorem nl_d97 : nl_okM (cd_X6_gapSet, ct_X6_gapSet, 1, 3) (yX6_gapSet, cX6_gapSet, 3, some .int, 6, 0, false) := ⟨rfl, rfl, by decide +kernel, by decide +kernel, by decide, by decide +kernel⟩
set_option maxRecDepth 100000 in
theorem nl_d98 : nl_okM (cd_X6_passes, ct_X6_passes, 1, 4) (yX6_passes, cX6_passes, 4, some .int, 6, 0, false) := ⟨rfl, rfl, by decide +kernel, by decide +kernel, by decide, by decide +kernel⟩
set_option maxRecDepth 100000 in
theorem nl_d99 : nl_okM (cd_X6_goesOn, ct_X6_goesOn, 1, 4) (yX6_goesOn, cX6_goesOn, 4, some .int, 6, 1, false) := ⟨rfl, rfl, by decide +kernel, by decide +kernel, by decide, by decide +kernel⟩
set_option maxRecDepth 100000 in
theorem nl_d100 : nl_okM (cd_X6_house, ct_X6_house, 1, 3) (yX6_house, cX6_house, 3, some .int, 6, 2, false) := ⟨rfl, rfl, by decide +kernel, by decide +kernel, by decide, by decide +kernel⟩
set_option maxRecDepth 100000 in
theorem nl_d101 : nl_okM (cd_X6_whoHas, ct_X6_whoHas, 1, 3) (yX6_whoHas, cX6_whoHas, 3, some .int, 6, 1, false) := ⟨rfl, rfl, by decide +kernel, by decide +kernel, by decide, by decide +kernel⟩
set_option maxRecDepth 100000 in
theorem nl_d102 : nl_okM (cd_X6_hour, ct_X6_hour, 1, 3) (yX6_hour, cX6_hour, 3, some .int, 6, 2, false) := ⟨rfl, rfl, by decide +kernel, by decide +kernel, by decide, by decide +kernel⟩
set_option maxRecDepth 100000 in
theorem nl_d103 : nl_okM (cd_X6_heavy, ct_X6_heavy, 1, 3) (yX6_heavy, cX6_heavy, 3, some .int, 6, 2, false) := ⟨rfl, rfl, by decide +kernel, by decide +kernel, by decide, by decide +kernel⟩
set_option maxRecDepth 100000 in
theorem nl_d104 : nl_okM (cd_X6_had, ct_X6_had, 1, 3) (yX6_had, cX6_had, 3, some .int, 6, 2, false) := ⟨rfl, rfl, by decide +kernel, by decide +kernel, by decide, by decide +kernel⟩
set_option maxRecDepth 100000 in
theorem nl_d105 : nl_okM (cd_X6_lays, ct_X6_lays, 0, 4) (yX6_lays, cX6_lays, 4, none, 6, 2, false) := ⟨rfl, rfl, by decide +kernel, by decide +kernel, by decide, by decide +kernel⟩
set_option maxRecDepth 100000 in
theorem nl_d106 : nl_okM (cd_X6_takes, ct_X6_takes, 0, 4) (yX6_takes, cX6_takes, 4, none, 6, 2, false) := ⟨rfl, rfl, by decide +kernel, by decide +kernel, by decide, by decide +kernel⟩
set_option maxRecDepth 100000 in
theorem nl_d107 : nl_okM (cd_X6_notes, ct_X6_notes, 0, 2) (yX6_notes, cX6_notes, 2, none, 6, 0, false) := ⟨rfl, rfl, by decide +kernel, by decide +kernel, by decide, by decide +kernel⟩
set_option maxRecDepth 100000 in
theorem nl_d108 : nl_okM (cd_X6_pass, ct_X6_pass, 1, 2) (yX6_pass, cX6_pass, 2, some .int, 6, 1, false) := ⟨rfl, rfl, by decide +kernel, by decide +kernel, by decide, by decide +kernel⟩
set_option maxRecDepth 100000 in
theorem nl_d109 : nl_okM (cd_X6_trades, ct_X6_trades, 0, 4) (yX6_trades, cX6_trades, 4, none, 6, 2, false) := ⟨rfl, rfl, by decide +kernel, by decide +kernel, by decide, by decide +kernel⟩
set_option maxRecDepth 100000 in
theorem nl_d110 : nl_okM (cd_X6_swap, ct_X6_swap, 1, 3) (yX6_swap, cX6_swap, 3, some .int, 6, 2, false) := ⟨rfl, rfl, by decide +kernel, by decide +kernel, by decide, by decide +kernel⟩
set_option maxRecDepth 100000 in
theorem nl_d111 : nl_okM (cd_X6_rests, ct_X6_rests, 0, 2) (yX6_rests, cX6_rests, 2, none, 6, 1, false) := ⟨rfl, rfl, by decide +kernel, by decide +kernel, by decide, by decide +kernel⟩
set_option maxRecDepth 100000 in
theorem nl_d112 : nl_okM (cd_X6_rest, ct_X6_rest, 1, 2) (yX6_rest, cX6_rest, 2, some .int, 6, 1, false) := ⟨rfl, rfl, by decide +kernel, by decide +kernel, by decide, by decide +kernel⟩
set_option maxRecDepth 100000 in
theorem nl_d113 : nl_okM (cd_X6_burden, ct_X6_burden, 1, 4) (yX6_burden, cX6_burden, 4, some .int, 6, 2, false) := ⟨rfl, rfl, by decide +kernel, by decide +kernel, by decide, by decide +kernel⟩
set_option maxRecDepth 100000 in
theorem nl_d114 : nl_okM (cd_X6_undo, ct_X6_undo, 1, 1) (yX6_undo, cX6_undo, 1, some .int, 6, 0, false) := ⟨rfl, rfl, by decide +kernel, by decide +kernel, by decide, by decide +kernel⟩
set_option maxRecDepth 100000 in
theorem nl_d115 : nl_okM (cd_X6_start, ct_X6_start, 0, 1) (yX6_start, cX6_start, 1, none, 6, 0, false) := ⟨rfl, rfl, by decide +kernel, by decide +kernel, by decide, by decide +kernel⟩
set_option maxRecDepth 100000 in
theorem nl_d116 : nl_okM (cd_X6_putBack, ct_X6_putBack, 0, 1) (yX6_putBack, cX6_putBack, 1, none, 6, 0, false) := ⟨rfl, rfl, by decide +kernel, by decide +kernel, by decide, by decide +kernel⟩
set_option maxRecDepth 100000 in
theorem nl_d117 : nl_okM (cd_X6_behind, ct_X6_behind, 1, 5) (yX6_behind, cX6_behind, 5, some .int, 6, 3, false) := ⟨rfl, rfl, by decide +kernel, by decide +kernel, by decide, by decide +kernel⟩
set_option maxRecDepth 100000 in
theorem nl_d118 : nl_okM (cd_X6_gaps, ct_X6_gaps, 1, 1) (yX6_gaps, cX6_gaps, 1, some .int, 6, 0, false) := ⟨rfl, rfl, by decide +kernel, by decide +kernel, by decide, by decide +kernel⟩
set_option maxRecDepth 100000 in
theorem nl_d119 : nl_okM (cd_X6_first, ct_X6_first, 1, 5) (yX6_first, cX6_first, 5, some .int, 6, 1, false) := ⟨rfl, rfl, by decide +kernel, by decide +kernel, by decide, by decide +kernel⟩
set_option maxRecDepth 100000 in
theorem nl_d120 : nl_okM (cd_X6_firstRow, ct_X6_firstRow, 0, 2) (yX6_firstRow, cX6_firstRow, 2, none, 6, 0, false) := ⟨rfl, rfl, by decide +kernel, by decide +kernel, by decide, by decide +kernel⟩
set_option maxRecDepth 100000 in
theorem nl_d121 : nl_okM (cd_X6_nextRow, ct_X6_nextRow, 3, 7) (yX6_nextRow, cX6_nextRow, 7, some .boolean, 6, 0, false) := ⟨rfl, rfl, by decide +kernel, by decide +kernel, by decide, by decide +kernel⟩
set_option maxRecDepth 100000 in
theorem nl_d122 : nl_okM (cd_X6_gapsBy, ct_X6_gapsBy, 1, 3) (yX6_gapsBy, cX6_gapsBy, 3, some .int, 6, 0, false) := ⟨rfl, rfl, by decide +kernel, by decide +kernel, by decide, by decide +kernel⟩
set_option maxRecDepth 100000 in
theorem nl_d123 : nl_okM (cd_X6_keptWeight, ct_X6_keptWeight, 1, 3) (yX6_keptWeight, cX6_keptWeight, 3, some .int, 6, 0, false) := ⟨rfl, rfl, by decide +kernel, by decide +kernel, by decide, by decide +kernel⟩
set_option maxRecDepth 100000 in
theorem nl_d124 : nl_okM (cd_X6_even, ct_X6_even, 1, 8) (yX6_even, cX6_even, 8, some .int, 6, 1, false) := ⟨rfl, rfl, by decide +kernel, by decide +kernel, by decide, by decide +kernel⟩
set_option maxRecDepth 100000 in
theorem nl_d125 : nl_okM (cd_X6_swapsTo, ct_X6_swapsTo, 1, 5) (yX6_swapsTo, cX6_swapsTo, 5, some .int, 6, 0, false) := ⟨rfl, rfl, by decide +kernel, by decide +kernel, by decide, by decide +kernel⟩
set_option maxRecDepth 100000 in
theorem nl_d126 : nl_okM (cd_X6_swaps, ct_X6_swaps, 1, 3) (yX6_swaps, cX6_swaps, 3, some .int, 6, 0, false) := ⟨rfl, rfl, by decide +kernel, by decide +kernel, by decide, by decide +kernel⟩
set_option maxRecDepth 100000 in
theorem nl_d127 : nl_okM (cd_X6_off, ct_X6_off, 1, 2) (yX6_off, cX6_off, 2, some .int, 6, 2, true) := ⟨rfl, rfl, by decide +kernel, by decide +kernel, by decide, by decide +kernel⟩
set_option maxRecDepth 100000 in
theorem nl_d128 : nl_okM (cd_X6_far, ct_X6_far, 1, 6) (yX6_far, cX6_far, 6, some .int, 6, 1, false) := ⟨rfl, rfl, by decide +kernel, by decide +kernel, by decide, by decide +kernel⟩
set_option maxRecDepth 100000 in
theorem nl_d129 : nl_okM (cd_X6_lamps, ct_X6_lamps, 1, 7) (yX6_lamps, cX6_lamps, 7, some .int, 6, 2, false) := ⟨rfl, rfl, by decide +kernel, by decide +kernel, by decide, by decide +kernel⟩
set_option maxRecDepth 100000 in
theorem nl_d130 : nl_okM (cd_X6_seen, ct_X6_seen, 1, 4) (yX6_seen, cX6_seen, 4, some .int, 6, 3, false) := ⟨rfl, rfl, by decide +kernel, by decide +kernel, by decide, by decide +kernel⟩
set_option maxRecDepth 100000 in
theorem nl_d131 : nl_okM (cd_X6_forget, ct_X6_forget, 1, 2) (yX6_forget, cX6_forget, 2, some .int, 6, 0, false) := ⟨rfl, rfl, by decide +kernel, by decide +kernel, by decide, by decide +kernel⟩
set_option maxRecDepth 100000 in
theorem nl_d132 : nl_okM (cd_X6_isSo, ct_X6_isSo, 3, 5) (yX6_isSo, cX6_isSo, 5, some .boolean, 6, 0, false) := ⟨rfl, rfl, by decide +kernel, by decide +kernel, by decide, by decide +kernel⟩
set_option maxRecDepth 100000 in
theorem nl_d133 : nl_okM (cd_X6_kinds, ct_X6_kinds, 1, 5) (yX6_kinds, cX6_kinds, 5, some .int, 6, 1, false) := ⟨rfl, rfl, by decide +kernel, by decide +kernel, by decide, by decide +kernel⟩
set_option maxRecDepth 100000 in
theorem nl_d134 : nl_okM (cd_X6_strengths, ct_X6_strengths, 1, 8) (yX6_strengths, cX6_strengths, 8, some .int, 6, 2, false) := ⟨rfl, rfl, by decide +kernel, by decide +kernel, by decide, by decide +kernel⟩
set_option maxRecDepth 100000 in
theorem nl_d135 : nl_okM (cd_X6_common, ct_X6_common, 2, 10) (yX6_common, cX6_common, 10, some .long, 6, 2, true) := ⟨rfl, rfl, by decide +kernel, by decide +kernel, by decide, by decide +kernel⟩
set_option maxRecDepth 100000 in
theorem nl_d136 : nl_okM (cd_X6_likely, ct_X6_likely, 1, 11) (yX6_likely, cX6_likely, 11, some .int, 6, 3, false) := ⟨rfl, rfl, by decide +kernel, by decide +kernel, by decide, by decide +kernel⟩
set_option maxRecDepth 100000 in
theorem nl_d137 : nl_okM (cd_X6_tiredAll, ct_X6_tiredAll, 1, 3) (yX6_tiredAll, cX6_tiredAll, 3, some .int, 6, 0, false) := ⟨rfl, rfl, by decide +kernel, by decide +kernel, by decide, by decide +kernel⟩
set_option maxRecDepth 100000 in
theorem nl_d138 : nl_okM (cd_X6_winter, ct_X6_winter, 1, 12) (yX6_winter, cX6_winter, 12, some .int, 6, 3, false) := ⟨rfl, rfl, by decide +kernel, by decide +kernel, by decide, by decide +kernel⟩
set_option maxRecDepth 100000 in
theorem nl_d139 : nl_okM (cd_X6_keep, ct_X6_keep, 1, 1) (yX6_keep, cX6_keep, 1, some .int, 6, 0, false) := ⟨rfl, rfl, by decide +kernel, by decide +kernel, by decide, by decide +kernel⟩
set_option maxRecDepth 100000 in
theorem nl_d140 : nl_okM (cd_X6_back, ct_X6_back, 1, 1) (yX6_back, cX6_back, 1, some .int, 6, 0, false) := ⟨rfl, rfl, by decide +kernel, by decide +kernel, by decide, by decide +kernel⟩
set_option maxRecDepth 100000 in
theorem nl_d141 : nl_okM (cd_X6_count, ct_X6_count, 1, 2) (yX6_count, cX6_count, 2, some .int, 6, 1, false) := ⟨rfl, rfl, by decide +kernel, by decide +kernel, by decide, by decide +kernel⟩
set_option maxRecDepth 100000 in
theorem nl_d142 : nl_okM (cd_J6_bitCount_0f7a4, ct_J6_bitCount_0f7a4, 1, 1) (yJ6_bitCount_0f7a4, cJ6_bitCount_0f7a4, 1, some .int, 8, 1, true) := ⟨rfl, rfl, by decide +kernel, by decide +kernel, by decide, by decide +kernel⟩
theorem nl_dc0 : ∀ q ∈ ([((cd_X0_choose, ct_X0_choose, 0, 4), (yX0_choose, cX0_choose, 4, none, 0, 1, false)), ((cd_X0_weigh, ct_X0_weigh, 0, 5), (yX0_weigh, cX0_weigh, 5, none, 0, 1, false)), ((cd_X0_leastOf, ct_X0_leastOf, 1, 6), (yX0_leastOf, cX0_leastOf, 6, some .int, 0, 2, false)), ((cd_X0_priceWith, ct_X0_priceWith, 1, 4), (yX0_priceWith, cX0_priceWith, 4, some .int, 0, 3, false)), ((cd_X0_dealOut, ct_X0_dealOut, 0, 5), (yX0_dealOut, cX0_dealOut, 5, none, 0, 1, false)), ((cd_X0_lowestOfLeast, ct_X0_lowestOfLeast, 1, 5), (yX0_lowestOfLeast, cX0_lowestOfLeast, 5, some .int, 0, 3, false)), ((cd_X0_fewestSwaps, ct_X0_fewestSwaps, 1, 3), (yX0_fewestSwaps, cX0_fewestSwaps, 3, some .int, 0, 1, false)), ((cd_X0_canBridge, ct_X0_canBridge, 3, 8), (yX0_canBridge, cX0_canBridge, 8, some .boolean, 0, 5, true)), ((cd_X0_exchange, ct_X0_exchange, 0, 4), (yX0_exchange, cX0_exchange, 4, none, 0, 3, true)), ((cd_X1_read, ct_X1_read, 0, 5), (yX1_read, cX1_read, 5, none, 1, 2, false)), ((cd_X1_canBeLaid, ct_X1_canBeLaid, 3, 1), (yX1_canBeLaid, cX1_canBeLaid, 1, some .boolean, 1, 0, false)), ((cd_X1_readItem, ct_X1_readItem, 1, 10), (yX1_readItem, cX1_readItem, 10, some .int, 1, 3, false)), ((cd_X1_readNumber, ct_X1_readNumber, 1, 7), (yX1_readNumber, cX1_readNumber, 7, some .int, 1, 4, false)), ((cd_X1_addHour, ct_X1_addHour, 3, 1), (yX1_addHour, cX1_addHour, 1, some .boolean, 1, 0, false)), ((cd_X1_addHouse, ct_X1_addHouse, 3, 1), (yX1_addHouse, cX1_addHouse, 1, some .boolean, 1, 0, false)), ((cd_X2_clear, ct_X2_clear, 0, 1), (yX2_clear, cX2_clear, 1, none, 2, 0, false))] : List (nl_M × nl_I)), nl_okM q.1 q.2 := List.forall_mem_cons.mpr ⟨nl_d0, List.forall_mem_cons.mpr ⟨nl_d1, List.forall_mem_cons.mpr ⟨nl_d2, List.forall_mem_cons.mpr ⟨nl_d3, List.forall_mem_cons.mpr ⟨nl_d4, List.forall_mem_cons.mpr ⟨nl_d5, List.forall_mem_cons.mpr ⟨nl_d6, List.forall_mem_cons.mpr ⟨nl_d7, List.forall_mem_cons.mpr ⟨nl_d8, List.forall_mem_cons.mpr ⟨nl_d9, List.forall_mem_cons.mpr ⟨nl_d10, List.forall_mem_cons.mpr ⟨nl_d11, List.forall_mem_cons.mpr ⟨nl_d12, List.forall_mem_cons.mpr ⟨nl_d13, List.forall_mem_cons.mpr ⟨nl_d14, List.forall_mem_cons.mpr ⟨nl_d15, fun _ h => absurd h List.not_mem_nil⟩⟩⟩⟩⟩⟩⟩⟩⟩⟩⟩⟩⟩⟩⟩⟩
theorem nl_dc1 : ∀ q ∈ ([((cd_X2_put, ct_X2_put, 0, 2), (yX2_put, cX2_put, 2, none, 2, 1, false)), ((cd_X2_dropOldest, ct_X2_dropOldest, 0, 3), (yX2_dropOldest, cX2_dropOldest, 3, none, 2, 0, false)), ((cd_X2_takeInto, ct_X2_takeInto, 3, 2), (yX2_takeInto, cX2_takeInto, 2, some .boolean, 2, 1, false)), ((cd_X3_clear, ct_X3_clear, 0, 1), (yX3_clear, cX3_clear, 1, none, 3, 0, false)), ((cd_X3_add, ct_X3_add, 0, 4), (yX3_add, cX3_add, 4, none, 3, 3, false)), ((cd_X3_lastNight, ct_X3_lastNight, 1, 3), (yX3_lastNight, cX3_lastNight, 3, some .int, 3, 0, false)), ((cd_X3_fit, ct_X3_fit, 3, 4), (yX3_fit, cX3_fit, 4, some .boolean, 3, 2, false)), ((cd_X4_settle, ct_X4_settle, 0, 3), (yX4_settle, cX4_settle, 3, none, 4, 1, false)), ((cd_X4_copyFrom, ct_X4_copyFrom, 0, 3), (yX4_copyFrom, cX4_copyFrom, 3, none, 4, 1, false)), ((cd_X4_isHouse, ct_X4_isHouse, 3, 2), (yX4_isHouse, cX4_isHouse, 2, some .boolean, 4, 1, false)), ((cd_X4_isHour, ct_X4_isHour, 3, 2), (yX4_isHour, cX4_isHour, 2, some .boolean, 4, 1, false)), ((cd_X4_houseWith, ct_X4_houseWith, 1, 3), (yX4_houseWith, cX4_houseWith, 3, some .int, 4, 1, false)), ((cd_X4_timesHad, ct_X4_timesHad, 1, 3), (yX4_timesHad, cX4_timesHad, 3, some .int, 4, 2, false)), ((cd_X4_heaviness, ct_X4_heaviness, 1, 4), (yX4_heaviness, cX4_heaviness, 4, some .int, 4, 2, false)), ((cd_X4_hourHadMost, ct_X4_hourHadMost, 1, 6), (yX4_hourHadMost, cX4_hourHadMost, 6, some .int, 4, 1, false)), ((cd_X4_wouldKeep, ct_X4_wouldKeep, 3, 4), (yX4_wouldKeep, cX4_wouldKeep, 4, some .boolean, 4, 3, false))] : List (nl_M × nl_I)), nl_okM q.1 q.2 := List.forall_mem_cons.mpr ⟨nl_d16, List.forall_mem_cons.mpr ⟨nl_d17, List.forall_mem_cons.mpr ⟨nl_d18, List.forall_mem_cons.mpr ⟨nl_d19, List.forall_mem_cons.mpr ⟨nl_d20, List.forall_mem_cons.mpr ⟨nl_d21, List.forall_mem_cons.mpr ⟨nl_d22, List.forall_mem_cons.mpr ⟨nl_d23, List.forall_mem_cons.mpr ⟨nl_d24, List.forall_mem_cons.mpr ⟨nl_d25, List.forall_mem_cons.mpr ⟨nl_d26, List.forall_mem_cons.mpr ⟨nl_d27, List.forall_mem_cons.mpr ⟨nl_d28, List.forall_mem_cons.mpr ⟨nl_d29, List.forall_mem_cons.mpr ⟨nl_d30, List.forall_mem_cons.mpr ⟨nl_d31, fun _ h => absurd h List.not_mem_nil⟩⟩⟩⟩⟩⟩⟩⟩⟩⟩⟩⟩⟩⟩⟩⟩
theorem nl_dc2 : ∀ q ∈ ([((cd_X4_isGapAt, ct_X4_isGapAt, 3, 3), (yX4_isGapAt, cX4_isGapAt, 3, some .boolean, 4, 1, false)), ((cd_X4_seeThrough, ct_X4_seeThrough, 3, 4), (yX4_seeThrough, cX4_seeThrough, 4, some .boolean, 4, 1, false)), ((cd_X4_letNightsPass, ct_X4_letNightsPass, 1, 5), (yX4_letNightsPass, cX4_letNightsPass, 5, some .int, 4, 1, false)), ((cd_X4_trade, ct_X4_trade, 0, 4), (yX4_trade, cX4_trade, 4, none, 4, 2, false)), ((cd_X4_giveRest, ct_X4_giveRest, 0, 2), (yX4_giveRest, cX4_giveRest, 2, none, 4, 1, false)), ((cd_X4_setBurden, ct_X4_setBurden, 0, 3), (yX4_setBurden, cX4_setBurden, 3, none, 4, 2, false)), ((cd_X4_tiredTogether, ct_X4_tiredTogether, 1, 3), (yX4_tiredTogether, cX4_tiredTogether, 3, some .int, 4, 0, false)), ((cd_X4_handingOver, ct_X4_handingOver, 1, 5), (yX4_handingOver, cX4_handingOver, 5, some .int, 4, 0, false)), ((cd_X4_lengthOfRoad, ct_X4_lengthOfRoad, 1, 4), (yX4_lengthOfRoad, cX4_lengthOfRoad, 4, some .int, 4, 0, false)), ((cd_X4_stir, ct_X4_stir, 0, 4), (yX4_stir, cX4_stir, 4, none, 4, 1, false)), ((cd_X5_write, ct_X5_write, 1, 2), (yX5_write, cX5_write, 2, some .int, 5, 1, false)), ((cd_X5_wipe, ct_X5_wipe, 1, 2), (yX5_wipe, cX5_wipe, 2, some .int, 5, 0, false)), ((cd_X5_fault, ct_X5_fault, 1, 1), (yX5_fault, cX5_fault, 1, some .int, 5, 0, false)), ((cd_X5_lay, ct_X5_lay, 1, 1), (yX5_lay, cX5_lay, 1, some .int, 5, 0, false)), ((cd_X5_house, ct_X5_house, 1, 3), (yX5_house, cX5_house, 3, some .int, 5, 2, false)), ((cd_X5_hour, ct_X5_hour, 1, 3), (yX5_hour, cX5_hour, 3, some .int, 5, 2, false))] : List (nl_M × nl_I)), nl_okM q.1 q.2 := List.forall_mem_cons.mpr ⟨nl_d32, List.forall_mem_cons.mpr ⟨nl_d33, List.forall_mem_cons.mpr ⟨nl_d34, List.forall_mem_cons.mpr ⟨nl_d35, List.forall_mem_cons.mpr ⟨nl_d36, List.forall_mem_cons.mpr ⟨nl_d37, List.forall_mem_cons.mpr ⟨nl_d38, List.forall_mem_cons.mpr ⟨nl_d39, List.forall_mem_cons.mpr ⟨nl_d40, List.forall_mem_cons.mpr ⟨nl_d41, List.forall_mem_cons.mpr ⟨nl_d42, List.forall_mem_cons.mpr ⟨nl_d43, List.forall_mem_cons.mpr ⟨nl_d44, List.forall_mem_cons.mpr ⟨nl_d45, List.forall_mem_cons.mpr ⟨nl_d46, List.forall_mem_cons.mpr ⟨nl_d47, fun _ h => absurd h List.not_mem_nil⟩⟩⟩⟩⟩⟩⟩⟩⟩⟩⟩⟩⟩⟩⟩⟩
theorem nl_dc3 : ∀ q ∈ ([((cd_X5_heavy, ct_X5_heavy, 1, 3), (yX5_heavy, cX5_heavy, 3, some .int, 5, 2, false)), ((cd_X5_had, ct_X5_had, 1, 3), (yX5_had, cX5_had, 3, some .int, 5, 2, false)), ((cd_X5_pass, ct_X5_pass, 1, 2), (yX5_pass, cX5_pass, 2, some .int, 5, 1, false)), ((cd_X5_swap, ct_X5_swap, 1, 3), (yX5_swap, cX5_swap, 3, some .int, 5, 2, false)), ((cd_X5_rest, ct_X5_rest, 1, 2), (yX5_rest, cX5_rest, 2, some .int, 5, 1, false)), ((cd_X5_burden, ct_X5_burden, 1, 4), (yX5_burden, cX5_burden, 4, some .int, 5, 2, false)), ((cd_X5_undo, ct_X5_undo, 1, 1), (yX5_undo, cX5_undo, 1, some .int, 5, 0, false)), ((cd_X5_behind, ct_X5_behind, 1, 4), (yX5_behind, cX5_behind, 4, some .int, 5, 3, false)), ((cd_X5_gaps, ct_X5_gaps, 1, 3), (yX5_gaps, cX5_gaps, 3, some .int, 5, 0, false)), ((cd_X5_first, ct_X5_first, 1, 3), (yX5_first, cX5_first, 3, some .int, 5, 1, false)), ((cd_X5_even, ct_X5_even, 1, 2), (yX5_even, cX5_even, 2, some .int, 5, 1, false)), ((cd_X5_swaps, ct_X5_swaps, 1, 1), (yX5_swaps, cX5_swaps, 1, some .int, 5, 0, false)), ((cd_X5_far, ct_X5_far, 1, 2), (yX5_far, cX5_far, 2, some .int, 5, 1, false)), ((cd_X5_lamps, ct_X5_lamps, 1, 5), (yX5_lamps, cX5_lamps, 5, some .int, 5, 2, false)), ((cd_X5_seen, ct_X5_seen, 1, 4), (yX5_seen, cX5_seen, 4, some .int, 5, 3, false)), ((cd_X5_forget, ct_X5_forget, 1, 2), (yX5_forget, cX5_forget, 2, some .int, 5, 0, false))] : List (nl_M × nl_I)), nl_okM q.1 q.2 := List.forall_mem_cons.mpr ⟨nl_d48, List.forall_mem_cons.mpr ⟨nl_d49, List.forall_mem_cons.mpr ⟨nl_d50, List.forall_mem_cons.mpr ⟨nl_d51, List.forall_mem_cons.mpr ⟨nl_d52, List.forall_mem_cons.mpr ⟨nl_d53, List.forall_mem_cons.mpr ⟨nl_d54, List.forall_mem_cons.mpr ⟨nl_d55, List.forall_mem_cons.mpr ⟨nl_d56, List.forall_mem_cons.mpr ⟨nl_d57, List.forall_mem_cons.mpr ⟨nl_d58, List.forall_mem_cons.mpr ⟨nl_d59, List.forall_mem_cons.mpr ⟨nl_d60, List.forall_mem_cons.mpr ⟨nl_d61, List.forall_mem_cons.mpr ⟨nl_d62, List.forall_mem_cons.mpr ⟨nl_d63, fun _ h => absurd h List.not_mem_nil⟩⟩⟩⟩⟩⟩⟩⟩⟩⟩⟩⟩⟩⟩⟩⟩
theorem nl_dc4 : ∀ q ∈ ([((cd_X5_kinds, ct_X5_kinds, 1, 4), (yX5_kinds, cX5_kinds, 4, some .int, 5, 1, false)), ((cd_X5_strengths, ct_X5_strengths, 1, 6), (yX5_strengths, cX5_strengths, 6, some .int, 5, 2, false)), ((cd_X5_likely, ct_X5_likely, 1, 9), (yX5_likely, cX5_likely, 9, some .int, 5, 3, false)), ((cd_X5_winter, ct_X5_winter, 1, 6), (yX5_winter, cX5_winter, 6, some .int, 5, 3, false)), ((cd_X5_keep, ct_X5_keep, 1, 1), (yX5_keep, cX5_keep, 1, some .int, 5, 0, false)), ((cd_X5_back, ct_X5_back, 1, 1), (yX5_back, cX5_back, 1, some .int, 5, 0, false)), ((cd_X5_count, ct_X5_count, 1, 2), (yX5_count, cX5_count, 2, some .int, 5, 1, false)), ((cd_X5_isWithin, ct_X5_isWithin, 3, 3), (yX5_isWithin, cX5_isWithin, 3, some .boolean, 5, 3, true)), ((cd_X5_largestDivisor, ct_X5_largestDivisor, 1, 3), (yX5_largestDivisor, cX5_largestDivisor, 3, some .int, 5, 2, true)), ((cd_X5_drawFor, ct_X5_drawFor, 1, 4), (yX5_drawFor, cX5_drawFor, 4, some .int, 5, 2, true)), ((cd_X5_nextMissAhead, ct_X5_nextMissAhead, 1, 4), (yX5_nextMissAhead, cX5_nextMissAhead, 4, some .int, 5, 2, false)), ((cd_X5_fitsAllSeen, ct_X5_fitsAllSeen, 3, 6), (yX5_fitsAllSeen, cX5_fitsAllSeen, 6, some .boolean, 5, 3, false)), ((cd_X6_in, ct_X6_in, 3, 3), (yX6_in, cX6_in, 3, some .boolean, 6, 3, true)), ((cd_X6_has, ct_X6_has, 3, 2), (yX6_has, cX6_has, 2, some .boolean, 6, 2, true)), ((cd_X6_bits, ct_X6_bits, 1, 3), (yX6_bits, cX6_bits, 3, some .int, 6, 1, true)), ((cd_X6_lesser, ct_X6_lesser, 1, 2), (yX6_lesser, cX6_lesser, 2, some .int, 6, 2, true))] : List (nl_M × nl_I)), nl_okM q.1 q.2 := List.forall_mem_cons.mpr ⟨nl_d64, List.forall_mem_cons.mpr ⟨nl_d65, List.forall_mem_cons.mpr ⟨nl_d66, List.forall_mem_cons.mpr ⟨nl_d67, List.forall_mem_cons.mpr ⟨nl_d68, List.forall_mem_cons.mpr ⟨nl_d69, List.forall_mem_cons.mpr ⟨nl_d70, List.forall_mem_cons.mpr ⟨nl_d71, List.forall_mem_cons.mpr ⟨nl_d72, List.forall_mem_cons.mpr ⟨nl_d73, List.forall_mem_cons.mpr ⟨nl_d74, List.forall_mem_cons.mpr ⟨nl_d75, List.forall_mem_cons.mpr ⟨nl_d76, List.forall_mem_cons.mpr ⟨nl_d77, List.forall_mem_cons.mpr ⟨nl_d78, List.forall_mem_cons.mpr ⟨nl_d79, fun _ h => absurd h List.not_mem_nil⟩⟩⟩⟩⟩⟩⟩⟩⟩⟩⟩⟩⟩⟩⟩⟩
theorem nl_dc5 : ∀ q ∈ ([((cd_X6_greater, ct_X6_greater, 1, 2), (yX6_greater, cX6_greater, 2, some .int, 6, 2, true)), ((cd_X6_firstHouse, ct_X6_firstHouse, 0, 5), (yX6_firstHouse, cX6_firstHouse, 5, none, 6, 4, false)), ((cd_X6_begin, ct_X6_begin, 0, 2), (yX6_begin, cX6_begin, 2, none, 6, 0, false)), ((cd_X6_isOne, ct_X6_isOne, 3, 2), (yX6_isOne, cX6_isOne, 2, some .boolean, 6, 1, false)), ((cd_X6_write, ct_X6_write, 1, 2), (yX6_write, cX6_write, 2, some .int, 6, 1, false)), ((cd_X6_wipe, ct_X6_wipe, 1, 2), (yX6_wipe, cX6_wipe, 2, some .int, 6, 0, false)), ((cd_X6_here, ct_X6_here, 1, 1), (yX6_here, cX6_here, 1, some .int, 6, 0, false)), ((cd_X6_isFigure, ct_X6_isFigure, 3, 1), (yX6_isFigure, cX6_isFigure, 1, some .boolean, 6, 0, false)), ((cd_X6_number, ct_X6_number, 3, 5), (yX6_number, cX6_number, 5, some .boolean, 6, 3, false)), ((cd_X6_readsHour, ct_X6_readsHour, 3, 1), (yX6_readsHour, cX6_readsHour, 1, some .boolean, 6, 0, false)), ((cd_X6_readsHouse, ct_X6_readsHouse, 3, 2), (yX6_readsHouse, cX6_readsHouse, 2, some .boolean, 6, 0, false)), ((cd_X6_readsItem, ct_X6_readsItem, 3, 2), (yX6_readsItem, cX6_readsItem, 2, some .boolean, 6, 0, false)), ((cd_X6_fault, ct_X6_fault, 1, 2), (yX6_fault, cX6_fault, 2, some .int, 6, 0, false)), ((cd_X6_lay, ct_X6_lay, 1, 2), (yX6_lay, cX6_lay, 2, some .int, 6, 0, false)), ((cd_X6_mostOften, ct_X6_mostOften, 1, 6), (yX6_mostOften, cX6_mostOften, 6, some .int, 6, 1, false)), ((cd_X6_weight, ct_X6_weight, 1, 4), (yX6_weight, cX6_weight, 4, some .int, 6, 2, false))] : List (nl_M × nl_I)), nl_okM q.1 q.2 := List.forall_mem_cons.mpr ⟨nl_d80, List.forall_mem_cons.mpr ⟨nl_d81, List.forall_mem_cons.mpr ⟨nl_d82, List.forall_mem_cons.mpr ⟨nl_d83, List.forall_mem_cons.mpr ⟨nl_d84, List.forall_mem_cons.mpr ⟨nl_d85, List.forall_mem_cons.mpr ⟨nl_d86, List.forall_mem_cons.mpr ⟨nl_d87, List.forall_mem_cons.mpr ⟨nl_d88, List.forall_mem_cons.mpr ⟨nl_d89, List.forall_mem_cons.mpr ⟨nl_d90, List.forall_mem_cons.mpr ⟨nl_d91, List.forall_mem_cons.mpr ⟨nl_d92, List.forall_mem_cons.mpr ⟨nl_d93, List.forall_mem_cons.mpr ⟨nl_d94, List.forall_mem_cons.mpr ⟨nl_d95, fun _ h => absurd h List.not_mem_nil⟩⟩⟩⟩⟩⟩⟩⟩⟩⟩⟩⟩⟩⟩⟩⟩
theorem nl_dc6 : ∀ q ∈ ([((cd_X6_keeps, ct_X6_keeps, 3, 3), (yX6_keeps, cX6_keeps, 3, some .boolean, 6, 2, false)), ((cd_X6_gapSet, ct_X6_gapSet, 1, 3), (yX6_gapSet, cX6_gapSet, 3, some .int, 6, 0, false)), ((cd_X6_passes, ct_X6_passes, 1, 4), (yX6_passes, cX6_passes, 4, some .int, 6, 0, false)), ((cd_X6_goesOn, ct_X6_goesOn, 1, 4), (yX6_goesOn, cX6_goesOn, 4, some .int, 6, 1, false)), ((cd_X6_house, ct_X6_house, 1, 3), (yX6_house, cX6_house, 3, some .int, 6, 2, false)), ((cd_X6_whoHas, ct_X6_whoHas, 1, 3), (yX6_whoHas, cX6_whoHas, 3, some .int, 6, 1, false)), ((cd_X6_hour, ct_X6_hour, 1, 3), (yX6_hour, cX6_hour, 3, some .int, 6, 2, false)), ((cd_X6_heavy, ct_X6_heavy, 1, 3), (yX6_heavy, cX6_heavy, 3, some .int, 6, 2, false)), ((cd_X6_had, ct_X6_had, 1, 3), (yX6_had, cX6_had, 3, some .int, 6, 2, false)), ((cd_X6_lays, ct_X6_lays, 0, 4), (yX6_lays, cX6_lays, 4, none, 6, 2, false)), ((cd_X6_takes, ct_X6_takes, 0, 4), (yX6_takes, cX6_takes, 4, none, 6, 2, false)), ((cd_X6_notes, ct_X6_notes, 0, 2), (yX6_notes, cX6_notes, 2, none, 6, 0, false)), ((cd_X6_pass, ct_X6_pass, 1, 2), (yX6_pass, cX6_pass, 2, some .int, 6, 1, false)), ((cd_X6_trades, ct_X6_trades, 0, 4), (yX6_trades, cX6_trades, 4, none, 6, 2, false)), ((cd_X6_swap, ct_X6_swap, 1, 3), (yX6_swap, cX6_swap, 3, some .int, 6, 2, false)), ((cd_X6_rests, ct_X6_rests, 0, 2), (yX6_rests, cX6_rests, 2, none, 6, 1, false))] : List (nl_M × nl_I)), nl_okM q.1 q.2 := List.forall_mem_cons.mpr ⟨nl_d96, List.forall_mem_cons.mpr ⟨nl_d97, List.forall_mem_cons.mpr ⟨nl_d98, List.forall_mem_cons.mpr ⟨nl_d99, List.forall_mem_cons.mpr ⟨nl_d100, List.forall_mem_cons.mpr ⟨nl_d101, List.forall_mem_cons.mpr ⟨nl_d102, List.forall_mem_cons.mpr ⟨nl_d103, List.forall_mem_cons.mpr ⟨nl_d104, List.forall_mem_cons.mpr ⟨nl_d105, List.forall_mem_cons.mpr ⟨nl_d106, List.forall_mem_cons.mpr ⟨nl_d107, List.forall_mem_cons.mpr ⟨nl_d108, List.forall_mem_cons.mpr ⟨nl_d109, List.forall_mem_cons.mpr ⟨nl_d110, List.forall_mem_cons.mpr ⟨nl_d111, fun _ h => absurd h List.not_mem_nil⟩⟩⟩⟩⟩⟩⟩⟩⟩⟩⟩⟩⟩⟩⟩⟩
theorem nl_dc7 : ∀ q ∈ ([((cd_X6_rest, ct_X6_rest, 1, 2), (yX6_rest, cX6_rest, 2, some .int, 6, 1, false)), ((cd_X6_burden, ct_X6_burden, 1, 4), (yX6_burden, cX6_burden, 4, some .int, 6, 2, false)), ((cd_X6_undo, ct_X6_undo, 1, 1), (yX6_undo, cX6_undo, 1, some .int, 6, 0, false)), ((cd_X6_start, ct_X6_start, 0, 1), (yX6_start, cX6_start, 1, none, 6, 0, false)), ((cd_X6_putBack, ct_X6_putBack, 0, 1), (yX6_putBack, cX6_putBack, 1, none, 6, 0, false)), ((cd_X6_behind, ct_X6_behind, 1, 5), (yX6_behind, cX6_behind, 5, some .int, 6, 3, false)), ((cd_X6_gaps, ct_X6_gaps, 1, 1), (yX6_gaps, cX6_gaps, 1, some .int, 6, 0, false)), ((cd_X6_first, ct_X6_first, 1, 5), (yX6_first, cX6_first, 5, some .int, 6, 1, false)), ((cd_X6_firstRow, ct_X6_firstRow, 0, 2), (yX6_firstRow, cX6_firstRow, 2, none, 6, 0, false)), ((cd_X6_nextRow, ct_X6_nextRow, 3, 7), (yX6_nextRow, cX6_nextRow, 7, some .boolean, 6, 0, false)), ((cd_X6_gapsBy, ct_X6_gapsBy, 1, 3), (yX6_gapsBy, cX6_gapsBy, 3, some .int, 6, 0, false)), ((cd_X6_keptWeight, ct_X6_keptWeight, 1, 3), (yX6_keptWeight, cX6_keptWeight, 3, some .int, 6, 0, false)), ((cd_X6_even, ct_X6_even, 1, 8), (yX6_even, cX6_even, 8, some .int, 6, 1, false)), ((cd_X6_swapsTo, ct_X6_swapsTo, 1, 5), (yX6_swapsTo, cX6_swapsTo, 5, some .int, 6, 0, false)), ((cd_X6_swaps, ct_X6_swaps, 1, 3), (yX6_swaps, cX6_swaps, 3, some .int, 6, 0, false)), ((cd_X6_off, ct_X6_off, 1, 2), (yX6_off, cX6_off, 2, some .int, 6, 2, true))] : List (nl_M × nl_I)), nl_okM q.1 q.2 := List.forall_mem_cons.mpr ⟨nl_d112, List.forall_mem_cons.mpr ⟨nl_d113, List.forall_mem_cons.mpr ⟨nl_d114, List.forall_mem_cons.mpr ⟨nl_d115, List.forall_mem_cons.mpr ⟨nl_d116, List.forall_mem_cons.mpr ⟨nl_d117, List.forall_mem_cons.mpr ⟨nl_d118, List.forall_mem_cons.mpr ⟨nl_d119, List.forall_mem_cons.mpr ⟨nl_d120, List.forall_mem_cons.mpr ⟨nl_d121, List.forall_mem_cons.mpr ⟨nl_d122, List.forall_mem_cons.mpr ⟨nl_d123, List.forall_mem_cons.mpr ⟨nl_d124, List.forall_mem_cons.mpr ⟨nl_d125, List.forall_mem_cons.mpr ⟨nl_d126, List.forall_mem_cons.mpr ⟨nl_d127, fun _ h => absurd h List.not_mem_nil⟩⟩⟩⟩⟩⟩⟩⟩⟩⟩⟩⟩⟩⟩⟩⟩
theorem nl_dc8 : ∀ q ∈ ([((cd_X6_far, ct_X6_far, 1, 6), (yX6_far, cX6_far, 6, some .int, 6, 1, false)), ((cd_X6_lamps, ct_X6_lamps, 1, 7), (yX6_lamps, cX6_lamps, 7, some .int, 6, 2, false)), ((cd_X6_seen, ct_X6_seen, 1, 4), (yX6_seen, cX6_seen, 4, some .int, 6, 3, false)), ((cd_X6_forget, ct_X6_forget, 1, 2), (yX6_forget, cX6_forget, 2, some .int, 6, 0, false)), ((cd_X6_isSo, ct_X6_isSo, 3, 5), (yX6_isSo, cX6_isSo, 5, some .boolean, 6, 0, false)), ((cd_X6_kinds, ct_X6_kinds, 1, 5), (yX6_kinds, cX6_kinds, 5, some .int, 6, 1, false)), ((cd_X6_strengths, ct_X6_strengths, 1, 8), (yX6_strengths, cX6_strengths, 8, some .int, 6, 2, false)), ((cd_X6_common, ct_X6_common, 2, 10), (yX6_common, cX6_common, 10, some .long, 6, 2, true)), ((cd_X6_likely, ct_X6_likely, 1, 11), (yX6_likely, cX6_likely, 11, some .int, 6, 3, false)), ((cd_X6_tiredAll, ct_X6_tiredAll, 1, 3), (yX6_tiredAll, cX6_tiredAll, 3, some .int, 6, 0, false)), ((cd_X6_winter, ct_X6_winter, 1, 12), (yX6_winter, cX6_winter, 12, some .int, 6, 3, false)), ((cd_X6_keep, ct_X6_keep, 1, 1), (yX6_keep, cX6_keep, 1, some .int, 6, 0, false)), ((cd_X6_back, ct_X6_back, 1, 1), (yX6_back, cX6_back, 1, some .int, 6, 0, false)), ((cd_X6_count, ct_X6_count, 1, 2), (yX6_count, cX6_count, 2, some .int, 6, 1, false)), ((cd_J6_bitCount_0f7a4, ct_J6_bitCount_0f7a4, 1, 1), (yJ6_bitCount_0f7a4, cJ6_bitCount_0f7a4, 1, some .int, 8, 1, true))] : List (nl_M × nl_I)), nl_okM q.1 q.2 := List.forall_mem_cons.mpr ⟨nl_d128, List.forall_mem_cons.mpr ⟨nl_d129, List.forall_mem_cons.mpr ⟨nl_d130, List.forall_mem_cons.mpr ⟨nl_d131, List.forall_mem_cons.mpr ⟨nl_d132, List.forall_mem_cons.mpr ⟨nl_d133, List.forall_mem_cons.mpr ⟨nl_d134, List.forall_mem_cons.mpr ⟨nl_d135, List.forall_mem_cons.mpr ⟨nl_d136, List.forall_mem_cons.mpr ⟨nl_d137, List.forall_mem_cons.mpr ⟨nl_d138, List.forall_mem_cons.mpr ⟨nl_d139, List.forall_mem_cons.mpr ⟨nl_d140, List.forall_mem_cons.mpr ⟨nl_d141, List.forall_mem_cons.mpr ⟨nl_d142, fun _ h => absurd h List.not_mem_nil⟩⟩⟩⟩⟩⟩⟩⟩⟩⟩⟩⟩⟩⟩⟩
set_option maxRecDepth 100000 in
theorem nl_zip_eq : nl_mts.zip nl_inf = ([((cd_X0_choose, ct_X0_choose, 0, 4), (yX0_choose, cX0_choose, 4, none, 0, 1, false)), ((cd_X0_weigh, ct_X0_weigh, 0, 5), (yX0_weigh, cX0_weigh, 5, none, 0, 1, false)), ((cd_X0_leastOf, ct_X0_leastOf, 1, 6), (yX0_leastOf, cX0_leastOf, 6, some .int, 0, 2, false)), ((cd_X0_priceWith, ct_X0_priceWith, 1, 4), (yX0_priceWith, cX0_priceWith, 4, some .int, 0, 3, false)), ((cd_X0_dealOut, ct_X0_dealOut, 0, 5), (yX0_dealOut, cX0_dealOut, 5, none, 0, 1, false)), ((cd_X0_lowestOfLeast, ct_X0_lowestOfLeast, 1, 5), (yX0_lowestOfLeast, cX0_lowestOfLeast, 5, some .int, 0, 3, false)), ((cd_X0_fewestSwaps, ct_X0_fewestSwaps, 1, 3), (yX0_fewestSwaps, cX0_fewestSwaps, 3, some .int, 0, 1, false)), ((cd_X0_canBridge, ct_X0_canBridge, 3, 8), (yX0_canBridge, cX0_canBridge, 8, some .boolean, 0, 5, true)), ((cd_X0_exchange, ct_X0_exchange, 0, 4), (yX0_exchange, cX0_exchange, 4, none, 0, 3, true)), ((cd_X1_read, ct_X1_read, 0, 5), (yX1_read, cX1_read, 5, none, 1, 2, false)), ((cd_X1_canBeLaid, ct_X1_canBeLaid, 3, 1), (yX1_canBeLaid, cX1_canBeLaid, 1, some .boolean, 1, 0, false)), ((cd_X1_readItem, ct_X1_readItem, 1, 10), (yX1_readItem, cX1_readItem, 10, some .int, 1, 3, false)), ((cd_X1_readNumber, ct_X1_readNumber, 1, 7), (yX1_readNumber, cX1_readNumber, 7, some .int, 1, 4, false)), ((cd_X1_addHour, ct_X1_addHour, 3, 1), (yX1_addHour, cX1_addHour, 1, some .boolean, 1, 0, false)), ((cd_X1_addHouse, ct_X1_addHouse, 3, 1), (yX1_addHouse, cX1_addHouse, 1, some .boolean, 1, 0, false)), ((cd_X2_clear, ct_X2_clear, 0, 1), (yX2_clear, cX2_clear, 1, none, 2, 0, false))] : List (nl_M × nl_I)) ++ (([((cd_X2_put, ct_X2_put, 0, 2), (yX2_put, cX2_put, 2, none, 2, 1, false)), ((cd_X2_dropOldest, ct_X2_dropOldest, 0, 3), (yX2_dropOldest, cX2_dropOldest, 3, none, 2, 0, false)), ((cd_X2_takeInto, ct_X2_takeInto, 3, 2), (yX2_takeInto, cX2_takeInto, 2, some .boolean, 2, 1, false)), ((cd_X3_clear, ct_X3_clear, 0, 1), (yX3_clear, cX3_clear, 1, none, 3, 0, false)), ((cd_X3_add, ct_X3_add, 0, 4), (yX3_add, cX3_add, 4, none, 3, 3, false)), ((cd_X3_lastNight, ct_X3_lastNight, 1, 3), (yX3_lastNight, cX3_lastNight, 3, some .int, 3, 0, false)), ((cd_X3_fit, ct_X3_fit, 3, 4), (yX3_fit, cX3_fit, 4, some .boolean, 3, 2, false)), ((cd_X4_settle, ct_X4_settle, 0, 3), (yX4_settle, cX4_settle, 3, none, 4, 1, false)), ((cd_X4_copyFrom, ct_X4_copyFrom, 0, 3), (yX4_copyFrom, cX4_copyFrom, 3, none, 4, 1, false)), ((cd_X4_isHouse, ct_X4_isHouse, 3, 2), (yX4_isHouse, cX4_isHouse, 2, some .boolean, 4, 1, false)), ((cd_X4_isHour, ct_X4_isHour, 3, 2), (yX4_isHour, cX4_isHour, 2, some .boolean, 4, 1, false)), ((cd_X4_houseWith, ct_X4_houseWith, 1, 3), (yX4_houseWith, cX4_houseWith, 3, some .int, 4, 1, false)), ((cd_X4_timesHad, ct_X4_timesHad, 1, 3), (yX4_timesHad, cX4_timesHad, 3, some .int, 4, 2, false)), ((cd_X4_heaviness, ct_X4_heaviness, 1, 4), (yX4_heaviness, cX4_heaviness, 4, some .int, 4, 2, false)), ((cd_X4_hourHadMost, ct_X4_hourHadMost, 1, 6), (yX4_hourHadMost, cX4_hourHadMost, 6, some .int, 4, 1, false)), ((cd_X4_wouldKeep, ct_X4_wouldKeep, 3, 4), (yX4_wouldKeep, cX4_wouldKeep, 4, some .boolean, 4, 3, false))] : List (nl_M × nl_I)) ++ (([((cd_X4_isGapAt, ct_X4_isGapAt, 3, 3), (yX4_isGapAt, cX4_isGapAt, 3, some .boolean, 4, 1, false)), ((cd_X4_seeThrough, ct_X4_seeThrough, 3, 4), (yX4_seeThrough, cX4_seeThrough, 4, some .boolean, 4, 1, false)), ((cd_X4_letNightsPass, ct_X4_letNightsPass, 1, 5), (yX4_letNightsPass, cX4_letNightsPass, 5, some .int, 4, 1, false)), ((cd_X4_trade, ct_X4_trade, 0, 4), (yX4_trade, cX4_trade, 4, none, 4, 2, false)), ((cd_X4_giveRest, ct_X4_giveRest, 0, 2), (yX4_giveRest, cX4_giveRest, 2, none, 4, 1, false)), ((cd_X4_setBurden, ct_X4_setBurden, 0, 3), (yX4_setBurden, cX4_setBurden, 3, none, 4, 2, false)), ((cd_X4_tiredTogether, ct_X4_tiredTogether, 1, 3), (yX4_tiredTogether, cX4_tiredTogether, 3, some .int, 4, 0, false)), ((cd_X4_handingOver, ct_X4_handingOver, 1, 5), (yX4_handingOver, cX4_handingOver, 5, some .int, 4, 0, false)), ((cd_X4_lengthOfRoad, ct_X4_lengthOfRoad, 1, 4), (yX4_lengthOfRoad, cX4_lengthOfRoad, 4, some .int, 4, 0, false)), ((cd_X4_stir, ct_X4_stir, 0, 4), (yX4_stir, cX4_stir, 4, none, 4, 1, false)), ((cd_X5_write, ct_X5_write, 1, 2), (yX5_write, cX5_write, 2, some .int, 5, 1, false)), ((cd_X5_wipe, ct_X5_wipe, 1, 2), (yX5_wipe, cX5_wipe, 2, some .int, 5, 0, false)), ((cd_X5_fault, ct_X5_fault, 1, 1), (yX5_fault, cX5_fault, 1, some .int, 5, 0, false)), ((cd_X5_lay, ct_X5_lay, 1, 1), (yX5_lay, cX5_lay, 1, some .int, 5, 0, false)), ((cd_X5_house, ct_X5_house, 1, 3), (yX5_house, cX5_house, 3, some .int, 5, 2, false)), ((cd_X5_hour, ct_X5_hour, 1, 3), (yX5_hour, cX5_hour, 3, some .int, 5, 2, false))] : List (nl_M × nl_I)) ++ (([((cd_X5_heavy, ct_X5_heavy, 1, 3), (yX5_heavy, cX5_heavy, 3, some .int, 5, 2, false)), ((cd_X5_had, ct_X5_had, 1, 3), (yX5_had, cX5_had, 3, some .int, 5, 2, false)), ((cd_X5_pass, ct_X5_pass, 1, 2), (yX5_pass, cX5_pass, 2, some .int, 5, 1, false)), ((cd_X5_swap, ct_X5_swap, 1, 3), (yX5_swap, cX5_swap, 3, some .int, 5, 2, false)), ((cd_X5_rest, ct_X5_rest, 1, 2), (yX5_rest, cX5_rest, 2, some .int, 5, 1, false)), ((cd_X5_burden, ct_X5_burden, 1, 4), (yX5_burden, cX5_burden, 4, some .int, 5, 2, false)), ((cd_X5_undo, ct_X5_undo, 1, 1), (yX5_undo, cX5_undo, 1, some .int, 5, 0, false)), ((cd_X5_behind, ct_X5_behind, 1, 4), (yX5_behind, cX5_behind, 4, some .int, 5, 3, false)), ((cd_X5_gaps, ct_X5_gaps, 1, 3), (yX5_gaps, cX5_gaps, 3, some .int, 5, 0, false)), ((cd_X5_first, ct_X5_first, 1, 3), (yX5_first, cX5_first, 3, some .int, 5, 1, false)), ((cd_X5_even, ct_X5_even, 1, 2), (yX5_even, cX5_even, 2, some .int, 5, 1, false)), ((cd_X5_swaps, ct_X5_swaps, 1, 1), (yX5_swaps, cX5_swaps, 1, some .int, 5, 0, false)), ((cd_X5_far, ct_X5_far, 1, 2), (yX5_far, cX5_far, 2, some .int, 5, 1, false)), ((cd_X5_lamps, ct_X5_lamps, 1, 5), (yX5_lamps, cX5_lamps, 5, some .int, 5, 2, false)), ((cd_X5_seen, ct_X5_seen, 1, 4), (yX5_seen, cX5_seen, 4, some .int, 5, 3, false)), ((cd_X5_forget, ct_X5_forget, 1, 2), (yX5_forget, cX5_forget, 2, some .int, 5, 0, false))] : List (nl_M × nl_I)) ++ (([((cd_X5_kinds, ct_X5_kinds, 1, 4), (yX5_kinds, cX5_kinds, 4, some .int, 5, 1, false)), ((cd_X5_strengths, ct_X5_strengths, 1, 6), (yX5_strengths, cX5_strengths, 6, some .int, 5, 2, false)), ((cd_X5_likely, ct_X5_likely, 1, 9), (yX5_likely, cX5_likely, 9, some .int, 5, 3, false)), ((cd_X5_winter, ct_X5_winter, 1, 6), (yX5_winter, cX5_winter, 6, some .int, 5, 3, false)), ((cd_X5_keep, ct_X5_keep, 1, 1), (yX5_keep, cX5_keep, 1, some .int, 5, 0, false)), ((cd_X5_back, ct_X5_back, 1, 1), (yX5_back, cX5_back, 1, some .int, 5, 0, false)), ((cd_X5_count, ct_X5_count, 1, 2), (yX5_count, cX5_count, 2, some .int, 5, 1, false)), ((cd_X5_isWithin, ct_X5_isWithin, 3, 3), (yX5_isWithin, cX5_isWithin, 3, some .boolean, 5, 3, true)), ((cd_X5_largestDivisor, ct_X5_largestDivisor, 1, 3), (yX5_largestDivisor, cX5_largestDivisor, 3, some .int, 5, 2, true)), ((cd_X5_drawFor, ct_X5_drawFor, 1, 4), (yX5_drawFor, cX5_drawFor, 4, some .int, 5, 2, true)), ((cd_X5_nextMissAhead, ct_X5_nextMissAhead, 1, 4), (yX5_nextMissAhead, cX5_nextMissAhead, 4, some .int, 5, 2, false)), ((cd_X5_fitsAllSeen, ct_X5_fitsAllSeen, 3, 6), (yX5_fitsAllSeen, cX5_fitsAllSeen, 6, some .boolean, 5, 3, false)), ((cd_X6_in, ct_X6_in, 3, 3), (yX6_in, cX6_in, 3, some .boolean, 6, 3, true)), ((cd_X6_has, ct_X6_has, 3, 2), (yX6_has, cX6_has, 2, some .boolean, 6, 2, true)), ((cd_X6_bits, ct_X6_bits, 1, 3), (yX6_bits, cX6_bits, 3, some .int, 6, 1, true)), ((cd_X6_lesser, ct_X6_lesser, 1, 2), (yX6_lesser, cX6_lesser, 2, some .int, 6, 2, true))] : List (nl_M × nl_I)) ++ (([((cd_X6_greater, ct_X6_greater, 1, 2), (yX6_greater, cX6_greater, 2, some .int, 6, 2, true)), ((cd_X6_firstHouse, ct_X6_firstHouse, 0, 5), (yX6_firstHouse, cX6_firstHouse, 5, none, 6, 4, false)), ((cd_X6_begin, ct_X6_begin, 0, 2), (yX6_begin, cX6_begin, 2, none, 6, 0, false)), ((cd_X6_isOne, ct_X6_isOne, 3, 2), (yX6_isOne, cX6_isOne, 2, some .boolean, 6, 1, false)), ((cd_X6_write, ct_X6_write, 1, 2), (yX6_write, cX6_write, 2, some .int, 6, 1, false)), ((cd_X6_wipe, ct_X6_wipe, 1, 2), (yX6_wipe, cX6_wipe, 2, some .int, 6, 0, false)), ((cd_X6_here, ct_X6_here, 1, 1), (yX6_here, cX6_here, 1, some .int, 6, 0, false)), ((cd_X6_isFigure, ct_X6_isFigure, 3, 1), (yX6_isFigure, cX6_isFigure, 1, some .boolean, 6, 0, false)), ((cd_X6_number, ct_X6_number, 3, 5), (yX6_number, cX6_number, 5, some .boolean, 6, 3, false)), ((cd_X6_readsHour, ct_X6_readsHour, 3, 1), (yX6_readsHour, cX6_readsHour, 1, some .boolean, 6, 0, false)), ((cd_X6_readsHouse, ct_X6_readsHouse, 3, 2), (yX6_readsHouse, cX6_readsHouse, 2, some .boolean, 6, 0, false)), ((cd_X6_readsItem, ct_X6_readsItem, 3, 2), (yX6_readsItem, cX6_readsItem, 2, some .boolean, 6, 0, false)), ((cd_X6_fault, ct_X6_fault, 1, 2), (yX6_fault, cX6_fault, 2, some .int, 6, 0, false)), ((cd_X6_lay, ct_X6_lay, 1, 2), (yX6_lay, cX6_lay, 2, some .int, 6, 0, false)), ((cd_X6_mostOften, ct_X6_mostOften, 1, 6), (yX6_mostOften, cX6_mostOften, 6, some .int, 6, 1, false)), ((cd_X6_weight, ct_X6_weight, 1, 4), (yX6_weight, cX6_weight, 4, some .int, 6, 2, false))] : List (nl_M × nl_I)) ++ (([((cd_X6_keeps, ct_X6_keeps, 3, 3), (yX6_keeps, cX6_keeps, 3, some .boolean, 6, 2, false)), ((cd_X6_gapSet, ct_X6_gapSet, 1, 3), (yX6_gapSet, cX6_gapSet, 3, some .int, 6, 0, false)), ((cd_X6_passes, ct_X6_passes, 1, 4), (yX6_passes, cX6_passes, 4, some .int, 6, 0, false)), ((cd_X6_goesOn, ct_X6_goesOn, 1, 4), (yX6_goesOn, cX6_goesOn, 4, some .int, 6, 1, false)), ((cd_X6_house, ct_X6_house, 1, 3), (yX6_house, cX6_house, 3, some .int, 6, 2, false)), ((cd_X6_whoHas, ct_X6_whoHas, 1, 3), (yX6_whoHas, cX6_whoHas, 3, some .int, 6, 1, false)), ((cd_X6_hour, ct_X6_hour, 1, 3), (yX6_hour, cX6_hour, 3, some .int, 6, 2, false)), ((cd_X6_heavy, ct_X6_heavy, 1, 3), (yX6_heavy, cX6_heavy, 3, some .int, 6, 2, false)), ((cd_X6_had, ct_X6_had, 1, 3), (yX6_had, cX6_had, 3, some .int, 6, 2, false)), ((cd_X6_lays, ct_X6_lays, 0, 4), (yX6_lays, cX6_lays, 4, none, 6, 2, false)), ((cd_X6_takes, ct_X6_takes, 0, 4), (yX6_takes, cX6_takes, 4, none, 6, 2, false)), ((cd_X6_notes, ct_X6_notes, 0, 2), (yX6_notes, cX6_notes, 2, none, 6, 0, false)), ((cd_X6_pass, ct_X6_pass, 1, 2), (yX6_pass, cX6_pass, 2, some .int, 6, 1, false)), ((cd_X6_trades, ct_X6_trades, 0, 4), (yX6_trades, cX6_trades, 4, none, 6, 2, false)), ((cd_X6_swap, ct_X6_swap, 1, 3), (yX6_swap, cX6_swap, 3, some .int, 6, 2, false)), ((cd_X6_rests, ct_X6_rests, 0, 2), (yX6_rests, cX6_rests, 2, none, 6, 1, false))] : List (nl_M × nl_I)) ++ (([((cd_X6_rest, ct_X6_rest, 1, 2), (yX6_rest, cX6_rest, 2, some .int, 6, 1, false)), ((cd_X6_burden, ct_X6_burden, 1, 4), (yX6_burden, cX6_burden, 4, some .int, 6, 2, false)), ((cd_X6_undo, ct_X6_undo, 1, 1), (yX6_undo, cX6_undo, 1, some .int, 6, 0, false)), ((cd_X6_start, ct_X6_start, 0, 1), (yX6_start, cX6_start, 1, none, 6, 0, false)), ((cd_X6_putBack, ct_X6_putBack, 0, 1), (yX6_putBack, cX6_putBack, 1, none, 6, 0, false)), ((cd_X6_behind, ct_X6_behind, 1, 5), (yX6_behind, cX6_behind, 5, some .int, 6, 3, false)), ((cd_X6_gaps, ct_X6_gaps, 1, 1), (yX6_gaps, cX6_gaps, 1, some .int, 6, 0, false)), ((cd_X6_first, ct_X6_first, 1, 5), (yX6_first, cX6_first, 5, some .int, 6, 1, false)), ((cd_X6_firstRow, ct_X6_firstRow, 0, 2), (yX6_firstRow, cX6_firstRow, 2, none, 6, 0, false)), ((cd_X6_nextRow, ct_X6_nextRow, 3, 7), (yX6_nextRow, cX6_nextRow, 7, some .boolean, 6, 0, false)), ((cd_X6_gapsBy, ct_X6_gapsBy, 1, 3), (yX6_gapsBy, cX6_gapsBy, 3, some .int, 6, 0, false)), ((cd_X6_keptWeight, ct_X6_keptWeight, 1, 3), (yX6_keptWeight, cX6_keptWeight, 3, some .int, 6, 0, false)), ((cd_X6_even, ct_X6_even, 1, 8), (yX6_even, cX6_even, 8, some .int, 6, 1, false)), ((cd_X6_swapsTo, ct_X6_swapsTo, 1, 5), (yX6_swapsTo, cX6_swapsTo, 5, some .int, 6, 0, false)), ((cd_X6_swaps, ct_X6_swaps, 1, 3), (yX6_swaps, cX6_swaps, 3, some .int, 6, 0, false)), ((cd_X6_off, ct_X6_off, 1, 2), (yX6_off, cX6_off, 2, some .int, 6, 2, true))] : List (nl_M × nl_I)) ++ (([((cd_X6_far, ct_X6_far, 1, 6), (yX6_far, cX6_far, 6, some .int, 6, 1, false)), ((cd_X6_lamps, ct_X6_lamps, 1, 7), (yX6_lamps, cX6_lamps, 7, some .int, 6, 2, false)), ((cd_X6_seen, ct_X6_seen, 1, 4), (yX6_seen, cX6_seen, 4, some .int, 6, 3, false)), ((cd_X6_forget, ct_X6_forget, 1, 2), (yX6_forget, cX6_forget, 2, some .int, 6, 0, false)), ((cd_X6_isSo, ct_X6_isSo, 3, 5), (yX6_isSo, cX6_isSo, 5, some .boolean, 6, 0, false)), ((cd_X6_kinds, ct_X6_kinds, 1, 5), (yX6_kinds, cX6_kinds, 5, some .int, 6, 1, false)), ((cd_X6_strengths, ct_X6_strengths, 1, 8), (yX6_strengths, cX6_strengths, 8, some .int, 6, 2, false)), ((cd_X6_common, ct_X6_common, 2, 10), (yX6_common, cX6_common, 10, some .long, 6, 2, true)), ((cd_X6_likely, ct_X6_likely, 1, 11), (yX6_likely, cX6_likely, 11, some .int, 6, 3, false)), ((cd_X6_tiredAll, ct_X6_tiredAll, 1, 3), (yX6_tiredAll, cX6_tiredAll, 3, some .int, 6, 0, false)), ((cd_X6_winter, ct_X6_winter, 1, 12), (yX6_winter, cX6_winter, 12, some .int, 6, 3, false)), ((cd_X6_keep, ct_X6_keep, 1, 1), (yX6_keep, cX6_keep, 1, some .int, 6, 0, false)), ((cd_X6_back, ct_X6_back, 1, 1), (yX6_back, cX6_back, 1, some .int, 6, 0, false)), ((cd_X6_count, ct_X6_count, 1, 2), (yX6_count, cX6_count, 2, some .int, 6, 1, false)), ((cd_J6_bitCount_0f7a4, ct_J6_bitCount_0f7a4, 1, 1), (yJ6_bitCount_0f7a4, cJ6_bitCount_0f7a4, 1, some .int, 8, 1, true))] : List (nl_M × nl_I)))))))))) := rfl
theorem nl_zip_ok : ∀ q ∈ nl_mts.zip nl_inf, nl_okM q.1 q.2 := by
  rw [nl_zip_eq]
  exact List.forall_mem_append.mpr ⟨nl_dc0, List.forall_mem_append.mpr ⟨nl_dc1, List.forall_mem_append.mpr ⟨nl_dc2, List.forall_mem_append.mpr ⟨nl_dc3, List.forall_mem_append.mpr ⟨nl_dc4, List.forall_mem_append.mpr ⟨nl_dc5, List.forall_mem_append.mpr ⟨nl_dc6, List.forall_mem_append.mpr ⟨nl_dc7, nl_dc8⟩⟩⟩⟩⟩⟩⟩⟩
set_option maxRecDepth 100000 in
theorem nl_len : nl_mts.length = nl_inf.length := rfl
/-- all of a method that the tables hold -/
theorem nl_of {y : Nat} {M : nl_M} (h : nl_mts[y]? = some M) : ∃ I : nl_I, nl_inf[y]? = some I ∧ nl_okM M I ∧ nl_okI I ∧ nl_nm y = I.1 := by
  have hy : y < nl_mts.length := (List.getElem?_eq_some_iff.mp h).1
  have hy2 : y < nl_inf.length := by rw [← nl_len]; exact hy
  have h2 : nl_inf[y]? = some nl_inf[y] := List.getElem?_eq_getElem hy2
  refine ⟨nl_inf[y], h2, ?_, nl_inf_ok _ (List.getElem_mem hy2), ?_⟩
  · refine nl_zip_ok (M, nl_inf[y]) (List.mem_of_getElem? (i := y) ?_)
    rw [List.getElem?_zip_eq_some]
    exact ⟨h, h2⟩
  · unfold nl_nm
    rw [List.getD_eq_getElem?_getD, h2]
    rfl
set_option maxRecDepth 100000 in
theorem nl_dL2 : cd_L_law.all (nl_ok 7 4) = true := by decide +kernel

set_option maxRecDepth 100000 in
theorem nl_dl0 : ∀ e ∈ ([(16, .iconst 0, 1, 0, 0, 0), (17, .istore_n 3, 1, 0, 0, 0), (18, .iload_n 3, 1, 0, 0, 0), (19, .aload_n 0, 1, 0, 0, 0), (20, .arraylength, 1, 0, 0, 0), (21, .iconst 4, 1, 0, 0, 0), (22, .isub, 1, 0, 0, 0), (23, .if_icmp .gt 884, 3, 907, 0, 0), (26, .aload_n 0, 1, 0, 0, 0), (27, .iload_n 3, 1, 0, 0, 0), (28, .iaload, 1, 0, 0, 0), (29, .bipush 31, 2, 0, 0, 0), (31, .iand, 1, 0, 0, 0), (32, .tableswitch 869 0 28 #[132, 155, 168, 181, 194, 227, 260, 293, 326, 349, 382, 405, 438, 451, 494, 507, 530, 553, 566, 589, 622, 665, 678, 701, 734, 777, 820, 833, 846], 132, 901, 1707305891332395179263381610569150620517447052024088268201288260251232719436449300278436, 29), (164, .aload_n 1, 1, 0, 0, 0), (165, .aload_n 0, 1, 0, 0, 0), (166, .iload_n 3, 1, 0, 0, 0), (167, .iconst 1, 1, 0, 0, 0), (168, .iadd, 1, 0, 0, 0), (169, .iaload, 1, 0, 0, 0), (170, .invokevirtual 13, 3, 42, 1, 21), (173, .aload_n 2, 1, 0, 0, 0), (174, .aload_n 0, 1, 0, 0, 0), (175, .iload_n 3, 1, 0, 0, 0), (176, .iconst 1, 1, 0, 0, 0), (177, .iadd, 1, 0, 0, 0), (178, .iaload, 1, 0, 0, 0), (179, .invokevirtual 17, 3, 84, 1, 25), (182, .if_icmp .eq 719, 3, 901, 0, 0), (185, .iconst 0, 1, 0, 0, 0), (186, .ireturn, 1, 0, 0, 0), (187, .aload_n 1, 1, 0, 0, 0), (188, .invokevirtual 18, 3, 43, 0, 21), (191, .aload_n 2, 1, 0, 0, 0), (192, .invokevirtual 22, 3, 85, 0, 25), (195, .if_icmp .eq 706, 3, 901, 0, 0), (198, .iconst 0, 1, 0, 0, 0), (199, .ireturn, 1, 0, 0, 0), (200, .aload_n 1, 1, 0, 0, 0), (201, .invokevirtual 23, 3, 44, 0, 21)] : List nl_E), decode code e.1 = .ok (e.2.1, e.2.2.1) := by decide +kernel
set_option maxRecDepth 100000 in
theorem nl_dl1 : ∀ e ∈ ([(204, .aload_n 2, 1, 0, 0, 0), (205, .invokevirtual 26, 3, 92, 0, 25), (208, .if_icmp .eq 693, 3, 901, 0, 0), (211, .iconst 0, 1, 0, 0, 0), (212, .ireturn, 1, 0, 0, 0), (213, .aload_n 1, 1, 0, 0, 0), (214, .invokevirtual 27, 3, 45, 0, 21), (217, .aload_n 2, 1, 0, 0, 0), (218, .invokevirtual 30, 3, 93, 0, 25), (221, .if_icmp .eq 680, 3, 901, 0, 0), (224, .iconst 0, 1, 0, 0, 0), (225, .ireturn, 1, 0, 0, 0), (226, .aload_n 1, 1, 0, 0, 0), (227, .aload_n 0, 1, 0, 0, 0), (228, .iload_n 3, 1, 0, 0, 0), (229, .iconst 1, 1, 0, 0, 0), (230, .iadd, 1, 0, 0, 0), (231, .iaload, 1, 0, 0, 0), (232, .aload_n 0, 1, 0, 0, 0), (233, .iload_n 3, 1, 0, 0, 0), (234, .iconst 2, 1, 0, 0, 0), (235, .iadd, 1, 0, 0, 0), (236, .iaload, 1, 0, 0, 0), (237, .invokevirtual 31, 3, 46, 2, 21), (240, .aload_n 2, 1, 0, 0, 0), (241, .aload_n 0, 1, 0, 0, 0), (242, .iload_n 3, 1, 0, 0, 0), (243, .iconst 1, 1, 0, 0, 0), (244, .iadd, 1, 0, 0, 0), (245, .iaload, 1, 0, 0, 0), (246, .aload_n 0, 1, 0, 0, 0), (247, .iload_n 3, 1, 0, 0, 0), (248, .iconst 2, 1, 0, 0, 0), (249, .iadd, 1, 0, 0, 0), (250, .iaload, 1, 0, 0, 0), (251, .invokevirtual 35, 3, 100, 2, 25), (254, .if_icmp .eq 647, 3, 901, 0, 0), (257, .iconst 0, 1, 0, 0, 0), (258, .ireturn, 1, 0, 0, 0), (259, .aload_n 1, 1, 0, 0, 0)] : List nl_E), decode code e.1 = .ok (e.2.1, e.2.2.1) := by decide +kernel
set_option maxRecDepth 100000 in
theorem nl_dl2 : ∀ e ∈ ([(260, .aload_n 0, 1, 0, 0, 0), (261, .iload_n 3, 1, 0, 0, 0), (262, .iconst 1, 1, 0, 0, 0), (263, .iadd, 1, 0, 0, 0), (264, .iaload, 1, 0, 0, 0), (265, .aload_n 0, 1, 0, 0, 0), (266, .iload_n 3, 1, 0, 0, 0), (267, .iconst 2, 1, 0, 0, 0), (268, .iadd, 1, 0, 0, 0), (269, .iaload, 1, 0, 0, 0), (270, .invokevirtual 36, 3, 47, 2, 21), (273, .aload_n 2, 1, 0, 0, 0), (274, .aload_n 0, 1, 0, 0, 0), (275, .iload_n 3, 1, 0, 0, 0), (276, .iconst 1, 1, 0, 0, 0), (277, .iadd, 1, 0, 0, 0), (278, .iaload, 1, 0, 0, 0), (279, .aload_n 0, 1, 0, 0, 0), (280, .iload_n 3, 1, 0, 0, 0), (281, .iconst 2, 1, 0, 0, 0), (282, .iadd, 1, 0, 0, 0), (283, .iaload, 1, 0, 0, 0), (284, .invokevirtual 39, 3, 102, 2, 25), (287, .if_icmp .eq 614, 3, 901, 0, 0), (290, .iconst 0, 1, 0, 0, 0), (291, .ireturn, 1, 0, 0, 0), (292, .aload_n 1, 1, 0, 0, 0), (293, .aload_n 0, 1, 0, 0, 0), (294, .iload_n 3, 1, 0, 0, 0), (295, .iconst 1, 1, 0, 0, 0), (296, .iadd, 1, 0, 0, 0), (297, .iaload, 1, 0, 0, 0), (298, .aload_n 0, 1, 0, 0, 0), (299, .iload_n 3, 1, 0, 0, 0), (300, .iconst 2, 1, 0, 0, 0), (301, .iadd, 1, 0, 0, 0), (302, .iaload, 1, 0, 0, 0), (303, .invokevirtual 40, 3, 48, 2, 21), (306, .aload_n 2, 1, 0, 0, 0), (307, .aload_n 0, 1, 0, 0, 0)] : List nl_E), decode code e.1 = .ok (e.2.1, e.2.2.1) := by decide +kernel
set_option maxRecDepth 100000 in
theorem nl_dl3 : ∀ e ∈ ([(308, .iload_n 3, 1, 0, 0, 0), (309, .iconst 1, 1, 0, 0, 0), (310, .iadd, 1, 0, 0, 0), (311, .iaload, 1, 0, 0, 0), (312, .aload_n 0, 1, 0, 0, 0), (313, .iload_n 3, 1, 0, 0, 0), (314, .iconst 2, 1, 0, 0, 0), (315, .iadd, 1, 0, 0, 0), (316, .iaload, 1, 0, 0, 0), (317, .invokevirtual 43, 3, 103, 2, 25), (320, .if_icmp .eq 581, 3, 901, 0, 0), (323, .iconst 0, 1, 0, 0, 0), (324, .ireturn, 1, 0, 0, 0), (325, .aload_n 1, 1, 0, 0, 0), (326, .aload_n 0, 1, 0, 0, 0), (327, .iload_n 3, 1, 0, 0, 0), (328, .iconst 1, 1, 0, 0, 0), (329, .iadd, 1, 0, 0, 0), (330, .iaload, 1, 0, 0, 0), (331, .aload_n 0, 1, 0, 0, 0), (332, .iload_n 3, 1, 0, 0, 0), (333, .iconst 2, 1, 0, 0, 0), (334, .iadd, 1, 0, 0, 0), (335, .iaload, 1, 0, 0, 0), (336, .invokevirtual 44, 3, 49, 2, 21), (339, .aload_n 2, 1, 0, 0, 0), (340, .aload_n 0, 1, 0, 0, 0), (341, .iload_n 3, 1, 0, 0, 0), (342, .iconst 1, 1, 0, 0, 0), (343, .iadd, 1, 0, 0, 0), (344, .iaload, 1, 0, 0, 0), (345, .aload_n 0, 1, 0, 0, 0), (346, .iload_n 3, 1, 0, 0, 0), (347, .iconst 2, 1, 0, 0, 0), (348, .iadd, 1, 0, 0, 0), (349, .iaload, 1, 0, 0, 0), (350, .invokevirtual 47, 3, 104, 2, 25), (353, .if_icmp .eq 548, 3, 901, 0, 0), (356, .iconst 0, 1, 0, 0, 0), (357, .ireturn, 1, 0, 0, 0)] : List nl_E), decode code e.1 = .ok (e.2.1, e.2.2.1) := by decide +kernel
set_option maxRecDepth 100000 in
theorem nl_dl4 : ∀ e ∈ ([(358, .aload_n 1, 1, 0, 0, 0), (359, .aload_n 0, 1, 0, 0, 0), (360, .iload_n 3, 1, 0, 0, 0), (361, .iconst 1, 1, 0, 0, 0), (362, .iadd, 1, 0, 0, 0), (363, .iaload, 1, 0, 0, 0), (364, .invokevirtual 48, 3, 50, 1, 21), (367, .aload_n 2, 1, 0, 0, 0), (368, .aload_n 0, 1, 0, 0, 0), (369, .iload_n 3, 1, 0, 0, 0), (370, .iconst 1, 1, 0, 0, 0), (371, .iadd, 1, 0, 0, 0), (372, .iaload, 1, 0, 0, 0), (373, .invokevirtual 51, 3, 108, 1, 25), (376, .if_icmp .eq 525, 3, 901, 0, 0), (379, .iconst 0, 1, 0, 0, 0), (380, .ireturn, 1, 0, 0, 0), (381, .aload_n 1, 1, 0, 0, 0), (382, .aload_n 0, 1, 0, 0, 0), (383, .iload_n 3, 1, 0, 0, 0), (384, .iconst 1, 1, 0, 0, 0), (385, .iadd, 1, 0, 0, 0), (386, .iaload, 1, 0, 0, 0), (387, .aload_n 0, 1, 0, 0, 0), (388, .iload_n 3, 1, 0, 0, 0), (389, .iconst 2, 1, 0, 0, 0), (390, .iadd, 1, 0, 0, 0), (391, .iaload, 1, 0, 0, 0), (392, .invokevirtual 52, 3, 51, 2, 21), (395, .aload_n 2, 1, 0, 0, 0), (396, .aload_n 0, 1, 0, 0, 0), (397, .iload_n 3, 1, 0, 0, 0), (398, .iconst 1, 1, 0, 0, 0), (399, .iadd, 1, 0, 0, 0), (400, .iaload, 1, 0, 0, 0), (401, .aload_n 0, 1, 0, 0, 0), (402, .iload_n 3, 1, 0, 0, 0), (403, .iconst 2, 1, 0, 0, 0), (404, .iadd, 1, 0, 0, 0), (405, .iaload, 1, 0, 0, 0)] : List nl_E), decode code e.1 = .ok (e.2.1, e.2.2.1) := by decide +kernel
set_option maxRecDepth 100000 in
theorem nl_dl5 : ∀ e ∈ ([(406, .invokevirtual 55, 3, 110, 2, 25), (409, .if_icmp .eq 492, 3, 901, 0, 0), (412, .iconst 0, 1, 0, 0, 0), (413, .ireturn, 1, 0, 0, 0), (414, .aload_n 1, 1, 0, 0, 0), (415, .aload_n 0, 1, 0, 0, 0), (416, .iload_n 3, 1, 0, 0, 0), (417, .iconst 1, 1, 0, 0, 0), (418, .iadd, 1, 0, 0, 0), (419, .iaload, 1, 0, 0, 0), (420, .invokevirtual 56, 3, 52, 1, 21), (423, .aload_n 2, 1, 0, 0, 0), (424, .aload_n 0, 1, 0, 0, 0), (425, .iload_n 3, 1, 0, 0, 0), (426, .iconst 1, 1, 0, 0, 0), (427, .iadd, 1, 0, 0, 0), (428, .iaload, 1, 0, 0, 0), (429, .invokevirtual 59, 3, 112, 1, 25), (432, .if_icmp .eq 469, 3, 901, 0, 0), (435, .iconst 0, 1, 0, 0, 0), (436, .ireturn, 1, 0, 0, 0), (437, .aload_n 1, 1, 0, 0, 0), (438, .aload_n 0, 1, 0, 0, 0), (439, .iload_n 3, 1, 0, 0, 0), (440, .iconst 1, 1, 0, 0, 0), (441, .iadd, 1, 0, 0, 0), (442, .iaload, 1, 0, 0, 0), (443, .aload_n 0, 1, 0, 0, 0), (444, .iload_n 3, 1, 0, 0, 0), (445, .iconst 2, 1, 0, 0, 0), (446, .iadd, 1, 0, 0, 0), (447, .iaload, 1, 0, 0, 0), (448, .invokevirtual 60, 3, 53, 2, 21), (451, .aload_n 2, 1, 0, 0, 0), (452, .aload_n 0, 1, 0, 0, 0), (453, .iload_n 3, 1, 0, 0, 0), (454, .iconst 1, 1, 0, 0, 0), (455, .iadd, 1, 0, 0, 0), (456, .iaload, 1, 0, 0, 0), (457, .aload_n 0, 1, 0, 0, 0)] : List nl_E), decode code e.1 = .ok (e.2.1, e.2.2.1) := by decide +kernel
set_option maxRecDepth 100000 in
theorem nl_dl6 : ∀ e ∈ ([(458, .iload_n 3, 1, 0, 0, 0), (459, .iconst 2, 1, 0, 0, 0), (460, .iadd, 1, 0, 0, 0), (461, .iaload, 1, 0, 0, 0), (462, .invokevirtual 63, 3, 113, 2, 25), (465, .if_icmp .eq 436, 3, 901, 0, 0), (468, .iconst 0, 1, 0, 0, 0), (469, .ireturn, 1, 0, 0, 0), (470, .aload_n 1, 1, 0, 0, 0), (471, .invokevirtual 64, 3, 54, 0, 21), (474, .aload_n 2, 1, 0, 0, 0), (475, .invokevirtual 67, 3, 114, 0, 25), (478, .if_icmp .eq 423, 3, 901, 0, 0), (481, .iconst 0, 1, 0, 0, 0), (482, .ireturn, 1, 0, 0, 0), (483, .aload_n 1, 1, 0, 0, 0), (484, .aload_n 0, 1, 0, 0, 0), (485, .iload_n 3, 1, 0, 0, 0), (486, .iconst 1, 1, 0, 0, 0), (487, .iadd, 1, 0, 0, 0), (488, .iaload, 1, 0, 0, 0), (489, .aload_n 0, 1, 0, 0, 0), (490, .iload_n 3, 1, 0, 0, 0), (491, .iconst 2, 1, 0, 0, 0), (492, .iadd, 1, 0, 0, 0), (493, .iaload, 1, 0, 0, 0), (494, .aload_n 0, 1, 0, 0, 0), (495, .iload_n 3, 1, 0, 0, 0), (496, .iconst 3, 1, 0, 0, 0), (497, .iadd, 1, 0, 0, 0), (498, .iaload, 1, 0, 0, 0), (499, .invokevirtual 68, 3, 55, 3, 21), (502, .aload_n 2, 1, 0, 0, 0), (503, .aload_n 0, 1, 0, 0, 0), (504, .iload_n 3, 1, 0, 0, 0), (505, .iconst 1, 1, 0, 0, 0), (506, .iadd, 1, 0, 0, 0), (507, .iaload, 1, 0, 0, 0), (508, .aload_n 0, 1, 0, 0, 0), (509, .iload_n 3, 1, 0, 0, 0)] : List nl_E), decode code e.1 = .ok (e.2.1, e.2.2.1) := by decide +kernel
set_option maxRecDepth 100000 in
theorem nl_dl7 : ∀ e ∈ ([(510, .iconst 2, 1, 0, 0, 0), (511, .iadd, 1, 0, 0, 0), (512, .iaload, 1, 0, 0, 0), (513, .aload_n 0, 1, 0, 0, 0), (514, .iload_n 3, 1, 0, 0, 0), (515, .iconst 3, 1, 0, 0, 0), (516, .iadd, 1, 0, 0, 0), (517, .iaload, 1, 0, 0, 0), (518, .invokevirtual 72, 3, 117, 3, 25), (521, .if_icmp .eq 380, 3, 901, 0, 0), (524, .iconst 0, 1, 0, 0, 0), (525, .ireturn, 1, 0, 0, 0), (526, .aload_n 1, 1, 0, 0, 0), (527, .invokevirtual 73, 3, 56, 0, 21), (530, .aload_n 2, 1, 0, 0, 0), (531, .invokevirtual 76, 3, 118, 0, 25), (534, .if_icmp .eq 367, 3, 901, 0, 0), (537, .iconst 0, 1, 0, 0, 0), (538, .ireturn, 1, 0, 0, 0), (539, .aload_n 1, 1, 0, 0, 0), (540, .aload_n 0, 1, 0, 0, 0), (541, .iload_n 3, 1, 0, 0, 0), (542, .iconst 1, 1, 0, 0, 0), (543, .iadd, 1, 0, 0, 0), (544, .iaload, 1, 0, 0, 0), (545, .invokevirtual 77, 3, 57, 1, 21), (548, .aload_n 2, 1, 0, 0, 0), (549, .aload_n 0, 1, 0, 0, 0), (550, .iload_n 3, 1, 0, 0, 0), (551, .iconst 1, 1, 0, 0, 0), (552, .iadd, 1, 0, 0, 0), (553, .iaload, 1, 0, 0, 0), (554, .invokevirtual 80, 3, 119, 1, 25), (557, .if_icmp .eq 344, 3, 901, 0, 0), (560, .iconst 0, 1, 0, 0, 0), (561, .ireturn, 1, 0, 0, 0), (562, .aload_n 1, 1, 0, 0, 0), (563, .aload_n 0, 1, 0, 0, 0), (564, .iload_n 3, 1, 0, 0, 0), (565, .iconst 1, 1, 0, 0, 0)] : List nl_E), decode code e.1 = .ok (e.2.1, e.2.2.1) := by decide +kernel
set_option maxRecDepth 100000 in
theorem nl_dl8 : ∀ e ∈ ([(566, .iadd, 1, 0, 0, 0), (567, .iaload, 1, 0, 0, 0), (568, .invokevirtual 81, 3, 58, 1, 21), (571, .aload_n 2, 1, 0, 0, 0), (572, .aload_n 0, 1, 0, 0, 0), (573, .iload_n 3, 1, 0, 0, 0), (574, .iconst 1, 1, 0, 0, 0), (575, .iadd, 1, 0, 0, 0), (576, .iaload, 1, 0, 0, 0), (577, .invokevirtual 84, 3, 124, 1, 25), (580, .if_icmp .eq 321, 3, 901, 0, 0), (583, .iconst 0, 1, 0, 0, 0), (584, .ireturn, 1, 0, 0, 0), (585, .aload_n 1, 1, 0, 0, 0), (586, .invokevirtual 85, 3, 59, 0, 21), (589, .aload_n 2, 1, 0, 0, 0), (590, .invokevirtual 88, 3, 126, 0, 25), (593, .if_icmp .eq 308, 3, 901, 0, 0), (596, .iconst 0, 1, 0, 0, 0), (597, .ireturn, 1, 0, 0, 0), (598, .aload_n 1, 1, 0, 0, 0), (599, .aload_n 0, 1, 0, 0, 0), (600, .iload_n 3, 1, 0, 0, 0), (601, .iconst 1, 1, 0, 0, 0), (602, .iadd, 1, 0, 0, 0), (603, .iaload, 1, 0, 0, 0), (604, .invokevirtual 89, 3, 60, 1, 21), (607, .aload_n 2, 1, 0, 0, 0), (608, .aload_n 0, 1, 0, 0, 0), (609, .iload_n 3, 1, 0, 0, 0), (610, .iconst 1, 1, 0, 0, 0), (611, .iadd, 1, 0, 0, 0), (612, .iaload, 1, 0, 0, 0), (613, .invokevirtual 92, 3, 128, 1, 25), (616, .if_icmp .eq 285, 3, 901, 0, 0), (619, .iconst 0, 1, 0, 0, 0), (620, .ireturn, 1, 0, 0, 0), (621, .aload_n 1, 1, 0, 0, 0), (622, .aload_n 0, 1, 0, 0, 0), (623, .iload_n 3, 1, 0, 0, 0)] : List nl_E), decode code e.1 = .ok (e.2.1, e.2.2.1) := by decide +kernel
set_option maxRecDepth 100000 in
theorem nl_dl9 : ∀ e ∈ ([(624, .iconst 1, 1, 0, 0, 0), (625, .iadd, 1, 0, 0, 0), (626, .iaload, 1, 0, 0, 0), (627, .aload_n 0, 1, 0, 0, 0), (628, .iload_n 3, 1, 0, 0, 0), (629, .iconst 2, 1, 0, 0, 0), (630, .iadd, 1, 0, 0, 0), (631, .iaload, 1, 0, 0, 0), (632, .invokevirtual 93, 3, 61, 2, 21), (635, .aload_n 2, 1, 0, 0, 0), (636, .aload_n 0, 1, 0, 0, 0), (637, .iload_n 3, 1, 0, 0, 0), (638, .iconst 1, 1, 0, 0, 0), (639, .iadd, 1, 0, 0, 0), (640, .iaload, 1, 0, 0, 0), (641, .aload_n 0, 1, 0, 0, 0), (642, .iload_n 3, 1, 0, 0, 0), (643, .iconst 2, 1, 0, 0, 0), (644, .iadd, 1, 0, 0, 0), (645, .iaload, 1, 0, 0, 0), (646, .invokevirtual 96, 3, 129, 2, 25), (649, .if_icmp .eq 252, 3, 901, 0, 0), (652, .iconst 0, 1, 0, 0, 0), (653, .ireturn, 1, 0, 0, 0), (654, .aload_n 1, 1, 0, 0, 0), (655, .aload_n 0, 1, 0, 0, 0), (656, .iload_n 3, 1, 0, 0, 0), (657, .iconst 1, 1, 0, 0, 0), (658, .iadd, 1, 0, 0, 0), (659, .iaload, 1, 0, 0, 0), (660, .aload_n 0, 1, 0, 0, 0), (661, .iload_n 3, 1, 0, 0, 0), (662, .iconst 2, 1, 0, 0, 0), (663, .iadd, 1, 0, 0, 0), (664, .iaload, 1, 0, 0, 0), (665, .aload_n 0, 1, 0, 0, 0), (666, .iload_n 3, 1, 0, 0, 0), (667, .iconst 3, 1, 0, 0, 0), (668, .iadd, 1, 0, 0, 0), (669, .iaload, 1, 0, 0, 0)] : List nl_E), decode code e.1 = .ok (e.2.1, e.2.2.1) := by decide +kernel
set_option maxRecDepth 100000 in
theorem nl_dl10 : ∀ e ∈ ([(670, .invokevirtual 97, 3, 62, 3, 21), (673, .aload_n 2, 1, 0, 0, 0), (674, .aload_n 0, 1, 0, 0, 0), (675, .iload_n 3, 1, 0, 0, 0), (676, .iconst 1, 1, 0, 0, 0), (677, .iadd, 1, 0, 0, 0), (678, .iaload, 1, 0, 0, 0), (679, .aload_n 0, 1, 0, 0, 0), (680, .iload_n 3, 1, 0, 0, 0), (681, .iconst 2, 1, 0, 0, 0), (682, .iadd, 1, 0, 0, 0), (683, .iaload, 1, 0, 0, 0), (684, .aload_n 0, 1, 0, 0, 0), (685, .iload_n 3, 1, 0, 0, 0), (686, .iconst 3, 1, 0, 0, 0), (687, .iadd, 1, 0, 0, 0), (688, .iaload, 1, 0, 0, 0), (689, .invokevirtual 100, 3, 130, 3, 25), (692, .if_icmp .eq 209, 3, 901, 0, 0), (695, .iconst 0, 1, 0, 0, 0), (696, .ireturn, 1, 0, 0, 0), (697, .aload_n 1, 1, 0, 0, 0), (698, .invokevirtual 101, 3, 63, 0, 21), (701, .aload_n 2, 1, 0, 0, 0), (702, .invokevirtual 104, 3, 131, 0, 25), (705, .if_icmp .eq 196, 3, 901, 0, 0), (708, .iconst 0, 1, 0, 0, 0), (709, .ireturn, 1, 0, 0, 0), (710, .aload_n 1, 1, 0, 0, 0), (711, .aload_n 0, 1, 0, 0, 0), (712, .iload_n 3, 1, 0, 0, 0), (713, .iconst 1, 1, 0, 0, 0), (714, .iadd, 1, 0, 0, 0), (715, .iaload, 1, 0, 0, 0), (716, .invokevirtual 105, 3, 64, 1, 21), (719, .aload_n 2, 1, 0, 0, 0), (720, .aload_n 0, 1, 0, 0, 0), (721, .iload_n 3, 1, 0, 0, 0), (722, .iconst 1, 1, 0, 0, 0), (723, .iadd, 1, 0, 0, 0)] : List nl_E), decode code e.1 = .ok (e.2.1, e.2.2.1) := by decide +kernel
set_option maxRecDepth 100000 in
theorem nl_dl11 : ∀ e ∈ ([(724, .iaload, 1, 0, 0, 0), (725, .invokevirtual 108, 3, 133, 1, 25), (728, .if_icmp .eq 173, 3, 901, 0, 0), (731, .iconst 0, 1, 0, 0, 0), (732, .ireturn, 1, 0, 0, 0), (733, .aload_n 1, 1, 0, 0, 0), (734, .aload_n 0, 1, 0, 0, 0), (735, .iload_n 3, 1, 0, 0, 0), (736, .iconst 1, 1, 0, 0, 0), (737, .iadd, 1, 0, 0, 0), (738, .iaload, 1, 0, 0, 0), (739, .aload_n 0, 1, 0, 0, 0), (740, .iload_n 3, 1, 0, 0, 0), (741, .iconst 2, 1, 0, 0, 0), (742, .iadd, 1, 0, 0, 0), (743, .iaload, 1, 0, 0, 0), (744, .invokevirtual 109, 3, 65, 2, 21), (747, .aload_n 2, 1, 0, 0, 0), (748, .aload_n 0, 1, 0, 0, 0), (749, .iload_n 3, 1, 0, 0, 0), (750, .iconst 1, 1, 0, 0, 0), (751, .iadd, 1, 0, 0, 0), (752, .iaload, 1, 0, 0, 0), (753, .aload_n 0, 1, 0, 0, 0), (754, .iload_n 3, 1, 0, 0, 0), (755, .iconst 2, 1, 0, 0, 0), (756, .iadd, 1, 0, 0, 0), (757, .iaload, 1, 0, 0, 0), (758, .invokevirtual 112, 3, 134, 2, 25), (761, .if_icmp .eq 140, 3, 901, 0, 0), (764, .iconst 0, 1, 0, 0, 0), (765, .ireturn, 1, 0, 0, 0), (766, .aload_n 1, 1, 0, 0, 0), (767, .aload_n 0, 1, 0, 0, 0), (768, .iload_n 3, 1, 0, 0, 0), (769, .iconst 1, 1, 0, 0, 0), (770, .iadd, 1, 0, 0, 0), (771, .iaload, 1, 0, 0, 0), (772, .aload_n 0, 1, 0, 0, 0), (773, .iload_n 3, 1, 0, 0, 0)] : List nl_E), decode code e.1 = .ok (e.2.1, e.2.2.1) := by decide +kernel
set_option maxRecDepth 100000 in
theorem nl_dl12 : ∀ e ∈ ([(774, .iconst 2, 1, 0, 0, 0), (775, .iadd, 1, 0, 0, 0), (776, .iaload, 1, 0, 0, 0), (777, .aload_n 0, 1, 0, 0, 0), (778, .iload_n 3, 1, 0, 0, 0), (779, .iconst 3, 1, 0, 0, 0), (780, .iadd, 1, 0, 0, 0), (781, .iaload, 1, 0, 0, 0), (782, .invokevirtual 113, 3, 66, 3, 21), (785, .aload_n 2, 1, 0, 0, 0), (786, .aload_n 0, 1, 0, 0, 0), (787, .iload_n 3, 1, 0, 0, 0), (788, .iconst 1, 1, 0, 0, 0), (789, .iadd, 1, 0, 0, 0), (790, .iaload, 1, 0, 0, 0), (791, .aload_n 0, 1, 0, 0, 0), (792, .iload_n 3, 1, 0, 0, 0), (793, .iconst 2, 1, 0, 0, 0), (794, .iadd, 1, 0, 0, 0), (795, .iaload, 1, 0, 0, 0), (796, .aload_n 0, 1, 0, 0, 0), (797, .iload_n 3, 1, 0, 0, 0), (798, .iconst 3, 1, 0, 0, 0), (799, .iadd, 1, 0, 0, 0), (800, .iaload, 1, 0, 0, 0), (801, .invokevirtual 116, 3, 136, 3, 25), (804, .if_icmp .eq 97, 3, 901, 0, 0), (807, .iconst 0, 1, 0, 0, 0), (808, .ireturn, 1, 0, 0, 0), (809, .aload_n 1, 1, 0, 0, 0), (810, .aload_n 0, 1, 0, 0, 0), (811, .iload_n 3, 1, 0, 0, 0), (812, .iconst 1, 1, 0, 0, 0), (813, .iadd, 1, 0, 0, 0), (814, .iaload, 1, 0, 0, 0), (815, .aload_n 0, 1, 0, 0, 0), (816, .iload_n 3, 1, 0, 0, 0), (817, .iconst 2, 1, 0, 0, 0), (818, .iadd, 1, 0, 0, 0), (819, .iaload, 1, 0, 0, 0)] : List nl_E), decode code e.1 = .ok (e.2.1, e.2.2.1) := by decide +kernel
set_option maxRecDepth 100000 in
theorem nl_dl13 : ∀ e ∈ ([(820, .aload_n 0, 1, 0, 0, 0), (821, .iload_n 3, 1, 0, 0, 0), (822, .iconst 3, 1, 0, 0, 0), (823, .iadd, 1, 0, 0, 0), (824, .iaload, 1, 0, 0, 0), (825, .invokevirtual 117, 3, 67, 3, 21), (828, .aload_n 2, 1, 0, 0, 0), (829, .aload_n 0, 1, 0, 0, 0), (830, .iload_n 3, 1, 0, 0, 0), (831, .iconst 1, 1, 0, 0, 0), (832, .iadd, 1, 0, 0, 0), (833, .iaload, 1, 0, 0, 0), (834, .aload_n 0, 1, 0, 0, 0), (835, .iload_n 3, 1, 0, 0, 0), (836, .iconst 2, 1, 0, 0, 0), (837, .iadd, 1, 0, 0, 0), (838, .iaload, 1, 0, 0, 0), (839, .aload_n 0, 1, 0, 0, 0), (840, .iload_n 3, 1, 0, 0, 0), (841, .iconst 3, 1, 0, 0, 0), (842, .iadd, 1, 0, 0, 0), (843, .iaload, 1, 0, 0, 0), (844, .invokevirtual 120, 3, 138, 3, 25), (847, .if_icmp .eq 54, 3, 901, 0, 0), (850, .iconst 0, 1, 0, 0, 0), (851, .ireturn, 1, 0, 0, 0), (852, .aload_n 1, 1, 0, 0, 0), (853, .invokevirtual 121, 3, 68, 0, 21), (856, .aload_n 2, 1, 0, 0, 0), (857, .invokevirtual 124, 3, 139, 0, 25), (860, .if_icmp .eq 41, 3, 901, 0, 0), (863, .iconst 0, 1, 0, 0, 0), (864, .ireturn, 1, 0, 0, 0), (865, .aload_n 1, 1, 0, 0, 0), (866, .invokevirtual 125, 3, 69, 0, 21), (869, .aload_n 2, 1, 0, 0, 0), (870, .invokevirtual 128, 3, 140, 0, 25), (873, .if_icmp .eq 28, 3, 901, 0, 0), (876, .iconst 0, 1, 0, 0, 0), (877, .ireturn, 1, 0, 0, 0)] : List nl_E), decode code e.1 = .ok (e.2.1, e.2.2.1) := by decide +kernel
set_option maxRecDepth 100000 in
theorem nl_dl14 : ∀ e ∈ ([(878, .aload_n 1, 1, 0, 0, 0), (879, .aload_n 0, 1, 0, 0, 0), (880, .iload_n 3, 1, 0, 0, 0), (881, .iconst 1, 1, 0, 0, 0), (882, .iadd, 1, 0, 0, 0), (883, .iaload, 1, 0, 0, 0), (884, .invokevirtual 129, 3, 70, 1, 21), (887, .aload_n 2, 1, 0, 0, 0), (888, .aload_n 0, 1, 0, 0, 0), (889, .iload_n 3, 1, 0, 0, 0), (890, .iconst 1, 1, 0, 0, 0), (891, .iadd, 1, 0, 0, 0), (892, .iaload, 1, 0, 0, 0), (893, .invokevirtual 132, 3, 141, 1, 25), (896, .if_icmp .eq 5, 3, 901, 0, 0), (899, .iconst 0, 1, 0, 0, 0), (900, .ireturn, 1, 0, 0, 0), (901, .iinc 3 4, 3, 0, 0, 0), (904, .goto (-886), 3, 18, 0, 0), (907, .iconst 1, 1, 0, 0, 0), (908, .ireturn, 1, 0, 0, 0)] : List nl_E), decode code e.1 = .ok (e.2.1, e.2.2.1) := by decide +kernel
set_option maxRecDepth 100000 in
theorem nl_dl_eq : cd_L_law = ([(16, .iconst 0, 1, 0, 0, 0), (17, .istore_n 3, 1, 0, 0, 0), (18, .iload_n 3, 1, 0, 0, 0), (19, .aload_n 0, 1, 0, 0, 0), (20, .arraylength, 1, 0, 0, 0), (21, .iconst 4, 1, 0, 0, 0), (22, .isub, 1, 0, 0, 0), (23, .if_icmp .gt 884, 3, 907, 0, 0), (26, .aload_n 0, 1, 0, 0, 0), (27, .iload_n 3, 1, 0, 0, 0), (28, .iaload, 1, 0, 0, 0), (29, .bipush 31, 2, 0, 0, 0), (31, .iand, 1, 0, 0, 0), (32, .tableswitch 869 0 28 #[132, 155, 168, 181, 194, 227, 260, 293, 326, 349, 382, 405, 438, 451, 494, 507, 530, 553, 566, 589, 622, 665, 678, 701, 734, 777, 820, 833, 846], 132, 901, 1707305891332395179263381610569150620517447052024088268201288260251232719436449300278436, 29), (164, .aload_n 1, 1, 0, 0, 0), (165, .aload_n 0, 1, 0, 0, 0), (166, .iload_n 3, 1, 0, 0, 0), (167, .iconst 1, 1, 0, 0, 0), (168, .iadd, 1, 0, 0, 0), (169, .iaload, 1, 0, 0, 0), (170, .invokevirtual 13, 3, 42, 1, 21), (173, .aload_n 2, 1, 0, 0, 0), (174, .aload_n 0, 1, 0, 0, 0), (175, .iload_n 3, 1, 0, 0, 0), (176, .iconst 1, 1, 0, 0, 0), (177, .iadd, 1, 0, 0, 0), (178, .iaload, 1, 0, 0, 0), (179, .invokevirtual 17, 3, 84, 1, 25), (182, .if_icmp .eq 719, 3, 901, 0, 0), (185, .iconst 0, 1, 0, 0, 0), (186, .ireturn, 1, 0, 0, 0), (187, .aload_n 1, 1, 0, 0, 0), (188, .invokevirtual 18, 3, 43, 0, 21), (191, .aload_n 2, 1, 0, 0, 0), (192, .invokevirtual 22, 3, 85, 0, 25), (195, .if_icmp .eq 706, 3, 901, 0, 0), (198, .iconst 0, 1, 0, 0, 0), (199, .ireturn, 1, 0, 0, 0), (200, .aload_n 1, 1, 0, 0, 0), (201, .invokevirtual 23, 3, 44, 0, 21)] : List nl_E) ++ (([(204, .aload_n 2, 1, 0, 0, 0), (205, .invokevirtual 26, 3, 92, 0, 25), (208, .if_icmp .eq 693, 3, 901, 0, 0), (211, .iconst 0, 1, 0, 0, 0), (212, .ireturn, 1, 0, 0, 0), (213, .aload_n 1, 1, 0, 0, 0), (214, .invokevirtual 27, 3, 45, 0, 21), (217, .aload_n 2, 1, 0, 0, 0), (218, .invokevirtual 30, 3, 93, 0, 25), (221, .if_icmp .eq 680, 3, 901, 0, 0), (224, .iconst 0, 1, 0, 0, 0), (225, .ireturn, 1, 0, 0, 0), (226, .aload_n 1, 1, 0, 0, 0), (227, .aload_n 0, 1, 0, 0, 0), (228, .iload_n 3, 1, 0, 0, 0), (229, .iconst 1, 1, 0, 0, 0), (230, .iadd, 1, 0, 0, 0), (231, .iaload, 1, 0, 0, 0), (232, .aload_n 0, 1, 0, 0, 0), (233, .iload_n 3, 1, 0, 0, 0), (234, .iconst 2, 1, 0, 0, 0), (235, .iadd, 1, 0, 0, 0), (236, .iaload, 1, 0, 0, 0), (237, .invokevirtual 31, 3, 46, 2, 21), (240, .aload_n 2, 1, 0, 0, 0), (241, .aload_n 0, 1, 0, 0, 0), (242, .iload_n 3, 1, 0, 0, 0), (243, .iconst 1, 1, 0, 0, 0), (244, .iadd, 1, 0, 0, 0), (245, .iaload, 1, 0, 0, 0), (246, .aload_n 0, 1, 0, 0, 0), (247, .iload_n 3, 1, 0, 0, 0), (248, .iconst 2, 1, 0, 0, 0), (249, .iadd, 1, 0, 0, 0), (250, .iaload, 1, 0, 0, 0), (251, .invokevirtual 35, 3, 100, 2, 25), (254, .if_icmp .eq 647, 3, 901, 0, 0), (257, .iconst 0, 1, 0, 0, 0), (258, .ireturn, 1, 0, 0, 0), (259, .aload_n 1, 1, 0, 0, 0)] : List nl_E) ++ (([(260, .aload_n 0, 1, 0, 0, 0), (261, .iload_n 3, 1, 0, 0, 0), (262, .iconst 1, 1, 0, 0, 0), (263, .iadd, 1, 0, 0, 0), (264, .iaload, 1, 0, 0, 0), (265, .aload_n 0, 1, 0, 0, 0), (266, .iload_n 3, 1, 0, 0, 0), (267, .iconst 2, 1, 0, 0, 0), (268, .iadd, 1, 0, 0, 0), (269, .iaload, 1, 0, 0, 0), (270, .invokevirtual 36, 3, 47, 2, 21), (273, .aload_n 2, 1, 0, 0, 0), (274, .aload_n 0, 1, 0, 0, 0), (275, .iload_n 3, 1, 0, 0, 0), (276, .iconst 1, 1, 0, 0, 0), (277, .iadd, 1, 0, 0, 0), (278, .iaload, 1, 0, 0, 0), (279, .aload_n 0, 1, 0, 0, 0), (280, .iload_n 3, 1, 0, 0, 0), (281, .iconst 2, 1, 0, 0, 0), (282, .iadd, 1, 0, 0, 0), (283, .iaload, 1, 0, 0, 0), (284, .invokevirtual 39, 3, 102, 2, 25), (287, .if_icmp .eq 614, 3, 901, 0, 0), (290, .iconst 0, 1, 0, 0, 0), (291, .ireturn, 1, 0, 0, 0), (292, .aload_n 1, 1, 0, 0, 0), (293, .aload_n 0, 1, 0, 0, 0), (294, .iload_n 3, 1, 0, 0, 0), (295, .iconst 1, 1, 0, 0, 0), (296, .iadd, 1, 0, 0, 0), (297, .iaload, 1, 0, 0, 0), (298, .aload_n 0, 1, 0, 0, 0), (299, .iload_n 3, 1, 0, 0, 0), (300, .iconst 2, 1, 0, 0, 0), (301, .iadd, 1, 0, 0, 0), (302, .iaload, 1, 0, 0, 0), (303, .invokevirtual 40, 3, 48, 2, 21), (306, .aload_n 2, 1, 0, 0, 0), (307, .aload_n 0, 1, 0, 0, 0)] : List nl_E) ++ (([(308, .iload_n 3, 1, 0, 0, 0), (309, .iconst 1, 1, 0, 0, 0), (310, .iadd, 1, 0, 0, 0), (311, .iaload, 1, 0, 0, 0), (312, .aload_n 0, 1, 0, 0, 0), (313, .iload_n 3, 1, 0, 0, 0), (314, .iconst 2, 1, 0, 0, 0), (315, .iadd, 1, 0, 0, 0), (316, .iaload, 1, 0, 0, 0), (317, .invokevirtual 43, 3, 103, 2, 25), (320, .if_icmp .eq 581, 3, 901, 0, 0), (323, .iconst 0, 1, 0, 0, 0), (324, .ireturn, 1, 0, 0, 0), (325, .aload_n 1, 1, 0, 0, 0), (326, .aload_n 0, 1, 0, 0, 0), (327, .iload_n 3, 1, 0, 0, 0), (328, .iconst 1, 1, 0, 0, 0), (329, .iadd, 1, 0, 0, 0), (330, .iaload, 1, 0, 0, 0), (331, .aload_n 0, 1, 0, 0, 0), (332, .iload_n 3, 1, 0, 0, 0), (333, .iconst 2, 1, 0, 0, 0), (334, .iadd, 1, 0, 0, 0), (335, .iaload, 1, 0, 0, 0), (336, .invokevirtual 44, 3, 49, 2, 21), (339, .aload_n 2, 1, 0, 0, 0), (340, .aload_n 0, 1, 0, 0, 0), (341, .iload_n 3, 1, 0, 0, 0), (342, .iconst 1, 1, 0, 0, 0), (343, .iadd, 1, 0, 0, 0), (344, .iaload, 1, 0, 0, 0), (345, .aload_n 0, 1, 0, 0, 0), (346, .iload_n 3, 1, 0, 0, 0), (347, .iconst 2, 1, 0, 0, 0), (348, .iadd, 1, 0, 0, 0), (349, .iaload, 1, 0, 0, 0), (350, .invokevirtual 47, 3, 104, 2, 25), (353, .if_icmp .eq 548, 3, 901, 0, 0), (356, .iconst 0, 1, 0, 0, 0), (357, .ireturn, 1, 0, 0, 0)] : List nl_E) ++ (([(358, .aload_n 1, 1, 0, 0, 0), (359, .aload_n 0, 1, 0, 0, 0), (360, .iload_n 3, 1, 0, 0, 0), (361, .iconst 1, 1, 0, 0, 0), (362, .iadd, 1, 0, 0, 0), (363, .iaload, 1, 0, 0, 0), (364, .invokevirtual 48, 3, 50, 1, 21), (367, .aload_n 2, 1, 0, 0, 0), (368, .aload_n 0, 1, 0, 0, 0), (369, .iload_n 3, 1, 0, 0, 0), (370, .iconst 1, 1, 0, 0, 0), (371, .iadd, 1, 0, 0, 0), (372, .iaload, 1, 0, 0, 0), (373, .invokevirtual 51, 3, 108, 1, 25), (376, .if_icmp .eq 525, 3, 901, 0, 0), (379, .iconst 0, 1, 0, 0, 0), (380, .ireturn, 1, 0, 0, 0), (381, .aload_n 1, 1, 0, 0, 0), (382, .aload_n 0, 1, 0, 0, 0), (383, .iload_n 3, 1, 0, 0, 0), (384, .iconst 1, 1, 0, 0, 0), (385, .iadd, 1, 0, 0, 0), (386, .iaload, 1, 0, 0, 0), (387, .aload_n 0, 1, 0, 0, 0), (388, .iload_n 3, 1, 0, 0, 0), (389, .iconst 2, 1, 0, 0, 0), (390, .iadd, 1, 0, 0, 0), (391, .iaload, 1, 0, 0, 0), (392, .invokevirtual 52, 3, 51, 2, 21), (395, .aload_n 2, 1, 0, 0, 0), (396, .aload_n 0, 1, 0, 0, 0), (397, .iload_n 3, 1, 0, 0, 0), (398, .iconst 1, 1, 0, 0, 0), (399, .iadd, 1, 0, 0, 0), (400, .iaload, 1, 0, 0, 0), (401, .aload_n 0, 1, 0, 0, 0), (402, .iload_n 3, 1, 0, 0, 0), (403, .iconst 2, 1, 0, 0, 0), (404, .iadd, 1, 0, 0, 0), (405, .iaload, 1, 0, 0, 0)] : List nl_E) ++ (([(406, .invokevirtual 55, 3, 110, 2, 25), (409, .if_icmp .eq 492, 3, 901, 0, 0), (412, .iconst 0, 1, 0, 0, 0), (413, .ireturn, 1, 0, 0, 0), (414, .aload_n 1, 1, 0, 0, 0), (415, .aload_n 0, 1, 0, 0, 0), (416, .iload_n 3, 1, 0, 0, 0), (417, .iconst 1, 1, 0, 0, 0), (418, .iadd, 1, 0, 0, 0), (419, .iaload, 1, 0, 0, 0), (420, .invokevirtual 56, 3, 52, 1, 21), (423, .aload_n 2, 1, 0, 0, 0), (424, .aload_n 0, 1, 0, 0, 0), (425, .iload_n 3, 1, 0, 0, 0), (426, .iconst 1, 1, 0, 0, 0), (427, .iadd, 1, 0, 0, 0), (428, .iaload, 1, 0, 0, 0), (429, .invokevirtual 59, 3, 112, 1, 25), (432, .if_icmp .eq 469, 3, 901, 0, 0), (435, .iconst 0, 1, 0, 0, 0), (436, .ireturn, 1, 0, 0, 0), (437, .aload_n 1, 1, 0, 0, 0), (438, .aload_n 0, 1, 0, 0, 0), (439, .iload_n 3, 1, 0, 0, 0), (440, .iconst 1, 1, 0, 0, 0), (441, .iadd, 1, 0, 0, 0), (442, .iaload, 1, 0, 0, 0), (443, .aload_n 0, 1, 0, 0, 0), (444, .iload_n 3, 1, 0, 0, 0), (445, .iconst 2, 1, 0, 0, 0), (446, .iadd, 1, 0, 0, 0), (447, .iaload, 1, 0, 0, 0), (448, .invokevirtual 60, 3, 53, 2, 21), (451, .aload_n 2, 1, 0, 0, 0), (452, .aload_n 0, 1, 0, 0, 0), (453, .iload_n 3, 1, 0, 0, 0), (454, .iconst 1, 1, 0, 0, 0), (455, .iadd, 1, 0, 0, 0), (456, .iaload, 1, 0, 0, 0), (457, .aload_n 0, 1, 0, 0, 0)] : List nl_E) ++ (([(458, .iload_n 3, 1, 0, 0, 0), (459, .iconst 2, 1, 0, 0, 0), (460, .iadd, 1, 0, 0, 0), (461, .iaload, 1, 0, 0, 0), (462, .invokevirtual 63, 3, 113, 2, 25), (465, .if_icmp .eq 436, 3, 901, 0, 0), (468, .iconst 0, 1, 0, 0, 0), (469, .ireturn, 1, 0, 0, 0), (470, .aload_n 1, 1, 0, 0, 0), (471, .invokevirtual 64, 3, 54, 0, 21), (474, .aload_n 2, 1, 0, 0, 0), (475, .invokevirtual 67, 3, 114, 0, 25), (478, .if_icmp .eq 423, 3, 901, 0, 0), (481, .iconst 0, 1, 0, 0, 0), (482, .ireturn, 1, 0, 0, 0), (483, .aload_n 1, 1, 0, 0, 0), (484, .aload_n 0, 1, 0, 0, 0), (485, .iload_n 3, 1, 0, 0, 0), (486, .iconst 1, 1, 0, 0, 0), (487, .iadd, 1, 0, 0, 0), (488, .iaload, 1, 0, 0, 0), (489, .aload_n 0, 1, 0, 0, 0), (490, .iload_n 3, 1, 0, 0, 0), (491, .iconst 2, 1, 0, 0, 0), (492, .iadd, 1, 0, 0, 0), (493, .iaload, 1, 0, 0, 0), (494, .aload_n 0, 1, 0, 0, 0), (495, .iload_n 3, 1, 0, 0, 0), (496, .iconst 3, 1, 0, 0, 0), (497, .iadd, 1, 0, 0, 0), (498, .iaload, 1, 0, 0, 0), (499, .invokevirtual 68, 3, 55, 3, 21), (502, .aload_n 2, 1, 0, 0, 0), (503, .aload_n 0, 1, 0, 0, 0), (504, .iload_n 3, 1, 0, 0, 0), (505, .iconst 1, 1, 0, 0, 0), (506, .iadd, 1, 0, 0, 0), (507, .iaload, 1, 0, 0, 0), (508, .aload_n 0, 1, 0, 0, 0), (509, .iload_n 3, 1, 0, 0, 0)] : List nl_E) ++ (([(510, .iconst 2, 1, 0, 0, 0), (511, .iadd, 1, 0, 0, 0), (512, .iaload, 1, 0, 0, 0), (513, .aload_n 0, 1, 0, 0, 0), (514, .iload_n 3, 1, 0, 0, 0), (515, .iconst 3, 1, 0, 0, 0), (516, .iadd, 1, 0, 0, 0), (517, .iaload, 1, 0, 0, 0), (518, .invokevirtual 72, 3, 117, 3, 25), (521, .if_icmp .eq 380, 3, 901, 0, 0), (524, .iconst 0, 1, 0, 0, 0), (525, .ireturn, 1, 0, 0, 0), (526, .aload_n 1, 1, 0, 0, 0), (527, .invokevirtual 73, 3, 56, 0, 21), (530, .aload_n 2, 1, 0, 0, 0), (531, .invokevirtual 76, 3, 118, 0, 25), (534, .if_icmp .eq 367, 3, 901, 0, 0), (537, .iconst 0, 1, 0, 0, 0), (538, .ireturn, 1, 0, 0, 0), (539, .aload_n 1, 1, 0, 0, 0), (540, .aload_n 0, 1, 0, 0, 0), (541, .iload_n 3, 1, 0, 0, 0), (542, .iconst 1, 1, 0, 0, 0), (543, .iadd, 1, 0, 0, 0), (544, .iaload, 1, 0, 0, 0), (545, .invokevirtual 77, 3, 57, 1, 21), (548, .aload_n 2, 1, 0, 0, 0), (549, .aload_n 0, 1, 0, 0, 0), (550, .iload_n 3, 1, 0, 0, 0), (551, .iconst 1, 1, 0, 0, 0), (552, .iadd, 1, 0, 0, 0), (553, .iaload, 1, 0, 0, 0), (554, .invokevirtual 80, 3, 119, 1, 25), (557, .if_icmp .eq 344, 3, 901, 0, 0), (560, .iconst 0, 1, 0, 0, 0), (561, .ireturn, 1, 0, 0, 0), (562, .aload_n 1, 1, 0, 0, 0), (563, .aload_n 0, 1, 0, 0, 0), (564, .iload_n 3, 1, 0, 0, 0), (565, .iconst 1, 1, 0, 0, 0)] : List nl_E) ++ (([(566, .iadd, 1, 0, 0, 0), (567, .iaload, 1, 0, 0, 0), (568, .invokevirtual 81, 3, 58, 1, 21), (571, .aload_n 2, 1, 0, 0, 0), (572, .aload_n 0, 1, 0, 0, 0), (573, .iload_n 3, 1, 0, 0, 0), (574, .iconst 1, 1, 0, 0, 0), (575, .iadd, 1, 0, 0, 0), (576, .iaload, 1, 0, 0, 0), (577, .invokevirtual 84, 3, 124, 1, 25), (580, .if_icmp .eq 321, 3, 901, 0, 0), (583, .iconst 0, 1, 0, 0, 0), (584, .ireturn, 1, 0, 0, 0), (585, .aload_n 1, 1, 0, 0, 0), (586, .invokevirtual 85, 3, 59, 0, 21), (589, .aload_n 2, 1, 0, 0, 0), (590, .invokevirtual 88, 3, 126, 0, 25), (593, .if_icmp .eq 308, 3, 901, 0, 0), (596, .iconst 0, 1, 0, 0, 0), (597, .ireturn, 1, 0, 0, 0), (598, .aload_n 1, 1, 0, 0, 0), (599, .aload_n 0, 1, 0, 0, 0), (600, .iload_n 3, 1, 0, 0, 0), (601, .iconst 1, 1, 0, 0, 0), (602, .iadd, 1, 0, 0, 0), (603, .iaload, 1, 0, 0, 0), (604, .invokevirtual 89, 3, 60, 1, 21), (607, .aload_n 2, 1, 0, 0, 0), (608, .aload_n 0, 1, 0, 0, 0), (609, .iload_n 3, 1, 0, 0, 0), (610, .iconst 1, 1, 0, 0, 0), (611, .iadd, 1, 0, 0, 0), (612, .iaload, 1, 0, 0, 0), (613, .invokevirtual 92, 3, 128, 1, 25), (616, .if_icmp .eq 285, 3, 901, 0, 0), (619, .iconst 0, 1, 0, 0, 0), (620, .ireturn, 1, 0, 0, 0), (621, .aload_n 1, 1, 0, 0, 0), (622, .aload_n 0, 1, 0, 0, 0), (623, .iload_n 3, 1, 0, 0, 0)] : List nl_E) ++ (([(624, .iconst 1, 1, 0, 0, 0), (625, .iadd, 1, 0, 0, 0), (626, .iaload, 1, 0, 0, 0), (627, .aload_n 0, 1, 0, 0, 0), (628, .iload_n 3, 1, 0, 0, 0), (629, .iconst 2, 1, 0, 0, 0), (630, .iadd, 1, 0, 0, 0), (631, .iaload, 1, 0, 0, 0), (632, .invokevirtual 93, 3, 61, 2, 21), (635, .aload_n 2, 1, 0, 0, 0), (636, .aload_n 0, 1, 0, 0, 0), (637, .iload_n 3, 1, 0, 0, 0), (638, .iconst 1, 1, 0, 0, 0), (639, .iadd, 1, 0, 0, 0), (640, .iaload, 1, 0, 0, 0), (641, .aload_n 0, 1, 0, 0, 0), (642, .iload_n 3, 1, 0, 0, 0), (643, .iconst 2, 1, 0, 0, 0), (644, .iadd, 1, 0, 0, 0), (645, .iaload, 1, 0, 0, 0), (646, .invokevirtual 96, 3, 129, 2, 25), (649, .if_icmp .eq 252, 3, 901, 0, 0), (652, .iconst 0, 1, 0, 0, 0), (653, .ireturn, 1, 0, 0, 0), (654, .aload_n 1, 1, 0, 0, 0), (655, .aload_n 0, 1, 0, 0, 0), (656, .iload_n 3, 1, 0, 0, 0), (657, .iconst 1, 1, 0, 0, 0), (658, .iadd, 1, 0, 0, 0), (659, .iaload, 1, 0, 0, 0), (660, .aload_n 0, 1, 0, 0, 0), (661, .iload_n 3, 1, 0, 0, 0), (662, .iconst 2, 1, 0, 0, 0), (663, .iadd, 1, 0, 0, 0), (664, .iaload, 1, 0, 0, 0), (665, .aload_n 0, 1, 0, 0, 0), (666, .iload_n 3, 1, 0, 0, 0), (667, .iconst 3, 1, 0, 0, 0), (668, .iadd, 1, 0, 0, 0), (669, .iaload, 1, 0, 0, 0)] : List nl_E) ++ (([(670, .invokevirtual 97, 3, 62, 3, 21), (673, .aload_n 2, 1, 0, 0, 0), (674, .aload_n 0, 1, 0, 0, 0), (675, .iload_n 3, 1, 0, 0, 0), (676, .iconst 1, 1, 0, 0, 0), (677, .iadd, 1, 0, 0, 0), (678, .iaload, 1, 0, 0, 0), (679, .aload_n 0, 1, 0, 0, 0), (680, .iload_n 3, 1, 0, 0, 0), (681, .iconst 2, 1, 0, 0, 0), (682, .iadd, 1, 0, 0, 0), (683, .iaload, 1, 0, 0, 0), (684, .aload_n 0, 1, 0, 0, 0), (685, .iload_n 3, 1, 0, 0, 0), (686, .iconst 3, 1, 0, 0, 0), (687, .iadd, 1, 0, 0, 0), (688, .iaload, 1, 0, 0, 0), (689, .invokevirtual 100, 3, 130, 3, 25), (692, .if_icmp .eq 209, 3, 901, 0, 0), (695, .iconst 0, 1, 0, 0, 0), (696, .ireturn, 1, 0, 0, 0), (697, .aload_n 1, 1, 0, 0, 0), (698, .invokevirtual 101, 3, 63, 0, 21), (701, .aload_n 2, 1, 0, 0, 0), (702, .invokevirtual 104, 3, 131, 0, 25), (705, .if_icmp .eq 196, 3, 901, 0, 0), (708, .iconst 0, 1, 0, 0, 0), (709, .ireturn, 1, 0, 0, 0), (710, .aload_n 1, 1, 0, 0, 0), (711, .aload_n 0, 1, 0, 0, 0), (712, .iload_n 3, 1, 0, 0, 0), (713, .iconst 1, 1, 0, 0, 0), (714, .iadd, 1, 0, 0, 0), (715, .iaload, 1, 0, 0, 0), (716, .invokevirtual 105, 3, 64, 1, 21), (719, .aload_n 2, 1, 0, 0, 0), (720, .aload_n 0, 1, 0, 0, 0), (721, .iload_n 3, 1, 0, 0, 0), (722, .iconst 1, 1, 0, 0, 0), (723, .iadd, 1, 0, 0, 0)] : List nl_E) ++ (([(724, .iaload, 1, 0, 0, 0), (725, .invokevirtual 108, 3, 133, 1, 25), (728, .if_icmp .eq 173, 3, 901, 0, 0), (731, .iconst 0, 1, 0, 0, 0), (732, .ireturn, 1, 0, 0, 0), (733, .aload_n 1, 1, 0, 0, 0), (734, .aload_n 0, 1, 0, 0, 0), (735, .iload_n 3, 1, 0, 0, 0), (736, .iconst 1, 1, 0, 0, 0), (737, .iadd, 1, 0, 0, 0), (738, .iaload, 1, 0, 0, 0), (739, .aload_n 0, 1, 0, 0, 0), (740, .iload_n 3, 1, 0, 0, 0), (741, .iconst 2, 1, 0, 0, 0), (742, .iadd, 1, 0, 0, 0), (743, .iaload, 1, 0, 0, 0), (744, .invokevirtual 109, 3, 65, 2, 21), (747, .aload_n 2, 1, 0, 0, 0), (748, .aload_n 0, 1, 0, 0, 0), (749, .iload_n 3, 1, 0, 0, 0), (750, .iconst 1, 1, 0, 0, 0), (751, .iadd, 1, 0, 0, 0), (752, .iaload, 1, 0, 0, 0), (753, .aload_n 0, 1, 0, 0, 0), (754, .iload_n 3, 1, 0, 0, 0), (755, .iconst 2, 1, 0, 0, 0), (756, .iadd, 1, 0, 0, 0), (757, .iaload, 1, 0, 0, 0), (758, .invokevirtual 112, 3, 134, 2, 25), (761, .if_icmp .eq 140, 3, 901, 0, 0), (764, .iconst 0, 1, 0, 0, 0), (765, .ireturn, 1, 0, 0, 0), (766, .aload_n 1, 1, 0, 0, 0), (767, .aload_n 0, 1, 0, 0, 0), (768, .iload_n 3, 1, 0, 0, 0), (769, .iconst 1, 1, 0, 0, 0), (770, .iadd, 1, 0, 0, 0), (771, .iaload, 1, 0, 0, 0), (772, .aload_n 0, 1, 0, 0, 0), (773, .iload_n 3, 1, 0, 0, 0)] : List nl_E) ++ (([(774, .iconst 2, 1, 0, 0, 0), (775, .iadd, 1, 0, 0, 0), (776, .iaload, 1, 0, 0, 0), (777, .aload_n 0, 1, 0, 0, 0), (778, .iload_n 3, 1, 0, 0, 0), (779, .iconst 3, 1, 0, 0, 0), (780, .iadd, 1, 0, 0, 0), (781, .iaload, 1, 0, 0, 0), (782, .invokevirtual 113, 3, 66, 3, 21), (785, .aload_n 2, 1, 0, 0, 0), (786, .aload_n 0, 1, 0, 0, 0), (787, .iload_n 3, 1, 0, 0, 0), (788, .iconst 1, 1, 0, 0, 0), (789, .iadd, 1, 0, 0, 0), (790, .iaload, 1, 0, 0, 0), (791, .aload_n 0, 1, 0, 0, 0), (792, .iload_n 3, 1, 0, 0, 0), (793, .iconst 2, 1, 0, 0, 0), (794, .iadd, 1, 0, 0, 0), (795, .iaload, 1, 0, 0, 0), (796, .aload_n 0, 1, 0, 0, 0), (797, .iload_n 3, 1, 0, 0, 0), (798, .iconst 3, 1, 0, 0, 0), (799, .iadd, 1, 0, 0, 0), (800, .iaload, 1, 0, 0, 0), (801, .invokevirtual 116, 3, 136, 3, 25), (804, .if_icmp .eq 97, 3, 901, 0, 0), (807, .iconst 0, 1, 0, 0, 0), (808, .ireturn, 1, 0, 0, 0), (809, .aload_n 1, 1, 0, 0, 0), (810, .aload_n 0, 1, 0, 0, 0), (811, .iload_n 3, 1, 0, 0, 0), (812, .iconst 1, 1, 0, 0, 0), (813, .iadd, 1, 0, 0, 0), (814, .iaload, 1, 0, 0, 0), (815, .aload_n 0, 1, 0, 0, 0), (816, .iload_n 3, 1, 0, 0, 0), (817, .iconst 2, 1, 0, 0, 0), (818, .iadd, 1, 0, 0, 0), (819, .iaload, 1, 0, 0, 0)] : List nl_E) ++ (([(820, .aload_n 0, 1, 0, 0, 0), (821, .iload_n 3, 1, 0, 0, 0), (822, .iconst 3, 1, 0, 0, 0), (823, .iadd, 1, 0, 0, 0), (824, .iaload, 1, 0, 0, 0), (825, .invokevirtual 117, 3, 67, 3, 21), (828, .aload_n 2, 1, 0, 0, 0), (829, .aload_n 0, 1, 0, 0, 0), (830, .iload_n 3, 1, 0, 0, 0), (831, .iconst 1, 1, 0, 0, 0), (832, .iadd, 1, 0, 0, 0), (833, .iaload, 1, 0, 0, 0), (834, .aload_n 0, 1, 0, 0, 0), (835, .iload_n 3, 1, 0, 0, 0), (836, .iconst 2, 1, 0, 0, 0), (837, .iadd, 1, 0, 0, 0), (838, .iaload, 1, 0, 0, 0), (839, .aload_n 0, 1, 0, 0, 0), (840, .iload_n 3, 1, 0, 0, 0), (841, .iconst 3, 1, 0, 0, 0), (842, .iadd, 1, 0, 0, 0), (843, .iaload, 1, 0, 0, 0), (844, .invokevirtual 120, 3, 138, 3, 25), (847, .if_icmp .eq 54, 3, 901, 0, 0), (850, .iconst 0, 1, 0, 0, 0), (851, .ireturn, 1, 0, 0, 0), (852, .aload_n 1, 1, 0, 0, 0), (853, .invokevirtual 121, 3, 68, 0, 21), (856, .aload_n 2, 1, 0, 0, 0), (857, .invokevirtual 124, 3, 139, 0, 25), (860, .if_icmp .eq 41, 3, 901, 0, 0), (863, .iconst 0, 1, 0, 0, 0), (864, .ireturn, 1, 0, 0, 0), (865, .aload_n 1, 1, 0, 0, 0), (866, .invokevirtual 125, 3, 69, 0, 21), (869, .aload_n 2, 1, 0, 0, 0), (870, .invokevirtual 128, 3, 140, 0, 25), (873, .if_icmp .eq 28, 3, 901, 0, 0), (876, .iconst 0, 1, 0, 0, 0), (877, .ireturn, 1, 0, 0, 0)] : List nl_E) ++ (([(878, .aload_n 1, 1, 0, 0, 0), (879, .aload_n 0, 1, 0, 0, 0), (880, .iload_n 3, 1, 0, 0, 0), (881, .iconst 1, 1, 0, 0, 0), (882, .iadd, 1, 0, 0, 0), (883, .iaload, 1, 0, 0, 0), (884, .invokevirtual 129, 3, 70, 1, 21), (887, .aload_n 2, 1, 0, 0, 0), (888, .aload_n 0, 1, 0, 0, 0), (889, .iload_n 3, 1, 0, 0, 0), (890, .iconst 1, 1, 0, 0, 0), (891, .iadd, 1, 0, 0, 0), (892, .iaload, 1, 0, 0, 0), (893, .invokevirtual 132, 3, 141, 1, 25), (896, .if_icmp .eq 5, 3, 901, 0, 0), (899, .iconst 0, 1, 0, 0, 0), (900, .ireturn, 1, 0, 0, 0), (901, .iinc 3 4, 3, 0, 0, 0), (904, .goto (-886), 3, 18, 0, 0), (907, .iconst 1, 1, 0, 0, 0), (908, .ireturn, 1, 0, 0, 0)] : List nl_E))))))))))))))) := rfl
theorem nl_dL : ∀ e ∈ cd_L_law, decode code e.1 = .ok (e.2.1, e.2.2.1) := by
  rw [nl_dl_eq]
  exact List.forall_mem_append.mpr ⟨nl_dl0, List.forall_mem_append.mpr ⟨nl_dl1, List.forall_mem_append.mpr ⟨nl_dl2, List.forall_mem_append.mpr ⟨nl_dl3, List.forall_mem_append.mpr ⟨nl_dl4, List.forall_mem_append.mpr ⟨nl_dl5, List.forall_mem_append.mpr ⟨nl_dl6, List.forall_mem_append.mpr ⟨nl_dl7, List.forall_mem_append.mpr ⟨nl_dl8, List.forall_mem_append.mpr ⟨nl_dl9, List.forall_mem_append.mpr ⟨nl_dl10, List.forall_mem_append.mpr ⟨nl_dl11, List.forall_mem_append.mpr ⟨nl_dl12, List.forall_mem_append.mpr ⟨nl_dl13, nl_dl14⟩⟩⟩⟩⟩⟩⟩⟩⟩⟩⟩⟩⟩⟩
theorem nl_pn0 : plainName (nl_R 0) = true ∧ nl_R 0 ≠ "java/lang/invoke/MethodHandle" ∧ nl_R 0 ≠ "java/lang/invoke/VarHandle" := by decide +kernel
theorem nl_pn1 : plainName (nl_R 1) = true ∧ nl_R 1 ≠ "java/lang/invoke/MethodHandle" ∧ nl_R 1 ≠ "java/lang/invoke/VarHandle" := by decide +kernel
theorem nl_pn2 : plainName (nl_R 2) = true ∧ nl_R 2 ≠ "java/lang/invoke/MethodHandle" ∧ nl_R 2 ≠ "java/lang/invoke/VarHandle" := by decide +kernel
theorem nl_pn3 : plainName (nl_R 3) = true ∧ nl_R 3 ≠ "java/lang/invoke/MethodHandle" ∧ nl_R 3 ≠ "java/lang/invoke/VarHandle" := by decide +kernel
theorem nl_pn4 : plainName (nl_R 4) = true ∧ nl_R 4 ≠ "java/lang/invoke/MethodHandle" ∧ nl_R 4 ≠ "java/lang/invoke/VarHandle" := by decide +kernel
theorem nl_pn5 : plainName (nl_R 5) = true ∧ nl_R 5 ≠ "java/lang/invoke/MethodHandle" ∧ nl_R 5 ≠ "java/lang/invoke/VarHandle" := by decide +kernel
theorem nl_pn6 : plainName (nl_R 6) = true ∧ nl_R 6 ≠ "java/lang/invoke/MethodHandle" ∧ nl_R 6 ≠ "java/lang/invoke/VarHandle" := by decide +kernel
theorem nl_pn8 : plainName (nl_R 8) = true ∧ nl_R 8 ≠ "java/lang/invoke/MethodHandle" ∧ nl_R 8 ≠ "java/lang/invoke/VarHandle" := by decide +kernel
end
section
/-! Numbers of the abstract machine against Int32, Int64. -/
theorem nx_toInt (x : Int) : (Int32.ofInt x).toInt = nl_nz x := by
  rw [Int32.toInt_ofInt, nx_nzd]
theorem nx_toIntL (x : Int) : (Int64.ofInt x).toInt = nl_nl x := by
  rw [Int64.toInt_ofInt, nx_nld]
theorem nx_nz (x : Int) : -2147483648 ≤ nl_nz x ∧ nl_nz x < 2147483648 := by
  rw [nx_nzd]
  have h1 := Int.le_bmod (x := x) (m := 4294967296) (by decide)
  have h2 := Int.bmod_lt (x := x) (m := 4294967296) (by decide)
  omega
theorem nx_nl (x : Int) : -9223372036854775808 ≤ nl_nl x ∧ nl_nl x < 9223372036854775808 := by
  rw [nx_nld]
  have h1 := Int.le_bmod (x := x) (m := 18446744073709551616) (by decide)
  have h2 := Int.bmod_lt (x := x) (m := 18446744073709551616) (by decide)
  omega
theorem nx_of {x : Int} (h1 : -2147483648 ≤ x) (h2 : x < 2147483648) : nl_nz x = x := by
  rw [nx_nzd]
  exact Int.bmod_eq_of_le (by omega) (by omega)
theorem nx_ofL {x : Int} (h1 : -9223372036854775808 ≤ x) (h2 : x < 9223372036854775808) : nl_nl x = x := by
  rw [nx_nld]
  exact Int.bmod_eq_of_le (by omega) (by omega)
theorem nx_id (x : Int) : Int32.ofInt (nl_nz x) = Int32.ofInt x := by
  rw [← nx_toInt, Int32.ofInt_toInt]
theorem nx_idL (x : Int) : Int64.ofInt (nl_nl x) = Int64.ofInt x := by
  rw [← nx_toIntL, Int64.ofInt_toInt]
theorem nx_lt (x y : Int) : Int32.ofInt x < Int32.ofInt y ↔ nl_nz x < nl_nz y := by
  rw [Int32.lt_iff_toInt_lt, nx_toInt, nx_toInt]
theorem nx_le (x y : Int) : Int32.ofInt x ≤ Int32.ofInt y ↔ nl_nz x ≤ nl_nz y := by
  rw [Int32.le_iff_toInt_le, nx_toInt, nx_toInt]
theorem nx_eq (x y : Int) : Int32.ofInt x = Int32.ofInt y ↔ nl_nz x = nl_nz y := by
  rw [← Int32.toInt_inj, nx_toInt, nx_toInt]
theorem nx_ltL (x y : Int) : Int64.ofInt x < Int64.ofInt y ↔ nl_nl x < nl_nl y := by
  rw [Int64.lt_iff_toInt_lt, nx_toIntL, nx_toIntL]
theorem nx_eqL (x y : Int) : Int64.ofInt x = Int64.ofInt y ↔ nl_nl x = nl_nl y := by
  rw [← Int64.toInt_inj, nx_toIntL, nx_toIntL]
theorem nx_0 : nl_nz 0 = 0 := nx_of (by decide) (by decide)
theorem nx_eq0 (x : Int) : Int32.ofInt x = 0 ↔ nl_nz x = 0 := by
  have h := nx_eq x 0
  rw [nx_0] at h
  exact h
theorem nx_lt0 (x : Int) : Int32.ofInt x < 0 ↔ nl_nz x < 0 := by
  have h := nx_lt x 0
  rw [nx_0] at h
  exact h
theorem nx_le0 (x : Int) : Int32.ofInt x ≤ 0 ↔ nl_nz x ≤ 0 := by
  have h := nx_le x 0
  rw [nx_0] at h
  exact h
theorem nx_0lt (x : Int) : 0 < Int32.ofInt x ↔ 0 < nl_nz x := by
  have h := nx_lt 0 x
  rw [nx_0] at h
  exact h
theorem nx_0le (x : Int) : 0 ≤ Int32.ofInt x ↔ 0 ≤ nl_nz x := by
  have h := nx_le 0 x
  rw [nx_0] at h
  exact h
theorem nx_cl (x : Int) : (Int32.ofInt x).toNatClampNeg = (nl_nz x).toNat := by
  show (Int32.ofInt x).toInt.toNat = _
  rw [nx_toInt]
theorem nx_in {i : Int} {n : Nat} (h : 0 ≤ nl_nz i ∧ nl_nz i < n) : ¬ (Int32.ofInt i < 0 ∨ n ≤ (Int32.ofInt i).toNatClampNeg) := by
  rw [nx_lt0, nx_cl]
  omega
theorem nx_div (x y : Int) : Int32.ofInt x / Int32.ofInt y = Int32.ofInt ((nl_nz x).tdiv (nl_nz y)) := by
  apply Int32.toInt_inj.mp
  rw [Int32.toInt_div, nx_toInt, nx_toInt, nx_toInt, nx_nzd ((nl_nz x).tdiv (nl_nz y))]
theorem nx_rem (x y : Int) : Int32.ofInt x - Int32.ofInt x / Int32.ofInt y * Int32.ofInt y = Int32.ofInt ((nl_nz x).tmod (nl_nz y)) := by
  rw [nx_div, ← Int32.ofInt_mul, ← Int32.ofInt_sub]
  rw [nx_eq]
  have e : (nl_nz x).tmod (nl_nz y) = nl_nz x - (nl_nz x).tdiv (nl_nz y) * nl_nz y := by
    rw [Int.tmod_def, Int.mul_comm]
  rw [e]
  simp only [nx_nzd]
  rw [Int.sub_bmod, Int.mul_bmod]
  conv => rhs; rw [Int.sub_bmod, Int.mul_bmod]
  simp
theorem nx_divL (x y : Int) : Int64.ofInt x / Int64.ofInt y = Int64.ofInt ((nl_nl x).tdiv (nl_nl y)) := by
  apply Int64.toInt_inj.mp
  rw [Int64.toInt_div, nx_toIntL, nx_toIntL, nx_toIntL, nx_nld ((nl_nl x).tdiv (nl_nl y))]
theorem nx_remL (x y : Int) : Int64.ofInt x - Int64.ofInt x / Int64.ofInt y * Int64.ofInt y = Int64.ofInt ((nl_nl x).tmod (nl_nl y)) := by
  rw [nx_divL, ← Int64.ofInt_mul, ← Int64.ofInt_sub]
  rw [nx_eqL]
  have e : (nl_nl x).tmod (nl_nl y) = nl_nl x - (nl_nl x).tdiv (nl_nl y) * nl_nl y := by
    rw [Int.tmod_def, Int.mul_comm]
  rw [e]
  simp only [nx_nld]
  rw [Int.sub_bmod, Int.mul_bmod]
  conv => rhs; rw [Int.sub_bmod, Int.mul_bmod]
  simp
theorem nx_nI {x : Int} (h : 0 ≤ nl_nz x) : Int32.ofInt x = nI (nl_nz x).toNat := by
  rw [← nx_id x]
  unfold nI
  rw [← Int32.ofInt_eq_ofNat, Int.toNat_of_nonneg h]
theorem nx_nIof (n : Nat) : Int32.ofInt (n : Int) = nI n := by
  unfold nI
  rw [Int32.ofInt_eq_ofNat]
theorem nx_and {x y : Int} (hx : 0 ≤ nl_nz x) (hy : 0 ≤ nl_nz y) : Int32.ofInt x &&& Int32.ofInt y = Int32.ofInt (((nl_nz x).toNat &&& (nl_nz y).toNat : Nat)) := by
  have bx := nx_nz x
  have b_y := nx_nz y
  rw [nx_nI hx, nx_nI hy, nx_nIof]
  have e : ∀ n : Nat, (nI n).toBitVec = BitVec.ofNat 32 n := fun n => rfl
  apply Int32.toBitVec_inj.mp
  rw [Int32.toBitVec_and, e, e, e]
  apply BitVec.eq_of_toNat_eq
  rw [BitVec.toNat_and, BitVec.toNat_ofNat, BitVec.toNat_ofNat, BitVec.toNat_ofNat]
  rw [Nat.mod_eq_of_lt (show (nl_nz x).toNat < 2 ^ 32 by omega), Nat.mod_eq_of_lt (show (nl_nz y).toNat < 2 ^ 32 by omega)]
  rw [Nat.mod_eq_of_lt (Nat.lt_of_le_of_lt Nat.and_le_left (show (nl_nz x).toNat < 2 ^ 32 by omega))]
theorem nx_or {x y : Int} (hx : 0 ≤ nl_nz x) (hy : 0 ≤ nl_nz y) : Int32.ofInt x ||| Int32.ofInt y = Int32.ofInt (((nl_nz x).toNat ||| (nl_nz y).toNat : Nat)) := by
  have bx := nx_nz x
  have b_y := nx_nz y
  rw [nx_nI hx, nx_nI hy, nx_nIof]
  have e : ∀ n : Nat, (nI n).toBitVec = BitVec.ofNat 32 n := fun n => rfl
  apply Int32.toBitVec_inj.mp
  rw [Int32.toBitVec_or, e, e, e]
  apply BitVec.eq_of_toNat_eq
  rw [BitVec.toNat_or, BitVec.toNat_ofNat, BitVec.toNat_ofNat, BitVec.toNat_ofNat]
  rw [Nat.mod_eq_of_lt (show (nl_nz x).toNat < 2 ^ 32 by omega), Nat.mod_eq_of_lt (show (nl_nz y).toNat < 2 ^ 32 by omega)]
  rw [Nat.mod_eq_of_lt (Nat.or_lt_two_pow (show (nl_nz x).toNat < 2 ^ 32 by omega) (show (nl_nz y).toNat < 2 ^ 32 by omega))]
theorem nx_s31 : ∀ k : Nat, k < 32 → (((nI k) &&& 31).toBitVec.smod 32).toNat = k := by decide +kernel
theorem nx_s31u : ∀ k : Nat, k < 32 → (((nI k).toUInt32 &&& Int32.toUInt32 31).toBitVec % 32).toNat = k := by decide +kernel
theorem nx_sk {y : Int} (h : 0 ≤ nl_nz y ∧ nl_nz y < 32) : ((Int32.ofInt y &&& 31).toBitVec.smod 32).toNat = (nl_nz y).toNat := by
  rw [nx_nI h.1]
  exact nx_s31 _ (by omega)
theorem nx_shl {x y : Int} (h : 0 ≤ nl_nz y ∧ nl_nz y < 32) : Int32.ofInt x <<< (Int32.ofInt y &&& 31) = Int32.ofInt (x * 2 ^ (nl_nz y).toNat) := by
  have h1 := pk_shl (Int32.ofInt x) (Int32.ofInt y &&& 31) _ (nx_sk h)
  apply Int32.toBitVec_inj.mp
  apply BitVec.eq_of_toNat_eq
  rw [h1]
  show (BitVec.ofInt 32 x).toNat * _ % _ = (BitVec.ofInt 32 _).toNat
  rw [BitVec.toNat_ofInt, BitVec.toNat_ofInt]
  generalize hk : (nl_nz y).toNat = k
  have e1 : ((x % ((2 ^ 32 : Nat) : Int)).toNat : Int) = x % 4294967296 := Int.toNat_of_nonneg (Int.emod_nonneg _ (by decide))
  have e2 : (((x * 2 ^ k) % ((2 ^ 32 : Nat) : Int)).toNat : Int) = (x * 2 ^ k) % 4294967296 := Int.toNat_of_nonneg (Int.emod_nonneg _ (by decide))
  apply Int.ofNat_inj.mp
  rw [e2]
  generalize (x % ((2 ^ 32 : Nat) : Int)).toNat = A at e1 ⊢
  show ((A * 2 ^ k % 4294967296 : Nat) : Int) = _
  rw [Int.natCast_emod, Int.natCast_mul, Int.natCast_pow, e1]
  show (x % 4294967296 * 2 ^ k) % 4294967296 = (x * 2 ^ k) % 4294967296
  rw [Int.mul_emod, Int.emod_emod, ← Int.mul_emod]
theorem nx_shr {x y : Int} (h : 0 ≤ nl_nz y ∧ nl_nz y < 32) : Int32.ofInt x >>> (Int32.ofInt y &&& 31) = Int32.ofInt (nl_nz x / 2 ^ (nl_nz y).toNat) := by
  have h1 := pk_shr (Int32.ofInt x) (Int32.ofInt y &&& 31) _ (nx_sk h)
  apply Int32.toInt_inj.mp
  rw [h1, nx_toInt, nx_toInt, Int.shiftRight_eq_div_pow]
  have b := nx_nz x
  generalize hk : (nl_nz y).toNat = k
  have p : (0 : Int) < 2 ^ k := Int.pow_pos (by decide)
  have p1 : (1 : Int) ≤ 2 ^ k := p
  have hd : nl_nz x / 2 ^ k * 2 ^ k ≤ nl_nz x := Int.ediv_mul_le _ (by omega)
  have q1 : 0 ≤ nl_nz x → 0 ≤ nl_nz x / 2 ^ k ∧ nl_nz x / 2 ^ k ≤ nl_nz x := fun q => ⟨Int.ediv_nonneg q (by omega), Int.ediv_le_self _ q⟩
  have q2 : nl_nz x ≤ 0 → nl_nz x / 2 ^ k ≤ 0 ∧ nl_nz x ≤ nl_nz x / 2 ^ k := fun q => by
    have a1 : nl_nz x / 2 ^ k ≤ 0 := Int.ediv_le_of_le_mul p (by omega)
    refine ⟨a1, (Int.le_ediv_iff_mul_le p).mpr ?_⟩
    have := Int.mul_le_mul_of_nonneg_left p1 (show 0 ≤ -(nl_nz x) by omega)
    rw [Int.neg_mul, Int.neg_mul] at this
    omega
  rw [nx_of (x := nl_nz x / 2 ^ k)]
  · rfl
  · rcases Int.le_total 0 (nl_nz x) with q | q
    · have := q1 q; omega
    · have := q2 q; omega
  · rcases Int.le_total 0 (nl_nz x) with q | q
    · have := q1 q; omega
    · have := q2 q; omega
theorem nx_ushr {x y : Int} (h : 0 ≤ nl_nz y ∧ nl_nz y < 32) (hx : 0 ≤ nl_nz x) : ((Int32.ofInt x).toUInt32 >>> ((Int32.ofInt y).toUInt32 &&& Int32.toUInt32 31)).toInt32 = Int32.ofInt (nl_nz x / 2 ^ (nl_nz y).toNat) := by
  have b := nx_nz x
  rw [nx_nI hx, nx_nI h.1]
  rw [pk_ushrN (by omega) _ _ (nx_s31u _ (by omega)), ← nx_nIof]
  congr 1
  push_cast
  rw [Int.toNat_of_nonneg hx]
theorem nx_cmp (x y : Int) : lg_cmp (Int64.ofInt x) (Int64.ofInt y) = Int32.ofInt (nl_cmp (nl_nl x) (nl_nl y)) := by
  unfold lg_cmp nl_cmp
  by_cases h1 : nl_nl y < nl_nl x
  · rw [if_pos ((nx_ltL y x).mpr h1), if_pos h1]; rfl
  · rw [if_neg (fun q => h1 ((nx_ltL y x).mp q)), if_neg h1]
    by_cases h2 : nl_nl x = nl_nl y
    · rw [if_pos ((nx_eqL x y).mpr h2), if_pos h2]; rfl
    · rw [if_neg (fun q => h2 ((nx_eqL x y).mp q)), if_neg h2]; rfl
theorem nx_i2l (x : Int) : (Int32.ofInt x).toInt64 = Int64.ofInt (nl_nz x) := by
  apply Int64.toInt_inj.mp
  rw [Int32.toInt_toInt64, nx_toInt, nx_toIntL]
  have b := nx_nz x
  rw [nx_ofL (by omega) (by omega)]
theorem nx_l2i (x : Int) : (Int64.ofInt x).toInt32 = Int32.ofInt x := Int64.toInt32_ofInt
theorem nx_i8 {n : Int} (h1 : -128 ≤ n) (h2 : n < 128) : (Int8.ofInt n).toInt32 = Int32.ofInt n := by
  apply Int32.toInt_inj.mp
  rw [Int8.toInt_toInt32, Int8.toInt_ofInt_of_le (by omega) (by omega), nx_toInt, nx_of (by omega) (by omega)]
theorem nx_i16 {n : Int} (h1 : -32768 ≤ n) (h2 : n < 32768) : (Int16.ofInt n).toInt32 = Int32.ofInt n := by
  apply Int32.toInt_inj.mp
  rw [Int16.toInt_toInt32, Int16.toInt_ofInt_of_le (by omega) (by omega), nx_toInt, nx_of (by omega) (by omega)]
theorem nx_eq0L (x : Int) : Int64.ofInt x = 0 ↔ nl_nl x = 0 := by
  have h := nx_eqL x 0
  rw [show nl_nl 0 = 0 from nx_ofL (by decide) (by decide)] at h
  exact h
end
section

/-! The world of the abstract machine: where its objects lie, what they hold. -/
abbrev nl_G : Type := va_G × (Nat → Nat → Nat) × (Nat → Nat → Nat → Nat) × (Nat → ClassId) × (Nat → Nat) × (Nat → Prop) × Int
abbrev gD (G : nl_G) : va_G := G.1
abbrev gO (G : nl_G) : Nat → Nat → Nat := G.2.1
abbrev gA (G : nl_G) : Nat → Nat → Nat → Nat := G.2.2.1
abbrev gY (G : nl_G) : Nat → ClassId := G.2.2.2.1
abbrev gN (G : nl_G) : Nat → Nat := G.2.2.2.2.1
abbrev gF (G : nl_G) : Nat → Prop := G.2.2.2.2.2.1
abbrev gL (G : nl_G) : Int := G.2.2.2.2.2.2
def nl_cv (G : nl_G) : nl_V → Value
  | .inl i => .int (Int32.ofInt i)
  | .inr (.inl i) => .long (Int64.ofInt i)
  | .inr (.inr (c, o, none)) => .ref (gO G c o)
  | .inr (.inr (c, o, some k)) => .ref (gA G c o k)
def nl_okv (G : nl_G) : nl_V → Prop
  | .inl _ => True
  | .inr (.inl _) => True
  | .inr (.inr (c, o, none)) => c < 7 ∧ o < gN G c
  | .inr (.inr (c, o, some k)) => (c < 7 ∧ o < gN G c ∧ k < nl_N c ∧ nl_fk c k = 1) ∨ (c = 9 ∧ o = 0 ∧ k = 0 ∧ gN G 9 = 1)
def nl_cs : List vw_C := [(RX0, TX0, 6), (RX1, TX1, 8), (RX2, TX2, 2), (RX3, TX3, 4), (RX4, TX4, 11), (RX5, TX5, 9), (RX6, TX6, 30)]
theorem nl_cs_at {c : Nat} (hc : c < 7) : nl_cs[c]? = some (nl_R c, nl_T c, nl_N c) := by
  match c, hc with
  | 0, _ => rfl
  | 1, _ => rfl
  | 2, _ => rfl
  | 3, _ => rfl
  | 4, _ => rfl
  | 5, _ => rfl
  | 6, _ => rfl
  | n + 7, h => exact absurd h (by omega)
def nl_aln (c o k : Nat) : Nat := (nl_al 0 c o k).toNat
theorem nl_al_in {c : Nat} (hc : c < 7) (LS : Int) (o k : Nat) : nl_al LS c o k = nl_al 0 c o k ∧ 0 ≤ nl_al 0 c o k ∧ nl_al 0 c o k < 1000 := by
  match c, hc with
  | 0, _ => refine ⟨rfl, ?_⟩; simp only [nl_al]; split <;> decide
  | 1, _ => refine ⟨rfl, ?_⟩; simp only [nl_al]; split <;> decide
  | 2, _ => refine ⟨rfl, ?_⟩; simp only [nl_al]; split <;> decide
  | 3, _ => refine ⟨rfl, ?_⟩; simp only [nl_al]; decide
  | 4, _ => refine ⟨rfl, ?_⟩; simp only [nl_al]; split <;> decide
  | 5, _ => refine ⟨rfl, ?_⟩; simp only [nl_al]; decide
  | 6, _ => refine ⟨rfl, ?_⟩; simp only [nl_al]; split <;> decide
  | n + 7, h => exact absurd h (by omega)
theorem nl_aln_eq {c : Nat} (hc : c < 7) (LS : Int) (o k : Nat) : nl_al LS c o k = (nl_aln c o k : Int) ∧ nl_aln c o k < 1000 := by
  have h := nl_al_in hc LS o k
  unfold nl_aln
  omega
def nl_arr (G : nl_G) (h : nl_H) (c o k : Nat) : vp_A := if nl_at c k = 2 then (nl_aln c o k, .inr (.inr (.inr (.inr fun i => some (gO G 4 (h c o k i).toNat))))) else (nl_aln c o k, .inl fun i => Int32.ofInt (h c o k i))
def nl_fv (G : nl_G) (h : nl_H) (c o k : Nat) : Value := match nl_fk c k with
  | 0 => .int (Int32.ofInt (h c o k 0))
  | 1 => .ref (gA G c o k)
  | n + 2 => .ref (gO G (n / 32) (n % 32))
def nl_Wd (G : nl_G) (h : nl_H) (s : State) (H : Heap) : Prop :=
  (∀ c o : Nat, c < 7 → o < gN G c → t_OB (gO G c o) ((gD G).1 c) (nl_N c) ((gD G).2 c) H (nl_fv G h c o)) ∧
  (∀ c o k : Nat, c < 7 → o < gN G c → k < nl_N c → nl_fk c k = 1 → H[gA G c o k]? = some (vp_cell (gY G (nl_at c k)) (nl_arr G h c o k))) ∧
  (gN G 9 = 1 → va_X (gA G 9 0 0) (gL G).toNat (fun i => Int32.ofInt (h 9 0 0 i)) s H)
def nl_ty (G : nl_G) : List (ClassId × FieldType) := [(gY G 0, .int), (gY G 1, .boolean), (gY G 2, .object RX4)]
def nl_K (G : nl_G) (s : State) : Prop := va_K (gD G) nl_cs (nl_ty G) s ∧ va_Nw (.methodLinkNest RX1 52 yX5_isWithin RX5) s
/-- the addresses are apart, the numbers of objects as they are -/
def nl_Ap (G : nl_G) : Prop :=
  (∀ c o c' o' : Nat, c < 7 → o < gN G c → c' < 7 → o' < gN G c' → gO G c o = gO G c' o' → c = c' ∧ o = o') ∧
  (∀ c o k c' o' k' : Nat, c < 7 → o < gN G c → k < nl_N c → nl_fk c k = 1 → c' < 7 → o' < gN G c' → k' < nl_N c' → nl_fk c' k' = 1 → gA G c o k = gA G c' o' k' → c = c' ∧ o = o' ∧ k = k') ∧
  (∀ c o c' o' k' : Nat, c < 7 → o < gN G c → c' < 7 → o' < gN G c' → k' < nl_N c' → nl_fk c' k' = 1 → gO G c o ≠ gA G c' o' k') ∧
  (∀ c o : Nat, c < 7 → o < gN G c → gF G (gO G c o)) ∧
  (∀ c o k : Nat, c < 7 → o < gN G c → k < nl_N c → nl_fk c k = 1 → gF G (gA G c o k)) ∧
  (gN G 9 = 1 → ¬ gF G (gA G 9 0 0) ∧ 0 ≤ gL G ∧ gL G ≤ 2048) ∧
  gN G 0 = 1 ∧ gN G 1 = 1 ∧ gN G 2 = 2 ∧ gN G 3 = 1 ∧ gN G 4 = 12 ∧ gN G 5 = 1 ∧ gN G 6 ≤ 1
/-! locals -/
def nl_tl (G : nl_G) : Nat → nl_Ls → List (Nat × Value)
  | _, [] => []
  | i, none :: r => nl_tl G (i + 1) r
  | i, some v :: r => (i, nl_cv G v) :: nl_tl G (i + 1) r
def nl_lh (G : nl_G) (ls : Array Slot) (nL : Nat) (L : nl_Ls) : Prop := lv_has ls nL (nl_tl G 0 L) ∧ ∀ v, some v ∈ L → nl_okv G v
theorem nl_lv_mono {ls : Array Slot} {nL : Nat} {l l' : List (Nat × Value)} (h : lv_has ls nL l) (k : ∀ q ∈ l', q ∈ l) : lv_has ls nL l' := ⟨h.1, h.2.1, fun q hq => h.2.2 q (k q hq)⟩
theorem nl_ld_mem {v : nl_V} : ∀ (L : nl_Ls) (i : Nat), nl_ld L i = some v → some v ∈ L
  | [], _, h => by simp [nl_ld] at h
  | w :: r, 0, h => by
    simp only [nl_ld] at h
    subst h
    exact List.mem_cons_self
  | w :: r, i + 1, h => List.mem_cons_of_mem _ (nl_ld_mem r i (by simpa only [nl_ld] using h))
theorem nl_tl_mem {G : nl_G} {v : nl_V} : ∀ (L : nl_Ls) (i j : Nat), nl_ld L i = some v → (j + i, nl_cv G v) ∈ nl_tl G j L
  | [], _, _, h => by simp [nl_ld] at h
  | w :: r, 0, j, h => by
    simp only [nl_ld] at h
    subst h
    exact List.mem_cons_self
  | w :: r, i + 1, j, h => by
    have h1 := nl_tl_mem (G := G) r i (j + 1) (by simpa only [nl_ld] using h)
    have e : j + (i + 1) = j + 1 + i := by omega
    rw [e]
    cases w with
    | none => exact h1
    | some w => exact List.mem_cons_of_mem _ h1
theorem nl_lh.at {G : nl_G} {ls : Array Slot} {nL : Nat} {L : nl_Ls} (h : nl_lh G ls nL L) {i : Nat} {v : nl_V} (e : nl_ld L i = some v) : ls[i]? = some (.val (nl_cv G v)) := by
  have h1 := nl_tl_mem (G := G) L i 0 e
  rw [Nat.zero_add] at h1
  exact h.1.2.2 _ h1
theorem nl_cat (G : nl_G) (v : nl_V) : (nl_cv G v).category = bif nl_isL v then 2 else 1 := by
  match v with
  | .inl _ => rfl
  | .inr (.inl _) => rfl
  | .inr (.inr (_, _, none)) => rfl
  | .inr (.inr (_, _, some _)) => rfl
theorem nl_cats_eq (G : nl_G) : ∀ S : List nl_V, ((S.map (nl_cv G)).map fun v => v.category).sum = nl_cats S
  | [] => rfl
  | v :: r => by
    simp only [List.map_cons, List.sum_cons, nl_cats, nl_cat]
    rw [nl_cats_eq G r]
theorem nl_tl_ge {G : nl_G} : ∀ (L : nl_Ls) (j : Nat) (q : Nat × Value), q ∈ nl_tl G j L → j ≤ q.1
  | [], _, _, h => by simp [nl_tl] at h
  | none :: r, j, q, h => by
    have := nl_tl_ge r (j + 1) q h
    omega
  | some v :: r, j, q, h => by
    rcases List.mem_cons.mp h with h | h
    · subst h; exact Nat.le_refl _
    · have := nl_tl_ge r (j + 1) q h
      omega
theorem nl_s1_tl {G : nl_G} {v : nl_V} : ∀ (L : nl_Ls) (i j : Nat) (q : Nat × Value), q ∈ nl_tl G j (nl_s1 L i v) → q = (j + i, nl_cv G v) ∨ (q ∈ nl_tl G j L ∧ q.1 ≠ j + i ∧ ¬ (q.1 + 1 = j + i ∧ q.2.category = 2))
  | [], i, j, q, h => by simp [nl_s1, nl_tl] at h
  | w :: r, 0, j, q, h => by
    simp only [nl_s1, nl_tl, List.mem_cons] at h
    rcases h with h | h
    · exact Or.inl h
    · have := nl_tl_ge _ _ _ h
      refine Or.inr ⟨?_, by omega, by omega⟩
      cases w with
      | none => exact h
      | some w => exact List.mem_cons_of_mem _ h
  | [w], i + 1, j, q, h => by simp [nl_s1, nl_tl] at h
  | w :: u :: r, 1, j, q, h => by
    have k1 : ∀ q, q ∈ nl_tl G (j + 1) (some v :: r) → q = (j + 1, nl_cv G v) ∨ (q ∈ nl_tl G j (w :: u :: r) ∧ q.1 ≠ j + 1 ∧ ¬ (q.1 + 1 = j + 1 ∧ q.2.category = 2)) := by
      intro q hq
      rcases List.mem_cons.mp hq with hq | hq
      · exact Or.inl hq
      · have := nl_tl_ge _ _ _ hq
        refine Or.inr ⟨?_, by omega, by omega⟩
        have h2 : q ∈ nl_tl G (j + 1) (u :: r) := by
          cases u with
          | none => exact hq
          | some u => exact List.mem_cons_of_mem _ hq
        cases w with
        | none => exact h2
        | some w => exact List.mem_cons_of_mem _ h2
    simp only [nl_s1, nl_cw] at h
    cases w with
    | none => exact k1 q h
    | some w =>
      by_cases hw : nl_isL w = true
      · simp only [hw, cond_true] at h
        exact k1 q h
      · have hw : nl_isL w = false := by simpa using hw
        simp only [hw, cond_false] at h
        rcases List.mem_cons.mp h with h | h
        · subst h
          refine Or.inr ⟨List.mem_cons_self, by simp, ?_⟩
          intro z
          have z2 := z.2
          simp only [nl_cat, hw, cond_false] at z2
          omega
        · exact k1 q h
  | w :: u :: r, i + 2, j, q, h => by
    simp only [nl_s1] at h
    have k1 : q ∈ nl_tl G (j + 1) (nl_s1 (u :: r) (i + 1) v) → q = (j + (i + 2), nl_cv G v) ∨ (q ∈ nl_tl G j (w :: u :: r) ∧ q.1 ≠ j + (i + 2) ∧ ¬ (q.1 + 1 = j + (i + 2) ∧ q.2.category = 2)) := by
      intro hq
      have e : j + 1 + (i + 1) = j + (i + 2) := by omega
      have h1 := nl_s1_tl (u :: r) (i + 1) (j + 1) q hq
      rw [e] at h1
      rcases h1 with h1 | ⟨h1, h2, h3⟩
      · exact Or.inl h1
      · refine Or.inr ⟨?_, h2, h3⟩
        cases w with
        | none => exact h1
        | some w => exact List.mem_cons_of_mem _ h1
    cases w with
    | none => exact k1 h
    | some w =>
      rcases List.mem_cons.mp h with h | h
      · subst h
        exact Or.inr ⟨List.mem_cons_self, by simp, by simp⟩
      · exact k1 h
theorem nl_s1_in {v x : nl_V} : ∀ (L : nl_Ls) (i : Nat), some x ∈ nl_s1 L i v → x = v ∨ some x ∈ L
  | [], i, h => by simp [nl_s1] at h
  | w :: r, 0, h => by
    simp only [nl_s1, List.mem_cons] at h
    rcases h with h | h
    · exact Or.inl (Option.some.inj h)
    · exact Or.inr (List.mem_cons_of_mem _ h)
  | [w], i + 1, h => by simp [nl_s1] at h
  | w :: u :: r, 1, h => by
    simp only [nl_s1, nl_cw, List.mem_cons] at h
    rcases h with h | h | h
    · right
      cases w with
      | none => cases h
      | some w =>
        by_cases hw : nl_isL w = true
        · simp only [hw, cond_true] at h
          cases h
        · have hw : nl_isL w = false := by simpa using hw
          simp only [hw, cond_false] at h
          rw [h]; exact List.mem_cons_self
    · exact Or.inl (Option.some.inj h)
    · exact Or.inr (List.mem_cons_of_mem _ (List.mem_cons_of_mem _ h))
  | w :: u :: r, i + 2, h => by
    simp only [nl_s1, List.mem_cons] at h
    rcases h with h | h
    · exact Or.inr (by rw [h]; exact List.mem_cons_self)
    · rcases nl_s1_in (u :: r) (i + 1) h with h | h
      · exact Or.inl h
      · exact Or.inr (List.mem_cons_of_mem _ h)
theorem nl_set_tl {G : nl_G} : ∀ (L : nl_Ls) (i j : Nat) (q : Nat × Value), q ∈ nl_tl G j (L.set i none) → q ∈ nl_tl G j L ∧ q.1 ≠ j + i
  | [], _, _, _, h => by simp [nl_tl] at h
  | w :: r, 0, j, q, h => by
    simp only [List.set_cons_zero, nl_tl] at h
    have := nl_tl_ge _ _ _ h
    refine ⟨?_, by omega⟩
    cases w with
    | none => exact h
    | some w => exact List.mem_cons_of_mem _ h
  | w :: r, i + 1, j, q, h => by
    have e : j + 1 + i = j + (i + 1) := by omega
    cases w with
    | none =>
      have := nl_set_tl r i (j + 1) q h
      rw [e] at this
      exact this
    | some w =>
      rcases List.mem_cons.mp h with h | h
      · subst h
        exact ⟨List.mem_cons_self, by simp⟩
      · have := nl_set_tl r i (j + 1) q h
        rw [e] at this
        exact ⟨List.mem_cons_of_mem _ this.1, this.2⟩
theorem nl_lh_s1 {G : nl_G} {ls ls' : Array Slot} {nL i : Nat} {L : nl_Ls} (v : nl_V) (hL : nl_lh G ls nL L) (hs : lv_has ls' nL ((i, nl_cv G v) :: (nl_tl G 0 L).filter (fun q => !(q.1 == i) && !(q.1 + 1 == i && q.2.category == 2)))) (hv : nl_okv G v) : nl_lh G ls' nL (nl_s1 L i v) := by
  refine ⟨nl_lv_mono hs fun q hq => ?_, fun x hx => ?_⟩
  · rcases nl_s1_tl L i 0 q hq with h | ⟨h, h2, h3⟩
    · rw [Nat.zero_add] at h
      rw [h]; exact List.mem_cons_self
    · rw [Nat.zero_add] at h2 h3
      refine List.mem_cons_of_mem _ (List.mem_filter.mpr ⟨h, ?_⟩)
      simp only [Bool.and_eq_true, Bool.not_eq_true', beq_eq_false_iff_ne, ne_eq, Bool.and_eq_false_iff]
      exact ⟨h2, Decidable.not_and_iff_or_not.mp h3⟩
  · rcases nl_s1_in L i hx with h | h
    · rw [h]; exact hv
    · exact hL.2 x h
theorem nl_lh_s2 {G : nl_G} {ls ls' : Array Slot} {nL i : Nat} {L : nl_Ls} (v : nl_V) (hL : nl_lh G ls nL L) (hs : lv_has ls' nL ((i, nl_cv G v) :: (nl_tl G 0 L).filter (fun q => !(q.1 == i) && (!(q.1 == i + 1) && !(q.1 + 1 == i && q.2.category == 2))))) (hv : nl_okv G v) : nl_lh G ls' nL (nl_s2 L i v) := by
  refine ⟨nl_lv_mono hs fun q hq => ?_, fun x hx => ?_⟩
  · obtain ⟨hq, hn⟩ := nl_set_tl _ _ _ q hq
    rw [Nat.zero_add] at hn
    rcases nl_s1_tl L i 0 q hq with h | ⟨h, h2, h3⟩
    · rw [Nat.zero_add] at h
      rw [h]; exact List.mem_cons_self
    · rw [Nat.zero_add] at h2 h3
      refine List.mem_cons_of_mem _ (List.mem_filter.mpr ⟨h, ?_⟩)
      simp only [Bool.and_eq_true, Bool.not_eq_true', beq_eq_false_iff_ne, ne_eq, Bool.and_eq_false_iff]
      exact ⟨h2, hn, Decidable.not_and_iff_or_not.mp h3⟩
  · have hx : some x ∈ nl_s1 L i v := by
      rcases List.mem_or_eq_of_mem_set hx with h | h
      · exact h
      · cases h
    rcases nl_s1_in L i hx with h | h
    · rw [h]; exact hv
    · exact hL.2 x h
end
section
/-- what holds in a method: the machine, its code, the tables' words, the world's tables, its room -/
def nl_Cx (p : Program) (l : Launch) (e : Env) (R : Room) (s : State) (m : MethodId) (args : Array Value) (c : Code) (cells slots : Nat) (cc : ByteArray) (nL ci n : Nat) (G : nl_G) : Prop :=
  p.tables.exec = Jvm.exec ∧ c.code = cc ∧ c.maxLocals = nL ∧ s.vm.findClass (nl_R ci) = some m.cls ∧ (∀ w ∈ nl_WL, w.before args s = true) ∧ nl_K G s ∧ nl_Ap G ∧ (cells ≤ R.cells ∧ slots ≤ R.slots) ∧ n + 1 ≤ R.frames ∧ 100 * (n + 1) ≤ R.locals
/-- from this place, these locals, this stack, this heap the machine comes to Q -/
def nl_Go (p : Program) (l : Launch) (e : Env) (R : Room) (s : State) (m : MethodId) (args : Array Value) (below : List Frame) (meth : Method) (c : Code) (cells slots : Nat) (Q : State → Prop) (G : nl_G) (nL : Nat) (pc : Nat) (L : nl_Ls) (S : List nl_V) (h : nl_H) : Prop :=
  ∀ (H : Heap) (locs : List Loc) (ls : Array Slot), nl_Wd G h s H → va_S (gF G) s.heap H locs → nl_lh G ls nL L → (∀ v ∈ S, nl_okv G v) → W p l e R s m args below meth c H locs cells slots Q (F0 m pc ls (S.map (nl_cv G)))
theorem nl_ok1 {G : nl_G} {v : nl_V} {S : List nl_V} (hv : nl_okv G v) (h : ∀ x ∈ S, nl_okv G x) : ∀ x ∈ v :: S, nl_okv G x := fun x hx => by
  rcases List.mem_cons.mp hx with h1 | h1
  · rw [h1]; exact hv
  · exact h x h1
theorem nl_okt {G : nl_G} {v : nl_V} {S : List nl_V} (h : ∀ x ∈ v :: S, nl_okv G x) : ∀ x ∈ S, nl_okv G x := fun x hx => h x (List.mem_cons_of_mem _ hx)
theorem nl_okh {G : nl_G} {v : nl_V} {S : List nl_V} (h : ∀ x ∈ v :: S, nl_okv G x) : nl_okv G v := h v List.mem_cons_self
section NLROWS
variable {p : Program} {l : Launch} {e : Env} {R : Room} {s : State} {m : MethodId} {args : Array Value} {below : List Frame} {meth : Method} {c : Code} {cells slots : Nat} {Q : State → Prop} {cc : ByteArray} {nL ci n ret : Nat} {G : nl_G} {den : nl_D} {go : Nat → nl_Ls → List nl_V → nl_H → Option nl_Re} {res : nl_Re} {pc : Nat} {L : nl_Ls} {S : List nl_V} {h : nl_H} {len a b c' : Nat}

theorem ns_iconst (X : nl_Cx p l e R s m args c cells slots cc nL ci n G) {k : Int} (hd : decode cc pc = .ok (.iconst k, len)) (hk : nl_ok ci nL (pc, .iconst k, len, a, b, c') = true) (hgo : ∀ pc' L' S' h', go pc' L' S' h' = some res → nl_Go p l e R s m args below meth c cells slots Q G nL pc' L' S' h')
    (E : nl_st (gL G) den ret pc L S h (.iconst k) len a b c' go = some res) : nl_Go p l e R s m args below meth c cells slots Q G nL pc L S h := by
  simp only [nl_ok, beq_iff_eq] at hk
  subst hk
  simp only [nl_st] at E
  intro H locs ls hW hS hL hV
  exact lv_iconst X.1 X.2.1 hd rfl (hgo _ _ _ _ E H locs ls hW hS hL (nl_ok1 trivial hV))
theorem ns_bipush (X : nl_Cx p l e R s m args c cells slots cc nL ci n G) {k : Int} (hd : decode cc pc = .ok (.bipush k, len)) (hk : nl_ok ci nL (pc, .bipush k, len, a, b, c') = true) (hgo : ∀ pc' L' S' h', go pc' L' S' h' = some res → nl_Go p l e R s m args below meth c cells slots Q G nL pc' L' S' h')
    (E : nl_st (gL G) den ret pc L S h (.bipush k) len a b c' go = some res) : nl_Go p l e R s m args below meth c cells slots Q G nL pc L S h := by
  simp only [nl_ok, Bool.and_eq_true, beq_iff_eq, decide_eq_true_eq] at hk
  obtain ⟨hk1, hk2⟩ := hk
  subst hk2
  have hk : (-128 ≤ k ∧ k < 128) ∧ True := ⟨hk1, trivial⟩
  simp only [nl_st] at E
  intro H locs ls hW hS hL hV
  exact lv_bipush X.1 X.2.1 hd (nx_i8 hk.1.1 hk.1.2) (hgo _ _ _ _ E H locs ls hW hS hL (nl_ok1 trivial hV))
theorem ns_sipush (X : nl_Cx p l e R s m args c cells slots cc nL ci n G) {k : Int} (hd : decode cc pc = .ok (.sipush k, len)) (hk : nl_ok ci nL (pc, .sipush k, len, a, b, c') = true) (hgo : ∀ pc' L' S' h', go pc' L' S' h' = some res → nl_Go p l e R s m args below meth c cells slots Q G nL pc' L' S' h')
    (E : nl_st (gL G) den ret pc L S h (.sipush k) len a b c' go = some res) : nl_Go p l e R s m args below meth c cells slots Q G nL pc L S h := by
  simp only [nl_ok, Bool.and_eq_true, beq_iff_eq, decide_eq_true_eq] at hk
  obtain ⟨hk1, hk2⟩ := hk
  subst hk2
  have hk : (-32768 ≤ k ∧ k < 32768) ∧ True := ⟨hk1, trivial⟩
  simp only [nl_st] at E
  intro H locs ls hW hS hL hV
  exact lv_sipush X.1 X.2.1 hd (nx_i16 hk.1.1 hk.1.2) (hgo _ _ _ _ E H locs ls hW hS hL (nl_ok1 trivial hV))
theorem ns_ldc (X : nl_Cx p l e R s m args c cells slots cc nL ci n G) {k : Nat} (hd : decode cc pc = .ok (.ldc k, len)) (hk : nl_ok ci nL (pc, .ldc k, len, a, b, c') = true) (hgo : ∀ pc' L' S' h', go pc' L' S' h' = some res → nl_Go p l e R s m args below meth c cells slots Q G nL pc' L' S' h')
    (E : nl_st (gL G) den ret pc L S h (.ldc k) len a b c' go = some res) : nl_Go p l e R s m args below meth c cells slots Q G nL pc L S h := by
  simp only [nl_ok, Bool.and_eq_true, beq_iff_eq, List.contains_iff_mem] at hk
  obtain ⟨hk1, hk2⟩ := hk
  subst hk2
  simp only [nl_st] at E
  intro H locs ls hW hS hL hV
  exact lv_ldc X.1 X.2.1 X.2.2.2.1 (X.2.2.2.2.1 _ (nl_KI_all _ hk1)) hd (hgo _ _ _ _ E H locs ls hW hS hL (nl_ok1 trivial hV))
theorem ns_ldc_w (X : nl_Cx p l e R s m args c cells slots cc nL ci n G) {k : Nat} (hd : decode cc pc = .ok (.ldc_w k, len)) (hk : nl_ok ci nL (pc, .ldc_w k, len, a, b, c') = true) (hgo : ∀ pc' L' S' h', go pc' L' S' h' = some res → nl_Go p l e R s m args below meth c cells slots Q G nL pc' L' S' h')
    (E : nl_st (gL G) den ret pc L S h (.ldc_w k) len a b c' go = some res) : nl_Go p l e R s m args below meth c cells slots Q G nL pc L S h := by
  simp only [nl_ok, Bool.and_eq_true, beq_iff_eq, List.contains_iff_mem] at hk
  obtain ⟨hk1, hk2⟩ := hk
  subst hk2
  simp only [nl_st] at E
  intro H locs ls hW hS hL hV
  exact lv_ldcw X.1 X.2.1 X.2.2.2.1 (X.2.2.2.2.1 _ (nl_KI_all _ hk1)) hd (hgo _ _ _ _ E H locs ls hW hS hL (nl_ok1 trivial hV))
theorem ns_ldc2 (X : nl_Cx p l e R s m args c cells slots cc nL ci n G) {k : Nat} (hd : decode cc pc = .ok (.ldc2_w k, len)) (hk : nl_ok ci nL (pc, .ldc2_w k, len, a, b, c') = true) (hgo : ∀ pc' L' S' h', go pc' L' S' h' = some res → nl_Go p l e R s m args below meth c cells slots Q G nL pc' L' S' h')
    (E : nl_st (gL G) den ret pc L S h (.ldc2_w k) len a b c' go = some res) : nl_Go p l e R s m args below meth c cells slots Q G nL pc L S h := by
  simp only [nl_ok, Bool.and_eq_true, beq_iff_eq, List.contains_iff_mem] at hk
  obtain ⟨hk1, hk2⟩ := hk
  subst hk2
  simp only [nl_st] at E
  intro H locs ls hW hS hL hV
  exact lv_ldc2 X.1 X.2.1 X.2.2.2.1 (X.2.2.2.2.1 _ (nl_KL_all _ hk1)) hd (hgo _ _ _ _ E H locs ls hW hS hL (nl_ok1 trivial hV))
theorem ns_lconst (X : nl_Cx p l e R s m args c cells slots cc nL ci n G) {k : Fin 2} (hd : decode cc pc = .ok (.lconst k, len)) (hk : nl_ok ci nL (pc, .lconst k, len, a, b, c') = true) (hgo : ∀ pc' L' S' h', go pc' L' S' h' = some res → nl_Go p l e R s m args below meth c cells slots Q G nL pc' L' S' h')
    (E : nl_st (gL G) den ret pc L S h (.lconst k) len a b c' go = some res) : nl_Go p l e R s m args below meth c cells slots Q G nL pc L S h := by
  simp only [nl_ok, beq_iff_eq] at hk
  subst hk
  simp only [nl_st] at E
  intro H locs ls hW hS hL hV
  exact lv_lconst X.1 X.2.1 hd (Int64.ofInt_eq_ofNat).symm (hgo _ _ _ _ E H locs ls hW hS hL (nl_ok1 trivial hV))
theorem ns_iload (X : nl_Cx p l e R s m args c cells slots cc nL ci n G) {k : Nat} (hd : decode cc pc = .ok (.iload k, len)) (hk : nl_ok ci nL (pc, .iload k, len, a, b, c') = true) (hgo : ∀ pc' L' S' h', go pc' L' S' h' = some res → nl_Go p l e R s m args below meth c cells slots Q G nL pc' L' S' h')
    (E : nl_st (gL G) den ret pc L S h (.iload k) len a b c' go = some res) : nl_Go p l e R s m args below meth c cells slots Q G nL pc L S h := by
  simp only [nl_ok, beq_iff_eq] at hk
  subst hk
  simp only [nl_st] at E
  split at E
  · rename_i x e1
    intro H locs ls hW hS hL hV
    exact lv_iload X.1 X.2.1 hd (hL.at e1) (hgo _ _ _ _ E H locs ls hW hS hL (nl_ok1 (hL.2 _ (nl_ld_mem L _ e1)) hV))
  · cases E
theorem ns_iload_n (X : nl_Cx p l e R s m args c cells slots cc nL ci n G) {k : Fin 4} (hd : decode cc pc = .ok (.iload_n k, len)) (hk : nl_ok ci nL (pc, .iload_n k, len, a, b, c') = true) (hgo : ∀ pc' L' S' h', go pc' L' S' h' = some res → nl_Go p l e R s m args below meth c cells slots Q G nL pc' L' S' h')
    (E : nl_st (gL G) den ret pc L S h (.iload_n k) len a b c' go = some res) : nl_Go p l e R s m args below meth c cells slots Q G nL pc L S h := by
  simp only [nl_ok, beq_iff_eq] at hk
  subst hk
  simp only [nl_st] at E
  split at E
  · rename_i x e1
    intro H locs ls hW hS hL hV
    exact lv_iload_n X.1 X.2.1 hd rfl (hL.at e1) (hgo _ _ _ _ E H locs ls hW hS hL (nl_ok1 (hL.2 _ (nl_ld_mem L _ e1)) hV))
  · cases E
theorem ns_lload (X : nl_Cx p l e R s m args c cells slots cc nL ci n G) {k : Nat} (hd : decode cc pc = .ok (.lload k, len)) (hk : nl_ok ci nL (pc, .lload k, len, a, b, c') = true) (hgo : ∀ pc' L' S' h', go pc' L' S' h' = some res → nl_Go p l e R s m args below meth c cells slots Q G nL pc' L' S' h')
    (E : nl_st (gL G) den ret pc L S h (.lload k) len a b c' go = some res) : nl_Go p l e R s m args below meth c cells slots Q G nL pc L S h := by
  simp only [nl_ok, beq_iff_eq] at hk
  subst hk
  simp only [nl_st] at E
  split at E
  · rename_i x e1
    intro H locs ls hW hS hL hV
    exact lv_lload X.1 X.2.1 hd (hL.at e1) (hgo _ _ _ _ E H locs ls hW hS hL (nl_ok1 (hL.2 _ (nl_ld_mem L _ e1)) hV))
  · cases E
theorem ns_lload_n (X : nl_Cx p l e R s m args c cells slots cc nL ci n G) {k : Fin 4} (hd : decode cc pc = .ok (.lload_n k, len)) (hk : nl_ok ci nL (pc, .lload_n k, len, a, b, c') = true) (hgo : ∀ pc' L' S' h', go pc' L' S' h' = some res → nl_Go p l e R s m args below meth c cells slots Q G nL pc' L' S' h')
    (E : nl_st (gL G) den ret pc L S h (.lload_n k) len a b c' go = some res) : nl_Go p l e R s m args below meth c cells slots Q G nL pc L S h := by
  simp only [nl_ok, beq_iff_eq] at hk
  subst hk
  simp only [nl_st] at E
  split at E
  · rename_i x e1
    intro H locs ls hW hS hL hV
    exact lv_lload_n X.1 X.2.1 hd rfl (hL.at e1) (hgo _ _ _ _ E H locs ls hW hS hL (nl_ok1 (hL.2 _ (nl_ld_mem L _ e1)) hV))
  · cases E
theorem ns_aload (X : nl_Cx p l e R s m args c cells slots cc nL ci n G) {k : Nat} (hd : decode cc pc = .ok (.aload k, len)) (hk : nl_ok ci nL (pc, .aload k, len, a, b, c') = true) (hgo : ∀ pc' L' S' h', go pc' L' S' h' = some res → nl_Go p l e R s m args below meth c cells slots Q G nL pc' L' S' h')
    (E : nl_st (gL G) den ret pc L S h (.aload k) len a b c' go = some res) : nl_Go p l e R s m args below meth c cells slots Q G nL pc L S h := by
  simp only [nl_ok, beq_iff_eq] at hk
  subst hk
  simp only [nl_st] at E
  split at E
  · rename_i r e1
    intro H locs ls hW hS hL hV
    have hv := hL.2 _ (nl_ld_mem L _ e1)
    have e2 := hL.at e1
    have K := hgo _ _ _ _ E H locs ls hW hS hL (nl_ok1 hv hV)
    obtain ⟨rc, ro, rk⟩ := r
    cases rk with
    | none => exact lv_aload X.1 X.2.1 hd  e2 K
    | some k9 => exact lv_aload X.1 X.2.1 hd  e2 K
  · cases E
theorem ns_aload_n (X : nl_Cx p l e R s m args c cells slots cc nL ci n G) {k : Fin 4} (hd : decode cc pc = .ok (.aload_n k, len)) (hk : nl_ok ci nL (pc, .aload_n k, len, a, b, c') = true) (hgo : ∀ pc' L' S' h', go pc' L' S' h' = some res → nl_Go p l e R s m args below meth c cells slots Q G nL pc' L' S' h')
    (E : nl_st (gL G) den ret pc L S h (.aload_n k) len a b c' go = some res) : nl_Go p l e R s m args below meth c cells slots Q G nL pc L S h := by
  simp only [nl_ok, beq_iff_eq] at hk
  subst hk
  simp only [nl_st] at E
  split at E
  · rename_i r e1
    intro H locs ls hW hS hL hV
    have hv := hL.2 _ (nl_ld_mem L _ e1)
    have e2 := hL.at e1
    have K := hgo _ _ _ _ E H locs ls hW hS hL (nl_ok1 hv hV)
    obtain ⟨rc, ro, rk⟩ := r
    cases rk with
    | none => exact lv_aload_n X.1 X.2.1 hd rfl e2 K
    | some k9 => exact lv_aload_n X.1 X.2.1 hd rfl e2 K
  · cases E
theorem ns_istore (X : nl_Cx p l e R s m args c cells slots cc nL ci n G) {k : Nat} (hd : decode cc pc = .ok (.istore k, len)) (hk : nl_ok ci nL (pc, .istore k, len, a, b, c') = true) (hgo : ∀ pc' L' S' h', go pc' L' S' h' = some res → nl_Go p l e R s m args below meth c cells slots Q G nL pc' L' S' h')
    (E : nl_st (gL G) den ret pc L S h (.istore k) len a b c' go = some res) : nl_Go p l e R s m args below meth c cells slots Q G nL pc L S h := by
  simp only [nl_ok, Bool.and_eq_true, beq_iff_eq, Nat.blt_eq] at hk
  obtain ⟨hk1, hk2⟩ := hk
  subst hk2
  simp only [nl_st] at E
  split at E
  · rename_i x S'
    intro H locs ls hW hS hL hV
    exact lv_istore X.1 X.2.1 hd  hL.1 hk1 rfl (fun ls' hs => hgo _ _ _ _ E H locs ls' hW hS (nl_lh_s1 (vI x) hL hs trivial) (nl_okt hV))
  · cases E
theorem ns_istore_n (X : nl_Cx p l e R s m args c cells slots cc nL ci n G) {k : Fin 4} (hd : decode cc pc = .ok (.istore_n k, len)) (hk : nl_ok ci nL (pc, .istore_n k, len, a, b, c') = true) (hgo : ∀ pc' L' S' h', go pc' L' S' h' = some res → nl_Go p l e R s m args below meth c cells slots Q G nL pc' L' S' h')
    (E : nl_st (gL G) den ret pc L S h (.istore_n k) len a b c' go = some res) : nl_Go p l e R s m args below meth c cells slots Q G nL pc L S h := by
  simp only [nl_ok, Bool.and_eq_true, beq_iff_eq, Nat.blt_eq] at hk
  obtain ⟨hk1, hk2⟩ := hk
  subst hk2
  simp only [nl_st] at E
  split at E
  · rename_i x S'
    intro H locs ls hW hS hL hV
    exact lv_istore_n X.1 X.2.1 hd rfl hL.1 hk1 rfl (fun ls' hs => hgo _ _ _ _ E H locs ls' hW hS (nl_lh_s1 (vI x) hL hs trivial) (nl_okt hV))
  · cases E
theorem ns_lstore (X : nl_Cx p l e R s m args c cells slots cc nL ci n G) {k : Nat} (hd : decode cc pc = .ok (.lstore k, len)) (hk : nl_ok ci nL (pc, .lstore k, len, a, b, c') = true) (hgo : ∀ pc' L' S' h', go pc' L' S' h' = some res → nl_Go p l e R s m args below meth c cells slots Q G nL pc' L' S' h')
    (E : nl_st (gL G) den ret pc L S h (.lstore k) len a b c' go = some res) : nl_Go p l e R s m args below meth c cells slots Q G nL pc L S h := by
  simp only [nl_ok, Bool.and_eq_true, beq_iff_eq, Nat.blt_eq] at hk
  obtain ⟨hk1, hk2⟩ := hk
  subst hk2
  simp only [nl_st] at E
  split at E
  · rename_i x S'
    cases hq : Nat.blt (k + 1) L.length with
    | true =>
      simp only [hq, cond_true] at E
      intro H locs ls hW hS hL hV
      exact lv_lstore X.1 X.2.1 hd  hL.1 hk1 rfl (fun ls' hs => hgo _ _ _ _ E H locs ls' hW hS (nl_lh_s2 (vL x) hL hs trivial) (nl_okt hV))
    | false =>
      simp only [hq, cond_false] at E
      cases E
  · cases E
theorem ns_lstore_n (X : nl_Cx p l e R s m args c cells slots cc nL ci n G) {k : Fin 4} (hd : decode cc pc = .ok (.lstore_n k, len)) (hk : nl_ok ci nL (pc, .lstore_n k, len, a, b, c') = true) (hgo : ∀ pc' L' S' h', go pc' L' S' h' = some res → nl_Go p l e R s m args below meth c cells slots Q G nL pc' L' S' h')
    (E : nl_st (gL G) den ret pc L S h (.lstore_n k) len a b c' go = some res) : nl_Go p l e R s m args below meth c cells slots Q G nL pc L S h := by
  simp only [nl_ok, Bool.and_eq_true, beq_iff_eq, Nat.blt_eq] at hk
  obtain ⟨hk1, hk2⟩ := hk
  subst hk2
  simp only [nl_st] at E
  split at E
  · rename_i x S'
    cases hq : Nat.blt ((k : Nat) + 1) L.length with
    | true =>
      simp only [hq, cond_true] at E
      intro H locs ls hW hS hL hV
      exact lv_lstore_n X.1 X.2.1 hd rfl hL.1 hk1 rfl (fun ls' hs => hgo _ _ _ _ E H locs ls' hW hS (nl_lh_s2 (vL x) hL hs trivial) (nl_okt hV))
    | false =>
      simp only [hq, cond_false] at E
      cases E
  · cases E
theorem ns_astore (X : nl_Cx p l e R s m args c cells slots cc nL ci n G) {k : Nat} (hd : decode cc pc = .ok (.astore k, len)) (hk : nl_ok ci nL (pc, .astore k, len, a, b, c') = true) (hgo : ∀ pc' L' S' h', go pc' L' S' h' = some res → nl_Go p l e R s m args below meth c cells slots Q G nL pc' L' S' h')
    (E : nl_st (gL G) den ret pc L S h (.astore k) len a b c' go = some res) : nl_Go p l e R s m args below meth c cells slots Q G nL pc L S h := by
  simp only [nl_ok, Bool.and_eq_true, beq_iff_eq, Nat.blt_eq] at hk
  obtain ⟨hk1, hk2⟩ := hk
  subst hk2
  simp only [nl_st] at E
  split at E
  · rename_i r S'
    intro H locs ls hW hS hL hV
    have hv := nl_okh hV
    obtain ⟨rc, ro, rk⟩ := r
    cases rk with
    | none => exact lv_astore X.1 X.2.1 hd  hL.1 hk1 rfl (fun ls' hs => hgo _ _ _ _ E H locs ls' hW hS (nl_lh_s1 (vO rc ro) hL hs hv) (nl_okt hV))
    | some k9 => exact lv_astore X.1 X.2.1 hd  hL.1 hk1 rfl (fun ls' hs => hgo _ _ _ _ E H locs ls' hW hS (nl_lh_s1 (vA rc ro k9) hL hs hv) (nl_okt hV))
  · cases E
theorem ns_astore_n (X : nl_Cx p l e R s m args c cells slots cc nL ci n G) {k : Fin 4} (hd : decode cc pc = .ok (.astore_n k, len)) (hk : nl_ok ci nL (pc, .astore_n k, len, a, b, c') = true) (hgo : ∀ pc' L' S' h', go pc' L' S' h' = some res → nl_Go p l e R s m args below meth c cells slots Q G nL pc' L' S' h')
    (E : nl_st (gL G) den ret pc L S h (.astore_n k) len a b c' go = some res) : nl_Go p l e R s m args below meth c cells slots Q G nL pc L S h := by
  simp only [nl_ok, Bool.and_eq_true, beq_iff_eq, Nat.blt_eq] at hk
  obtain ⟨hk1, hk2⟩ := hk
  subst hk2
  simp only [nl_st] at E
  split at E
  · rename_i r S'
    intro H locs ls hW hS hL hV
    have hv := nl_okh hV
    obtain ⟨rc, ro, rk⟩ := r
    cases rk with
    | none => exact lv_astore_n X.1 X.2.1 hd rfl hL.1 hk1 rfl (fun ls' hs => hgo _ _ _ _ E H locs ls' hW hS (nl_lh_s1 (vO rc ro) hL hs hv) (nl_okt hV))
    | some k9 => exact lv_astore_n X.1 X.2.1 hd rfl hL.1 hk1 rfl (fun ls' hs => hgo _ _ _ _ E H locs ls' hW hS (nl_lh_s1 (vA rc ro k9) hL hs hv) (nl_okt hV))
  · cases E
theorem ns_iinc (X : nl_Cx p l e R s m args c cells slots cc nL ci n G) {k : Nat} {d : Int} (hd : decode cc pc = .ok (.iinc k d, len)) (hk : nl_ok ci nL (pc, .iinc k d, len, a, b, c') = true) (hgo : ∀ pc' L' S' h', go pc' L' S' h' = some res → nl_Go p l e R s m args below meth c cells slots Q G nL pc' L' S' h')
    (E : nl_st (gL G) den ret pc L S h (.iinc k d) len a b c' go = some res) : nl_Go p l e R s m args below meth c cells slots Q G nL pc L S h := by
  simp only [nl_ok, Bool.and_eq_true, beq_iff_eq, Nat.blt_eq] at hk
  obtain ⟨hk1, hk2⟩ := hk
  subst hk2
  simp only [nl_st] at E
  split at E
  · rename_i x e1
    intro H locs ls hW hS hL hV
    have hm := nl_tl_mem (G := G) L k 0 e1
    rw [Nat.zero_add] at hm
    obtain ⟨k9, hk9⟩ := List.getElem?_of_mem hm
    exact lv_iinc (v := Int32.ofInt (x + d)) X.1 X.2.1 hd hL.1 hk9 (by rw [Int32.ofInt_add]) hk1 rfl (fun ls' hs => hgo _ _ _ _ E H locs ls' hW hS (nl_lh_s1 (vI (x + d)) hL hs trivial) hV)
  · cases E
theorem ns_iadd (X : nl_Cx p l e R s m args c cells slots cc nL ci n G) (hd : decode cc pc = .ok (.iadd, len)) (hk : nl_ok ci nL (pc, .iadd, len, a, b, c') = true) (hgo : ∀ pc' L' S' h', go pc' L' S' h' = some res → nl_Go p l e R s m args below meth c cells slots Q G nL pc' L' S' h')
    (E : nl_st (gL G) den ret pc L S h (.iadd) len a b c' go = some res) : nl_Go p l e R s m args below meth c cells slots Q G nL pc L S h := by
  simp only [nl_ok, beq_iff_eq] at hk
  subst hk
  simp only [nl_st] at E
  split at E
  · rename_i y x S'
    intro H locs ls hW hS hL hV
    refine lv_iadd X.1 X.2.1 hd ?_
    rw [← Int32.ofInt_add]
    exact hgo _ _ _ _ E H locs ls hW hS hL (nl_ok1 trivial (nl_okt (nl_okt hV)))
  · cases E
theorem ns_isub (X : nl_Cx p l e R s m args c cells slots cc nL ci n G) (hd : decode cc pc = .ok (.isub, len)) (hk : nl_ok ci nL (pc, .isub, len, a, b, c') = true) (hgo : ∀ pc' L' S' h', go pc' L' S' h' = some res → nl_Go p l e R s m args below meth c cells slots Q G nL pc' L' S' h')
    (E : nl_st (gL G) den ret pc L S h (.isub) len a b c' go = some res) : nl_Go p l e R s m args below meth c cells slots Q G nL pc L S h := by
  simp only [nl_ok, beq_iff_eq] at hk
  subst hk
  simp only [nl_st] at E
  split at E
  · rename_i y x S'
    intro H locs ls hW hS hL hV
    refine lv_isub X.1 X.2.1 hd ?_
    rw [← Int32.ofInt_sub]
    exact hgo _ _ _ _ E H locs ls hW hS hL (nl_ok1 trivial (nl_okt (nl_okt hV)))
  · cases E
theorem ns_imul (X : nl_Cx p l e R s m args c cells slots cc nL ci n G) (hd : decode cc pc = .ok (.imul, len)) (hk : nl_ok ci nL (pc, .imul, len, a, b, c') = true) (hgo : ∀ pc' L' S' h', go pc' L' S' h' = some res → nl_Go p l e R s m args below meth c cells slots Q G nL pc' L' S' h')
    (E : nl_st (gL G) den ret pc L S h (.imul) len a b c' go = some res) : nl_Go p l e R s m args below meth c cells slots Q G nL pc L S h := by
  simp only [nl_ok, beq_iff_eq] at hk
  subst hk
  simp only [nl_st] at E
  split at E
  · rename_i y x S'
    intro H locs ls hW hS hL hV
    refine lv_imul X.1 X.2.1 hd ?_
    rw [← Int32.ofInt_mul]
    exact hgo _ _ _ _ E H locs ls hW hS hL (nl_ok1 trivial (nl_okt (nl_okt hV)))
  · cases E
theorem ns_ladd (X : nl_Cx p l e R s m args c cells slots cc nL ci n G) (hd : decode cc pc = .ok (.ladd, len)) (hk : nl_ok ci nL (pc, .ladd, len, a, b, c') = true) (hgo : ∀ pc' L' S' h', go pc' L' S' h' = some res → nl_Go p l e R s m args below meth c cells slots Q G nL pc' L' S' h')
    (E : nl_st (gL G) den ret pc L S h (.ladd) len a b c' go = some res) : nl_Go p l e R s m args below meth c cells slots Q G nL pc L S h := by
  simp only [nl_ok, beq_iff_eq] at hk
  subst hk
  simp only [nl_st] at E
  split at E
  · rename_i y x S'
    intro H locs ls hW hS hL hV
    refine lv_ladd X.1 X.2.1 hd ?_
    rw [← Int64.ofInt_add]
    exact hgo _ _ _ _ E H locs ls hW hS hL (nl_ok1 trivial (nl_okt (nl_okt hV)))
  · cases E
theorem ns_lmul (X : nl_Cx p l e R s m args c cells slots cc nL ci n G) (hd : decode cc pc = .ok (.lmul, len)) (hk : nl_ok ci nL (pc, .lmul, len, a, b, c') = true) (hgo : ∀ pc' L' S' h', go pc' L' S' h' = some res → nl_Go p l e R s m args below meth c cells slots Q G nL pc' L' S' h')
    (E : nl_st (gL G) den ret pc L S h (.lmul) len a b c' go = some res) : nl_Go p l e R s m args below meth c cells slots Q G nL pc L S h := by
  simp only [nl_ok, beq_iff_eq] at hk
  subst hk
  simp only [nl_st] at E
  split at E
  · rename_i y x S'
    intro H locs ls hW hS hL hV
    refine lv_lmul X.1 X.2.1 hd ?_
    rw [← Int64.ofInt_mul]
    exact hgo _ _ _ _ E H locs ls hW hS hL (nl_ok1 trivial (nl_okt (nl_okt hV)))
  · cases E
theorem ns_lcmp (X : nl_Cx p l e R s m args c cells slots cc nL ci n G) (hd : decode cc pc = .ok (.lcmp, len)) (hk : nl_ok ci nL (pc, .lcmp, len, a, b, c') = true) (hgo : ∀ pc' L' S' h', go pc' L' S' h' = some res → nl_Go p l e R s m args below meth c cells slots Q G nL pc' L' S' h')
    (E : nl_st (gL G) den ret pc L S h (.lcmp) len a b c' go = some res) : nl_Go p l e R s m args below meth c cells slots Q G nL pc L S h := by
  simp only [nl_ok, beq_iff_eq] at hk
  subst hk
  simp only [nl_st] at E
  split at E
  · rename_i y x S'
    intro H locs ls hW hS hL hV
    refine W.lcmp X.1 X.2.1 hd ?_
    rw [nx_cmp]
    exact hgo _ _ _ _ E H locs ls hW hS hL (nl_ok1 trivial (nl_okt (nl_okt hV)))
  · cases E
theorem ns_ineg (X : nl_Cx p l e R s m args c cells slots cc nL ci n G) (hd : decode cc pc = .ok (.ineg, len)) (hk : nl_ok ci nL (pc, .ineg, len, a, b, c') = true) (hgo : ∀ pc' L' S' h', go pc' L' S' h' = some res → nl_Go p l e R s m args below meth c cells slots Q G nL pc' L' S' h')
    (E : nl_st (gL G) den ret pc L S h (.ineg) len a b c' go = some res) : nl_Go p l e R s m args below meth c cells slots Q G nL pc L S h := by
  simp only [nl_ok, beq_iff_eq] at hk
  subst hk
  simp only [nl_st] at E
  split at E
  · rename_i x S'
    intro H locs ls hW hS hL hV
    refine lv_ineg X.1 X.2.1 hd ?_
    rw [← Int32.ofInt_neg]
    exact hgo _ _ _ _ E H locs ls hW hS hL (nl_ok1 trivial (nl_okt hV))
  · cases E
theorem ns_idiv (X : nl_Cx p l e R s m args c cells slots cc nL ci n G) (hd : decode cc pc = .ok (.idiv, len)) (hk : nl_ok ci nL (pc, .idiv, len, a, b, c') = true) (hgo : ∀ pc' L' S' h', go pc' L' S' h' = some res → nl_Go p l e R s m args below meth c cells slots Q G nL pc' L' S' h')
    (E : nl_st (gL G) den ret pc L S h (.idiv) len a b c' go = some res) : nl_Go p l e R s m args below meth c cells slots Q G nL pc L S h := by
  simp only [nl_ok, beq_iff_eq] at hk
  subst hk
  simp only [nl_st] at E
  split at E
  · rename_i y x S'
    split at E
    · cases E
    · rename_i hy
      intro H locs ls hW hS hL hV
      refine lv_idiv X.1 X.2.1 hd (fun q => hy ((nx_eq0 _).mp q)) ?_
      rw [nx_div]
      exact hgo _ _ _ _ E H locs ls hW hS hL (nl_ok1 trivial (nl_okt (nl_okt hV)))
  · cases E
theorem ns_irem (X : nl_Cx p l e R s m args c cells slots cc nL ci n G) (hd : decode cc pc = .ok (.irem, len)) (hk : nl_ok ci nL (pc, .irem, len, a, b, c') = true) (hgo : ∀ pc' L' S' h', go pc' L' S' h' = some res → nl_Go p l e R s m args below meth c cells slots Q G nL pc' L' S' h')
    (E : nl_st (gL G) den ret pc L S h (.irem) len a b c' go = some res) : nl_Go p l e R s m args below meth c cells slots Q G nL pc L S h := by
  simp only [nl_ok, beq_iff_eq] at hk
  subst hk
  simp only [nl_st] at E
  split at E
  · rename_i y x S'
    split at E
    · cases E
    · rename_i hy
      intro H locs ls hW hS hL hV
      refine lv_irem X.1 X.2.1 hd (fun q => hy ((nx_eq0 _).mp q)) ?_
      rw [nx_rem]
      exact hgo _ _ _ _ E H locs ls hW hS hL (nl_ok1 trivial (nl_okt (nl_okt hV)))
  · cases E
theorem ns_ldiv (X : nl_Cx p l e R s m args c cells slots cc nL ci n G) (hd : decode cc pc = .ok (.ldiv, len)) (hk : nl_ok ci nL (pc, .ldiv, len, a, b, c') = true) (hgo : ∀ pc' L' S' h', go pc' L' S' h' = some res → nl_Go p l e R s m args below meth c cells slots Q G nL pc' L' S' h')
    (E : nl_st (gL G) den ret pc L S h (.ldiv) len a b c' go = some res) : nl_Go p l e R s m args below meth c cells slots Q G nL pc L S h := by
  simp only [nl_ok, beq_iff_eq] at hk
  subst hk
  simp only [nl_st] at E
  split at E
  · rename_i y x S'
    split at E
    · cases E
    · rename_i hy
      intro H locs ls hW hS hL hV
      refine lv_ldiv X.1 X.2.1 hd (fun q => hy ((nx_eq0L _).mp q)) ?_
      rw [nx_divL]
      exact hgo _ _ _ _ E H locs ls hW hS hL (nl_ok1 trivial (nl_okt (nl_okt hV)))
  · cases E
theorem ns_lrem (X : nl_Cx p l e R s m args c cells slots cc nL ci n G) (hd : decode cc pc = .ok (.lrem, len)) (hk : nl_ok ci nL (pc, .lrem, len, a, b, c') = true) (hgo : ∀ pc' L' S' h', go pc' L' S' h' = some res → nl_Go p l e R s m args below meth c cells slots Q G nL pc' L' S' h')
    (E : nl_st (gL G) den ret pc L S h (.lrem) len a b c' go = some res) : nl_Go p l e R s m args below meth c cells slots Q G nL pc L S h := by
  simp only [nl_ok, beq_iff_eq] at hk
  subst hk
  simp only [nl_st] at E
  split at E
  · rename_i y x S'
    split at E
    · cases E
    · rename_i hy
      intro H locs ls hW hS hL hV
      refine lv_lrem X.1 X.2.1 hd (fun q => hy ((nx_eq0L _).mp q)) ?_
      rw [nx_remL]
      exact hgo _ _ _ _ E H locs ls hW hS hL (nl_ok1 trivial (nl_okt (nl_okt hV)))
  · cases E
theorem ns_ishl (X : nl_Cx p l e R s m args c cells slots cc nL ci n G) (hd : decode cc pc = .ok (.ishl, len)) (hk : nl_ok ci nL (pc, .ishl, len, a, b, c') = true) (hgo : ∀ pc' L' S' h', go pc' L' S' h' = some res → nl_Go p l e R s m args below meth c cells slots Q G nL pc' L' S' h')
    (E : nl_st (gL G) den ret pc L S h (.ishl) len a b c' go = some res) : nl_Go p l e R s m args below meth c cells slots Q G nL pc L S h := by
  simp only [nl_ok, beq_iff_eq] at hk
  subst hk
  simp only [nl_st] at E
  split at E
  · rename_i y x S'
    split at E
    · rename_i hy
      intro H locs ls hW hS hL hV
      refine lv_ishl X.1 X.2.1 hd ?_
      rw [nx_shl hy]
      exact hgo _ _ _ _ E H locs ls hW hS hL (nl_ok1 trivial (nl_okt (nl_okt hV)))
    · cases E
  · cases E
theorem ns_ishr (X : nl_Cx p l e R s m args c cells slots cc nL ci n G) (hd : decode cc pc = .ok (.ishr, len)) (hk : nl_ok ci nL (pc, .ishr, len, a, b, c') = true) (hgo : ∀ pc' L' S' h', go pc' L' S' h' = some res → nl_Go p l e R s m args below meth c cells slots Q G nL pc' L' S' h')
    (E : nl_st (gL G) den ret pc L S h (.ishr) len a b c' go = some res) : nl_Go p l e R s m args below meth c cells slots Q G nL pc L S h := by
  simp only [nl_ok, beq_iff_eq] at hk
  subst hk
  simp only [nl_st] at E
  split at E
  · rename_i y x S'
    split at E
    · rename_i hy
      intro H locs ls hW hS hL hV
      refine lv_ishr X.1 X.2.1 hd ?_
      rw [nx_shr hy]
      exact hgo _ _ _ _ E H locs ls hW hS hL (nl_ok1 trivial (nl_okt (nl_okt hV)))
    · cases E
  · cases E
theorem ns_iushr (X : nl_Cx p l e R s m args c cells slots cc nL ci n G) (hd : decode cc pc = .ok (.iushr, len)) (hk : nl_ok ci nL (pc, .iushr, len, a, b, c') = true) (hgo : ∀ pc' L' S' h', go pc' L' S' h' = some res → nl_Go p l e R s m args below meth c cells slots Q G nL pc' L' S' h')
    (E : nl_st (gL G) den ret pc L S h (.iushr) len a b c' go = some res) : nl_Go p l e R s m args below meth c cells slots Q G nL pc L S h := by
  simp only [nl_ok, beq_iff_eq] at hk
  subst hk
  simp only [nl_st] at E
  split at E
  · rename_i y x S'
    split at E
    · rename_i hy
      intro H locs ls hW hS hL hV
      refine lv_iushr X.1 X.2.1 hd (nx_ushr hy.1 hy.2) ?_
      exact hgo _ _ _ _ E H locs ls hW hS hL (nl_ok1 trivial (nl_okt (nl_okt hV)))
    · cases E
  · cases E
theorem ns_iand (X : nl_Cx p l e R s m args c cells slots cc nL ci n G) (hd : decode cc pc = .ok (.iand, len)) (hk : nl_ok ci nL (pc, .iand, len, a, b, c') = true) (hgo : ∀ pc' L' S' h', go pc' L' S' h' = some res → nl_Go p l e R s m args below meth c cells slots Q G nL pc' L' S' h')
    (E : nl_st (gL G) den ret pc L S h (.iand) len a b c' go = some res) : nl_Go p l e R s m args below meth c cells slots Q G nL pc L S h := by
  simp only [nl_ok, beq_iff_eq] at hk
  subst hk
  simp only [nl_st] at E
  split at E
  · rename_i y x S'
    split at E
    · rename_i hy
      intro H locs ls hW hS hL hV
      refine lv_iand X.1 X.2.1 hd ?_
      rw [nx_and hy.1 hy.2]
      exact hgo _ _ _ _ E H locs ls hW hS hL (nl_ok1 trivial (nl_okt (nl_okt hV)))
    · cases E
  · cases E
theorem ns_ior (X : nl_Cx p l e R s m args c cells slots cc nL ci n G) (hd : decode cc pc = .ok (.ior, len)) (hk : nl_ok ci nL (pc, .ior, len, a, b, c') = true) (hgo : ∀ pc' L' S' h', go pc' L' S' h' = some res → nl_Go p l e R s m args below meth c cells slots Q G nL pc' L' S' h')
    (E : nl_st (gL G) den ret pc L S h (.ior) len a b c' go = some res) : nl_Go p l e R s m args below meth c cells slots Q G nL pc L S h := by
  simp only [nl_ok, beq_iff_eq] at hk
  subst hk
  simp only [nl_st] at E
  split at E
  · rename_i y x S'
    split at E
    · rename_i hy
      intro H locs ls hW hS hL hV
      refine lv_ior X.1 X.2.1 hd ?_
      rw [nx_or hy.1 hy.2]
      exact hgo _ _ _ _ E H locs ls hW hS hL (nl_ok1 trivial (nl_okt (nl_okt hV)))
    · cases E
  · cases E
theorem ns_i2l (X : nl_Cx p l e R s m args c cells slots cc nL ci n G) (hd : decode cc pc = .ok (.i2l, len)) (hk : nl_ok ci nL (pc, .i2l, len, a, b, c') = true) (hgo : ∀ pc' L' S' h', go pc' L' S' h' = some res → nl_Go p l e R s m args below meth c cells slots Q G nL pc' L' S' h')
    (E : nl_st (gL G) den ret pc L S h (.i2l) len a b c' go = some res) : nl_Go p l e R s m args below meth c cells slots Q G nL pc L S h := by
  simp only [nl_ok, beq_iff_eq] at hk
  subst hk
  simp only [nl_st] at E
  split at E
  · rename_i x S'
    intro H locs ls hW hS hL hV
    exact lv_i2l X.1 X.2.1 hd (nx_i2l x) (hgo _ _ _ _ E H locs ls hW hS hL (nl_ok1 trivial (nl_okt hV)))
  · cases E
theorem ns_l2i (X : nl_Cx p l e R s m args c cells slots cc nL ci n G) (hd : decode cc pc = .ok (.l2i, len)) (hk : nl_ok ci nL (pc, .l2i, len, a, b, c') = true) (hgo : ∀ pc' L' S' h', go pc' L' S' h' = some res → nl_Go p l e R s m args below meth c cells slots Q G nL pc' L' S' h')
    (E : nl_st (gL G) den ret pc L S h (.l2i) len a b c' go = some res) : nl_Go p l e R s m args below meth c cells slots Q G nL pc L S h := by
  simp only [nl_ok, beq_iff_eq] at hk
  subst hk
  simp only [nl_st] at E
  split at E
  · rename_i x S'
    intro H locs ls hW hS hL hV
    exact lv_l2i X.1 X.2.1 hd (nx_l2i x) (hgo _ _ _ _ E H locs ls hW hS hL (nl_ok1 trivial (nl_okt hV)))
  · cases E
theorem ns_dup (X : nl_Cx p l e R s m args c cells slots cc nL ci n G) (hd : decode cc pc = .ok (.dup, len)) (hk : nl_ok ci nL (pc, .dup, len, a, b, c') = true) (hgo : ∀ pc' L' S' h', go pc' L' S' h' = some res → nl_Go p l e R s m args below meth c cells slots Q G nL pc' L' S' h')
    (E : nl_st (gL G) den ret pc L S h (.dup) len a b c' go = some res) : nl_Go p l e R s m args below meth c cells slots Q G nL pc L S h := by
  simp only [nl_ok, beq_iff_eq] at hk
  subst hk
  simp only [nl_st] at E
  split at E
  · rename_i v S'
    cases hv : nl_isL v with
    | true => simp only [hv, cond_true] at E; cases E
    | false =>
      simp only [hv, cond_false] at E
      intro H locs ls hW hS hL hV
      exact lv_dup X.1 X.2.1 hd (by rw [nl_cat, hv]; rfl) (hgo _ _ _ _ E H locs ls hW hS hL (nl_ok1 (nl_okh hV) hV))
  · cases E
theorem ns_dup2 (X : nl_Cx p l e R s m args c cells slots cc nL ci n G) (hd : decode cc pc = .ok (.dup2, len)) (hk : nl_ok ci nL (pc, .dup2, len, a, b, c') = true) (hgo : ∀ pc' L' S' h', go pc' L' S' h' = some res → nl_Go p l e R s m args below meth c cells slots Q G nL pc' L' S' h')
    (E : nl_st (gL G) den ret pc L S h (.dup2) len a b c' go = some res) : nl_Go p l e R s m args below meth c cells slots Q G nL pc L S h := by
  simp only [nl_ok, beq_iff_eq] at hk
  subst hk
  simp only [nl_st] at E
  split at E
  · rename_i v w S'
    cases hv : nl_isL v with
    | true => simp only [hv, Bool.true_or, cond_true] at E; cases E
    | false =>
      cases hw : nl_isL w with
      | true => simp only [hv, hw, Bool.false_or, cond_true] at E; cases E
      | false =>
        simp only [hv, hw, Bool.false_or, cond_false] at E
        intro H locs ls hW hS hL hV
        exact lv_dup2_11 X.1 X.2.1 hd (by rw [nl_cat, hv]; rfl) (by rw [nl_cat, hw]; rfl) (hgo _ _ _ _ E H locs ls hW hS hL (nl_ok1 (nl_okh hV) (nl_ok1 (nl_okh (nl_okt hV)) hV)))
  · cases E
theorem ns_pop (X : nl_Cx p l e R s m args c cells slots cc nL ci n G) (hd : decode cc pc = .ok (.pop, len)) (hk : nl_ok ci nL (pc, .pop, len, a, b, c') = true) (hgo : ∀ pc' L' S' h', go pc' L' S' h' = some res → nl_Go p l e R s m args below meth c cells slots Q G nL pc' L' S' h')
    (E : nl_st (gL G) den ret pc L S h (.pop) len a b c' go = some res) : nl_Go p l e R s m args below meth c cells slots Q G nL pc L S h := by
  simp only [nl_ok, beq_iff_eq] at hk
  subst hk
  simp only [nl_st] at E
  split at E
  · rename_i v S'
    cases hv : nl_isL v with
    | true => simp only [hv, cond_true] at E; cases E
    | false =>
      simp only [hv, cond_false] at E
      intro H locs ls hW hS hL hV
      exact lv_pop X.1 X.2.1 hd (by rw [nl_cat, hv]; rfl) (hgo _ _ _ _ E H locs ls hW hS hL (nl_okt hV))
  · cases E
theorem ns_goto (X : nl_Cx p l e R s m args c cells slots cc nL ci n G) {off : Int} (hd : decode cc pc = .ok (.goto off, len)) (hk : nl_ok ci nL (pc, .goto off, len, a, b, c') = true) (hgo : ∀ pc' L' S' h', go pc' L' S' h' = some res → nl_Go p l e R s m args below meth c cells slots Q G nL pc' L' S' h')
    (E : nl_st (gL G) den ret pc L S h (.goto off) len a b c' go = some res) : nl_Go p l e R s m args below meth c cells slots Q G nL pc L S h := by
  simp only [nl_ok, Bool.and_eq_true, beq_iff_eq, decide_eq_true_eq] at hk
  obtain ⟨hk1, hk2⟩ := hk
  subst hk2
  simp only [nl_st] at E
  intro H locs ls hW hS hL hV
  exact lv_goto X.1 X.2.1 hd hk1 (hgo _ _ _ _ E H locs ls hW hS hL hV)
theorem ns_if_icmp (X : nl_Cx p l e R s m args c cells slots cc nL ci n G) {op : ClassFile.Cond} {off : Int} (hd : decode cc pc = .ok (.if_icmp op off, len)) (hk : nl_ok ci nL (pc, .if_icmp op off, len, a, b, c') = true) (hgo : ∀ pc' L' S' h', go pc' L' S' h' = some res → nl_Go p l e R s m args below meth c cells slots Q G nL pc' L' S' h')
    (E : nl_st (gL G) den ret pc L S h (.if_icmp op off) len a b c' go = some res) : nl_Go p l e R s m args below meth c cells slots Q G nL pc L S h := by
  simp only [nl_ok, Bool.and_eq_true, beq_iff_eq, decide_eq_true_eq] at hk
  obtain ⟨hk1, hk2⟩ := hk
  subst hk2
  simp only [nl_st] at E
  split at E
  · rename_i y x S'
    intro H locs ls hW hS hL hV
    cases op with
    | eq =>
      simp only [nl_br] at E
      refine lv_icmp_eq X.1 X.2.1 hd hk1 (fun q => ?_) (fun q => ?_)
      · rw [if_pos ((nx_eq _ _).mp q)] at E
        exact hgo _ _ _ _ E H locs ls hW hS hL (nl_okt (nl_okt hV))
      · rw [if_neg (fun z => q ((nx_eq _ _).mpr z))] at E
        exact hgo _ _ _ _ E H locs ls hW hS hL (nl_okt (nl_okt hV))
    | lt =>
      simp only [nl_br] at E
      refine lv_icmp_lt X.1 X.2.1 hd hk1 (fun q => ?_) (fun q => ?_)
      · rw [if_pos ((nx_lt _ _).mp q)] at E
        exact hgo _ _ _ _ E H locs ls hW hS hL (nl_okt (nl_okt hV))
      · rw [if_neg (fun z => q ((nx_lt _ _).mpr z))] at E
        exact hgo _ _ _ _ E H locs ls hW hS hL (nl_okt (nl_okt hV))
    | ge =>
      simp only [nl_br] at E
      refine lv_icmp_ge X.1 X.2.1 hd hk1 (fun q => ?_) (fun q => ?_)
      · rw [if_pos ((nx_le _ _).mp q)] at E
        exact hgo _ _ _ _ E H locs ls hW hS hL (nl_okt (nl_okt hV))
      · rw [if_neg (fun z => q ((nx_le _ _).mpr z))] at E
        exact hgo _ _ _ _ E H locs ls hW hS hL (nl_okt (nl_okt hV))
    | gt =>
      simp only [nl_br] at E
      refine lv_icmp_gt X.1 X.2.1 hd hk1 (fun q => ?_) (fun q => ?_)
      · rw [if_pos ((nx_lt _ _).mp q)] at E
        exact hgo _ _ _ _ E H locs ls hW hS hL (nl_okt (nl_okt hV))
      · rw [if_neg (fun z => q ((nx_lt _ _).mpr z))] at E
        exact hgo _ _ _ _ E H locs ls hW hS hL (nl_okt (nl_okt hV))
    | le =>
      simp only [nl_br] at E
      refine lv_icmp_le X.1 X.2.1 hd hk1 (fun q => ?_) (fun q => ?_)
      · rw [if_pos ((nx_le _ _).mp q)] at E
        exact hgo _ _ _ _ E H locs ls hW hS hL (nl_okt (nl_okt hV))
      · rw [if_neg (fun z => q ((nx_le _ _).mpr z))] at E
        exact hgo _ _ _ _ E H locs ls hW hS hL (nl_okt (nl_okt hV))
    | ne =>
      simp only [nl_br] at E
      refine lv_icmp_ne X.1 X.2.1 hd hk1 (fun q => ?_) (fun q => ?_)
      · rw [if_neg (fun z => q ((nx_eq _ _).mpr z))] at E
        exact hgo _ _ _ _ E H locs ls hW hS hL (nl_okt (nl_okt hV))
      · rw [if_pos ((nx_eq _ _).mp q)] at E
        exact hgo _ _ _ _ E H locs ls hW hS hL (nl_okt (nl_okt hV))
  · cases E
theorem ns_ifCond (X : nl_Cx p l e R s m args c cells slots cc nL ci n G) {op : ClassFile.Cond} {off : Int} (hd : decode cc pc = .ok (.ifCond op off, len)) (hk : nl_ok ci nL (pc, .ifCond op off, len, a, b, c') = true) (hgo : ∀ pc' L' S' h', go pc' L' S' h' = some res → nl_Go p l e R s m args below meth c cells slots Q G nL pc' L' S' h')
    (E : nl_st (gL G) den ret pc L S h (.ifCond op off) len a b c' go = some res) : nl_Go p l e R s m args below meth c cells slots Q G nL pc L S h := by
  simp only [nl_ok, Bool.and_eq_true, beq_iff_eq, decide_eq_true_eq] at hk
  obtain ⟨hk1, hk2⟩ := hk
  subst hk2
  simp only [nl_st] at E
  split at E
  · rename_i x S'
    intro H locs ls hW hS hL hV
    cases op with
    | eq =>
      simp only [nl_br] at E
      refine lv_if_eq X.1 X.2.1 hd hk1 (fun q => ?_) (fun q => ?_)
      · rw [if_pos ((nx_eq0 _).mp q)] at E
        exact hgo _ _ _ _ E H locs ls hW hS hL (nl_okt hV)
      · rw [if_neg (fun z => q ((nx_eq0 _).mpr z))] at E
        exact hgo _ _ _ _ E H locs ls hW hS hL (nl_okt hV)
    | lt =>
      simp only [nl_br] at E
      refine lv_if_lt X.1 X.2.1 hd hk1 (fun q => ?_) (fun q => ?_)
      · rw [if_pos ((nx_lt0 _).mp q)] at E
        exact hgo _ _ _ _ E H locs ls hW hS hL (nl_okt hV)
      · rw [if_neg (fun z => q ((nx_lt0 _).mpr z))] at E
        exact hgo _ _ _ _ E H locs ls hW hS hL (nl_okt hV)
    | ge =>
      simp only [nl_br] at E
      refine lv_if_ge X.1 X.2.1 hd hk1 (fun q => ?_) (fun q => ?_)
      · rw [if_pos ((nx_0le _).mp q)] at E
        exact hgo _ _ _ _ E H locs ls hW hS hL (nl_okt hV)
      · rw [if_neg (fun z => q ((nx_0le _).mpr z))] at E
        exact hgo _ _ _ _ E H locs ls hW hS hL (nl_okt hV)
    | gt =>
      simp only [nl_br] at E
      refine lv_if_gt X.1 X.2.1 hd hk1 (fun q => ?_) (fun q => ?_)
      · rw [if_pos ((nx_0lt _).mp q)] at E
        exact hgo _ _ _ _ E H locs ls hW hS hL (nl_okt hV)
      · rw [if_neg (fun z => q ((nx_0lt _).mpr z))] at E
        exact hgo _ _ _ _ E H locs ls hW hS hL (nl_okt hV)
    | le =>
      simp only [nl_br] at E
      refine lv_if_le X.1 X.2.1 hd hk1 (fun q => ?_) (fun q => ?_)
      · rw [if_pos ((nx_le0 _).mp q)] at E
        exact hgo _ _ _ _ E H locs ls hW hS hL (nl_okt hV)
      · rw [if_neg (fun z => q ((nx_le0 _).mpr z))] at E
        exact hgo _ _ _ _ E H locs ls hW hS hL (nl_okt hV)
    | ne =>
      simp only [nl_br] at E
      refine lv_if_ne X.1 X.2.1 hd hk1 (fun q => ?_) (fun q => ?_)
      · rw [if_neg (fun z => q ((nx_eq0 _).mpr z))] at E
        exact hgo _ _ _ _ E H locs ls hW hS hL (nl_okt hV)
      · rw [if_pos ((nx_eq0 _).mp q)] at E
        exact hgo _ _ _ _ E H locs ls hW hS hL (nl_okt hV)
  · cases E
end NLROWS
end
section

theorem nl_Tn {c k : Nat} (hc : c < 7) : (nl_T c k).1 = nl_R c := by
  match c, hc with
  | 0, _ => show (TX0 k).1 = RX0; unfold TX0; split <;> rfl
  | 1, _ => show (TX1 k).1 = RX1; unfold TX1; split <;> rfl
  | 2, _ => show (TX2 k).1 = RX2; unfold TX2; split <;> rfl
  | 3, _ => show (TX3 k).1 = RX3; unfold TX3; split <;> rfl
  | 4, _ => show (TX4 k).1 = RX4; unfold TX4; split <;> rfl
  | 5, _ => show (TX5 k).1 = RX5; unfold TX5; split <;> rfl
  | 6, _ => show (TX6 k).1 = RX6; unfold TX6; split <;> rfl
  | n + 7, h => exact absurd h (by omega)
def nl_tyf (c : Nat) : Nat → FieldType := match c with
  | 0 => tyX0
  | 1 => tyX1
  | 2 => tyX2
  | 3 => tyX3
  | 4 => tyX4
  | 5 => tyX5
  | _ => tyX6
theorem nl_tyok (c : Nat) (hc : c < 7) : ∀ k, k < nl_N c → parseFieldDescriptor (nl_T c k).2.2.1 = some (nl_tyf c k) := by
  match c, hc with
  | 0, _ => exact tyX0_ok
  | 1, _ => exact tyX1_ok
  | 2, _ => exact tyX2_ok
  | 3, _ => exact tyX3_ok
  | 4, _ => exact tyX4_ok
  | 5, _ => exact tyX5_ok
  | 6, _ => exact tyX6_ok
  | n + 7, h => exact absurd h (by omega)
theorem nl_nmok (c : Nat) (hc : c < 7) : ∀ a, a < nl_N c → ∀ b, b < nl_N c → a ≠ b → (nl_T c a).2.1 ≠ (nl_T c b).2.1 := by
  match c, hc with
  | 0, _ => exact nmX0
  | 1, _ => exact nmX1
  | 2, _ => exact nmX2
  | 3, _ => exact nmX3
  | 4, _ => exact nmX4
  | 5, _ => exact nmX5
  | 6, _ => exact nmX6
  | n + 7, h => exact absurd h (by omega)
def nl_c0 (c : Nat) : Nat := match c with
  | 2 => 2
  | 4 => 12
  | _ => 1
theorem nl_fobj : ∀ a, a < 7 → ∀ b, b < 30 → 2 ≤ nl_fk a b → ((nl_fk a b - 2) / 32 ≤ 4 ∧ (nl_fk a b - 2) % 32 < nl_c0 ((nl_fk a b - 2) / 32)) := by decide +kernel
theorem nl_N30 : ∀ a, a < 7 → nl_N a ≤ 30 := by decide +kernel
theorem nl_Ap.cnt {G : nl_G} (h : nl_Ap G) {c : Nat} (hc : c ≤ 4) : gN G c = nl_c0 c := by
  obtain ⟨-, -, -, -, -, -, h0, h1, h2, h3, h4, -⟩ := h
  match c, hc with
  | 0, _ => exact h0
  | 1, _ => exact h1
  | 2, _ => exact h2
  | 3, _ => exact h3
  | 4, _ => exact h4
  | n + 5, h => exact absurd h (by omega)
/-- what is at most one cell's change -/
theorem nl_Wd_chg {G : nl_G} {h h' : nl_H} {s : State} {H H' : Heap} {q : Nat} (hW : nl_Wd G h s H) (hq : ∀ x, x ≠ q → H'[x]? = H[x]?)
    (ho : ∀ c o : Nat, c < 7 → o < gN G c → (gO G c o ≠ q ∧ ∀ k, k < nl_N c → nl_fv G h' c o k = nl_fv G h c o k) ∨ t_OB (gO G c o) ((gD G).1 c) (nl_N c) ((gD G).2 c) H' (nl_fv G h' c o))
    (ha : ∀ c o k : Nat, c < 7 → o < gN G c → k < nl_N c → nl_fk c k = 1 → (gA G c o k ≠ q ∧ nl_arr G h' c o k = nl_arr G h c o k) ∨ H'[gA G c o k]? = some (vp_cell (gY G (nl_at c k)) (nl_arr G h' c o k)))
    (hs : gN G 9 = 1 → gA G 9 0 0 ≠ q ∧ ∀ i, h' 9 0 0 i = h 9 0 0 i) : nl_Wd G h' s H' := by
  refine ⟨fun c o hc hoo => ?_, fun c o k hc hoo hk hf => ?_, fun h9 => ?_⟩
  · rcases ho c o hc hoo with ⟨h1, h2⟩ | h1
    · exact ((hW.1 c o hc hoo).kept (hq _ h1)).to fun k hk => (h2 k hk).symm
    · exact h1
  · rcases ha c o k hc hoo hk hf with ⟨h1, h2⟩ | h1
    · rw [hq _ h1, h2]
      exact hW.2.1 c o k hc hoo hk hf
    · exact h1
  · obtain ⟨h1, h2⟩ := hs h9
    have h3 := (hW.2.2 h9).kept (hq _ h1)
    have e : (fun i => Int32.ofInt (h' 9 0 0 i)) = (fun i => Int32.ofInt (h 9 0 0 i)) := by
      funext i
      rw [h2 i]
    rw [e]
    exact h3
theorem nl_up_ne {h : nl_H} {c o k i : Nat} {x : Int} {c' o' k' i' : Nat} (n : ¬ (c' = c ∧ o' = o ∧ k' = k)) : nl_up h c o k i x c' o' k' i' = h c' o' k' i' := by
  unfold nl_up
  rw [if_neg (fun z => n ⟨z.1, z.2.1, z.2.2.1⟩)]
theorem nl_up_eq {h : nl_H} {c o k i : Nat} {x : Int} : nl_up h c o k i x c o k i = x := by
  unfold nl_up
  rw [if_pos ⟨rfl, rfl, rfl, rfl⟩]
theorem nl_fv_up {G : nl_G} {h : nl_H} {c o k i : Nat} {x : Int} {c' o' k' : Nat} (n : ¬ (c' = c ∧ o' = o ∧ k' = k)) : nl_fv G (nl_up h c o k i x) c' o' k' = nl_fv G h c' o' k' := by
  unfold nl_fv
  split
  · rw [nl_up_ne n]
  · rfl
  · rfl
theorem nl_arr_up {G : nl_G} {h : nl_H} {c o k i : Nat} {x : Int} {c' o' k' : Nat} (n : ¬ (c' = c ∧ o' = o ∧ k' = k)) : nl_arr G (nl_up h c o k i x) c' o' k' = nl_arr G h c' o' k' := by
  have e : ∀ j, nl_up h c o k i x c' o' k' j = h c' o' k' j := fun j => nl_up_ne n
  unfold nl_arr
  simp only [e]
/-- an object's field of numbers is written -/
theorem nl_Wd_put {G : nl_G} {h : nl_H} {s : State} {H H' : Heap} {a o b : Nat} {x : Int} {cell : Cell} (hA : nl_Ap G) (hW : nl_Wd G h s H) (ha : a < 7) (ho : o < gN G a) (hb : b < nl_N a) (hf : nl_fk a b = 0)
    (hap : ∀ x y, x < nl_N a → y < nl_N a → x ≠ y → ((gD G).2 a) x ≠ ((gD G).2 a) y) (q1 : H[gO G a o]? = some cell) (q2 : cell.cls = (gD G).1 a) (q3 : cell.vm = .none) (q4 : ∀ k, k < nl_N a → cell.slots[(gD G).2 a k]? = some (nl_fv G h a o k))
    (e1 : H'[gO G a o]? = some (cell.setSlot ((gD G).2 a b) (.int (Int32.ofInt x)))) (e3 : ∀ q, q ≠ gO G a o → H'[q]? = H[q]?) : nl_Wd G (nl_up h a o b 0 x) s H' := by
  obtain ⟨a1, a2, a3, a4, a5, a6, -⟩ := hA
  refine nl_Wd_chg hW e3 (fun c o' hc ho' => ?_) (fun c o' k hc ho' hk hfk => ?_) (fun h9 => ?_)
  · by_cases hz : c = a ∧ o' = o
    · right
      obtain ⟨z1, z2⟩ := hz
      subst z1
      subst z2
      refine ⟨_, e1, q2, q3, fun k hk => ?_⟩
      rw [t_set q4 hap hb _ k hk]
      congr 1
      unfold updV
      by_cases hkb : k = b
      · subst hkb
        rw [if_pos rfl]
        unfold nl_fv
        rw [hf]
        simp only [nl_up_eq]
      · rw [if_neg hkb, nl_fv_up (fun z => hkb z.2.2)]
    · left
      exact ⟨fun z => hz (a1 _ _ _ _ hc ho' ha ho z), fun k hk => nl_fv_up (fun z => hz ⟨z.1, z.2.1⟩)⟩
  · left
    refine ⟨fun z => a3 _ _ _ _ _ ha ho hc ho' hk hfk z.symm, nl_arr_up fun z => ?_⟩
    obtain ⟨z1, z2, z3⟩ := z
    subst z1; subst z3
    rw [hf] at hfk
    cases hfk
  · have h6 := a6 h9
    refine ⟨fun z => h6.1 (by rw [z]; exact a4 _ _ ha ho), fun i => nl_up_ne fun z => ?_⟩
    omega
/-- an array's entry is written -/
theorem nl_Wd_st {G : nl_G} {h : nl_H} {s : State} {H H' : Heap} {a o b i : Nat} {x : Int} (hA : nl_Ap G) (hW : nl_Wd G h s H) (ha : a < 7) (ho : o < gN G a) (hb : b < nl_N a) (hf : nl_fk a b = 1)
    (e1 : H'[gA G a o b]? = some (vp_cell (gY G (nl_at a b)) (nl_arr G (nl_up h a o b i x) a o b))) (e3 : ∀ q, q ≠ gA G a o b → H'[q]? = H[q]?) : nl_Wd G (nl_up h a o b i x) s H' := by
  obtain ⟨a1, a2, a3, a4, a5, a6, -⟩ := hA
  refine nl_Wd_chg hW e3 (fun c o' hc ho' => ?_) (fun c o' k hc ho' hk hfk => ?_) (fun h9 => ?_)
  · left
    refine ⟨a3 _ _ _ _ _ hc ho' ha ho hb hf, fun k hk => ?_⟩
    by_cases z : c = a ∧ o' = o ∧ k = b
    · obtain ⟨z1, z2, z3⟩ := z
      subst z1; subst z2; subst z3
      unfold nl_fv
      rw [hf]
    · exact nl_fv_up z
  · by_cases z : c = a ∧ o' = o ∧ k = b
    · right
      obtain ⟨z1, z2, z3⟩ := z
      subst z1; subst z2; subst z3
      exact e1
    · left
      exact ⟨fun y => z (a2 _ _ _ _ _ _ hc ho' hk hfk ha ho hb hf y), nl_arr_up z⟩
  · have h6 := a6 h9
    refine ⟨fun z => h6.1 (by rw [z]; exact a5 _ _ _ ha ho hb hf), fun i => nl_up_ne fun z => ?_⟩
    omega
theorem nl_one {D : va_G} {H : Heap} {q : Nat × va_E} (h : va_at D nl_cs q H) : va_P D nl_cs [q] H := by
  intro k q' hk
  match k, hk with
  | 0, hk => cases hk; exact h
theorem nl_Pobj {G : nl_G} {h : nl_H} {s : State} {H : Heap} (hW : nl_Wd G h s H) {a o : Nat} (ha : a < 7) (ho : o < gN G a) : va_P (gD G) nl_cs [(gO G a o, .inr (a, (List.range (nl_N a)).map (nl_fv G h a o)))] H := by
  refine nl_one ⟨_, nl_cs_at ha, (hW.1 a o ha ho).to fun k hk => ?_⟩
  unfold vp_V
  rw [List.getD_eq_getElem?_getD, List.getElem?_map, List.getElem?_range hk]
  rfl
section NLHEAP
variable {p : Program} {l : Launch} {e : Env} {R : Room} {s : State} {m : MethodId} {args : Array Value} {below : List Frame} {meth : Method} {c : Code} {cells slots : Nat} {Q : State → Prop} {cc : ByteArray} {nL ci n ret : Nat} {G : nl_G} {den : nl_D} {go : Nat → nl_Ls → List nl_V → nl_H → Option nl_Re} {res : nl_Re} {pc : Nat} {L : nl_Ls} {S : List nl_V} {h : nl_H} {len a b c' : Nat}

theorem ns_getfield (X : nl_Cx p l e R s m args c cells slots cc nL ci n G) {k : Nat} (hd : decode cc pc = .ok (.getfield k, len)) (hk : nl_ok ci nL (pc, .getfield k, len, a, b, c') = true) (hgo : ∀ pc' L' S' h', go pc' L' S' h' = some res → nl_Go p l e R s m args below meth c cells slots Q G nL pc' L' S' h')
    (E : nl_st (gL G) den ret pc L S h (.getfield k) len a b c' go = some res) : nl_Go p l e R s m args below meth c cells slots Q G nL pc L S h := by
  simp only [nl_ok, Bool.and_eq_true, beq_iff_eq, List.contains_iff_mem, Nat.blt_eq, Nat.beq_eq] at hk
  obtain ⟨⟨⟨⟨hk1, ha⟩, hb⟩, hf⟩, hl⟩ := hk
  subst hl
  simp only [nl_st] at E
  split at E
  · rename_i c9 o S'
    cases hc : Nat.beq c9 a with
    | false => simp only [hc, cond_false] at E; cases E
    | true =>
      simp only [hc, cond_true] at E
      have hc := Nat.eq_of_beq_eq_true hc
      subst hc
      intro H locs ls hW hS hL hV
      have ho : o < gN G c9 := (nl_okh hV).2
      refine va_get (D := gD G) (cl := nl_cs) (tys := nl_ty G) (ci := c9) (v := nl_fv G h c9 o b) (C := nl_R c9) (T := nl_T c9) (N := nl_N c9) X.1 X.2.1 X.2.2.2.2.1 (nl_lays c9 ha) X.2.2.2.1 X.2.2.2.2.2.1.1 (nl_Pobj hW ha ho) 0 rfl (nl_cs_at ha) b hb (ref := nl_R c9) (X.2.2.2.2.1 _ (nl_FL_all _ hk1)) (fun _ h9 => by rw [nl_Tn ha] at h9; exact h9) (by rw [List.getElem?_map, List.getElem?_range hb]; rfl) hd ?_
      split at E
      · have e : nl_fv G h c9 o b = nl_cv G (vI (h c9 o b 0)) := by unfold nl_fv; rw [hf]; rfl
        rw [e]
        exact hgo _ _ _ _ E H locs ls hW hS hL (nl_ok1 trivial (nl_okt hV))
      · have e : nl_fv G h c9 o b = nl_cv G (vA c9 o b) := by unfold nl_fv; rw [hf]; rfl
        rw [e]
        exact hgo _ _ _ _ E H locs ls hW hS hL (nl_ok1 (Or.inl ⟨ha, ho, hb, hf⟩) (nl_okt hV))
      · rename_i n9
        have e : nl_fv G h c9 o b = nl_cv G (vO (n9 / 32) (n9 % 32)) := by unfold nl_fv; rw [hf]; rfl
        rw [e]
        have hN := nl_N30 c9 ha
        have hj := nl_fobj c9 ha b (by omega) (by rw [hf]; omega)
        rw [hf, show n9 + 2 - 2 = n9 from rfl] at hj
        refine hgo _ _ _ _ E H locs ls hW hS hL (nl_ok1 ⟨by omega, ?_⟩ (nl_okt hV))
        rw [X.2.2.2.2.2.2.1.cnt hj.1]
        exact hj.2
  · cases E
theorem ns_putfield (X : nl_Cx p l e R s m args c cells slots cc nL ci n G) {k : Nat} (hd : decode cc pc = .ok (.putfield k, len)) (hk : nl_ok ci nL (pc, .putfield k, len, a, b, c') = true) (hgo : ∀ pc' L' S' h', go pc' L' S' h' = some res → nl_Go p l e R s m args below meth c cells slots Q G nL pc' L' S' h')
    (E : nl_st (gL G) den ret pc L S h (.putfield k) len a b c' go = some res) : nl_Go p l e R s m args below meth c cells slots Q G nL pc L S h := by
  simp only [nl_ok, Bool.and_eq_true, beq_iff_eq, List.contains_iff_mem, Nat.blt_eq, Nat.beq_eq] at hk
  obtain ⟨⟨⟨⟨hk1, ha⟩, hb⟩, hf⟩, hl⟩ := hk
  subst hl
  simp only [nl_st] at E
  split at E
  · rename_i x c9 o S'
    cases hc : Nat.beq c9 a with
    | false => simp only [hc, cond_false] at E; cases E
    | true =>
      simp only [hc, cond_true] at E
      have hc := Nat.eq_of_beq_eq_true hc
      subst hc
      intro H locs ls hW hS hL hV
      have ho : o < gN G c9 := (nl_okh (nl_okt hV)).2
      have hX := X
      obtain ⟨hx, hbb, hml, hown, hts, ⟨hK, -⟩, hA, -⟩ := hX
      have hap := va_apart (own := nl_R ci) hts (nl_lays c9 ha) (nl_tyf c9) (nl_tyok c9 ha) (nl_nmok c9 ha) hK (nl_cs_at ha)
      obtain ⟨cell, q1, q2, q3, q4⟩ := hW.1 c9 o ha ho
      obtain ⟨hSl, hfc, kC, hkC, hkind⟩ := hK.1 c9 _ (nl_cs_at ha)
      obtain ⟨cf, kf, fi, f, hi, hsl⟩ := hSl b hb
      have hfin := (nl_fint c9 ha b hb hf).1
      have hdes : parseFieldDescriptor (nl_T c9 b).2.2.1 = some .int := by rw [(nl_fint c9 ha b hb hf).2]; decide +kernel
      have hlay := hts _ (nl_lays c9 ha _ (u_in_lay hb))
      unfold u_lay at hlay
      rw [if_neg (by rw [hfin]; decide)] at hlay
      have hst := (u_facts hfc hkC (u_lays hts (nl_lays c9 ha) hb) hi).1
      have h6 := u_store hfc hkC hkind hlay hi hdes (v := .int (Int32.ofInt x)) rfl rfl
      have hi2 : s.fieldFound? (nl_R c9) (nl_T c9 b).2.1 (nl_T c9 b).2.2.1 = some (cf, kf, fi, f) := by rw [← nl_Tn (k := b) ha]; exact hi
      refine W.putK hx hbb (f := f) ⟨hown, hts _ (nl_FL_all _ hk1), ⟨_, _, _, hi2⟩, hst⟩ (by rw [q2]; exact h6) q1 q3 (by rw [hsl]; exact k2_hasslot (q4 b hb)) rfl rfl hd fun H' e1 e2 e3 => ?_
      rw [hsl] at e1 ⊢
      exact hgo _ _ _ _ E H' _ ls (nl_Wd_put hA hW ha ho hb hf hap q1 q2 q3 q4 e1 e3) (hS.put e2 e3 (hA.2.2.2.1 _ _ ha ho)) hL (nl_okt (nl_okt hV))
  · cases E
end NLHEAP
end
section

theorem nl_arr0 {G : nl_G} {h : nl_H} {c o k : Nat} (e : ¬ nl_at c k = 2) : nl_arr G h c o k = (nl_aln c o k, .inl fun i => Int32.ofInt (h c o k i)) := by
  unfold nl_arr
  rw [if_neg e]
theorem nl_arr2 {G : nl_G} {h : nl_H} {c o k : Nat} (e : nl_at c k = 2) : nl_arr G h c o k = (nl_aln c o k, .inr (.inr (.inr (.inr fun i => some (gO G 4 (h c o k i).toNat))))) := by
  unfold nl_arr
  rw [if_pos e]
theorem nl_Parr {G : nl_G} {h : nl_H} {s : State} {H : Heap} (hW : nl_Wd G h s H) {c o k : Nat} (hc : c < 7) (ho : o < gN G c) (hk : k < nl_N c) (hf : nl_fk c k = 1) (e : ¬ nl_at c k = 2) : va_P (gD G) nl_cs [(gA G c o k, .inl (gY G (nl_at c k), (nl_aln c o k, .inl fun i => Int32.ofInt (h c o k i))))] H := by
  refine nl_one ?_
  have h1 := hW.2.1 c o k hc ho hk hf
  rw [nl_arr0 e] at h1
  exact h1
theorem nl_Parr2 {G : nl_G} {h : nl_H} {s : State} {H : Heap} (hW : nl_Wd G h s H) {c o k : Nat} (hc : c < 7) (ho : o < gN G c) (hk : k < nl_N c) (hf : nl_fk c k = 1) (e : nl_at c k = 2) : va_P (gD G) nl_cs [(gA G c o k, .inl (gY G 2, (nl_aln c o k, .inr (.inr (.inr (.inr fun i => some (gO G 4 (h c o k i).toNat)))))))] H := by
  refine nl_one ?_
  have h1 := hW.2.1 c o k hc ho hk hf
  rw [nl_arr2 e, e] at h1
  exact h1
theorem nl_inn {LS i : Int} {c o k : Nat} (hc : c < 7) (h : 0 ≤ nl_nz i ∧ nl_nz i < nl_al LS c o k) : vp_in (Int32.ofInt i) (nl_aln c o k) := by
  rw [(nl_aln_eq hc LS o k).1] at h
  exact nx_in h
theorem nl_sw_in {α : Type} {x : Int} {go : Nat → α} {d : Nat} : ∀ (n : Nat) (k : Int) (b : Nat), k ≤ x → x < k + n → ∃ t, (nl_ts n b)[(x - k).toNat]? = some t ∧ nl_sw x go d k n b = go t
  | 0, k, b, h1, h2 => by omega
  | n + 1, k, b, h1, h2 => by
    by_cases hx : x = k
    · subst hx
      refine ⟨b % 1024, by simp [nl_ts], ?_⟩
      simp only [nl_sw]
      rw [if_pos trivial]
    · obtain ⟨t, e1, e2⟩ := nl_sw_in (x := x) (go := go) (d := d) n (k + 1) (b / 1024) (by omega) (by omega)
      refine ⟨t, ?_, ?_⟩
      · have e : (x - k).toNat = (x - (k + 1)).toNat + 1 := by omega
        rw [e, nl_ts, List.getElem?_cons_succ]
        exact e1
      · simp only [nl_sw]
        rw [if_neg hx]
        exact e2
theorem nl_sw_out {α : Type} {x : Int} {go : Nat → α} {d : Nat} : ∀ (n : Nat) (k : Int) (b : Nat), (x < k ∨ k + n ≤ x) → nl_sw x go d k n b = go d
  | 0, k, b, _ => rfl
  | n + 1, k, b, h => by
    simp only [nl_sw]
    rw [if_neg (by omega)]
    exact nl_sw_out n (k + 1) (b / 1024) (by omega)
section NLARR
variable {p : Program} {l : Launch} {e : Env} {R : Room} {s : State} {m : MethodId} {args : Array Value} {below : List Frame} {meth : Method} {c : Code} {cells slots : Nat} {Q : State → Prop} {cc : ByteArray} {nL ci n ret : Nat} {G : nl_G} {den : nl_D} {go : Nat → nl_Ls → List nl_V → nl_H → Option nl_Re} {res : nl_Re} {pc : Nat} {L : nl_Ls} {S : List nl_V} {h : nl_H} {len a b c' : Nat}

theorem ns_iaload (X : nl_Cx p l e R s m args c cells slots cc nL ci n G) (hd : decode cc pc = .ok (.iaload, len)) (hk : nl_ok ci nL (pc, .iaload, len, a, b, c') = true) (hgo : ∀ pc' L' S' h', go pc' L' S' h' = some res → nl_Go p l e R s m args below meth c cells slots Q G nL pc' L' S' h')
    (E : nl_st (gL G) den ret pc L S h (.iaload) len a b c' go = some res) : nl_Go p l e R s m args below meth c cells slots Q G nL pc L S h := by
  simp only [nl_ok, beq_iff_eq] at hk
  subst hk
  simp only [nl_st] at E
  split at E
  · rename_i i c9 o k S'
    cases hc : Nat.beq (nl_at c9 k) 0 with
    | false => simp only [hc, cond_false] at E; cases E
    | true =>
      simp only [hc, cond_true] at E
      have hat := Nat.eq_of_beq_eq_true hc
      split at E
      rename_i hb
      intro H locs ls hW hS hL hV
      rcases nl_okh (nl_okt hV) with ⟨h7, ho, hkk, hf⟩ | h9
      · have K := hgo _ _ _ _ E H locs ls hW hS hL (nl_ok1 trivial (nl_okt (nl_okt hV)))
        refine va_iald (D := gD G) (cl := nl_cs) (tys := nl_ty G) X.1 X.2.1 X.2.2.2.2.2.1.1 (nl_Parr hW h7 ho hkk hf (by rw [hat]; decide)) 0 0 rfl (by rw [hat]; rfl) (nl_inn h7 hb) hd ?_
        rw [nx_cl]
        exact K
      · obtain ⟨rfl, rfl, rfl, h9⟩ := h9
        obtain ⟨scr, s1, s2, s3, s4, s5⟩ := hW.2.2 h9
        have hLS : nl_al (gL G) 9 0 0 = gL G := rfl
        have h6 := X.2.2.2.2.2.2.1.2.2.2.2.2.1 h9
        have hin : ¬ (Int32.ofInt i < 0 ∨ scr.slots.size ≤ (Int32.ofInt i).toNatClampNeg) := by
          rw [s4]
          refine nx_in ?_
          rw [hLS] at hb
          omega
        refine W.iald X.1 X.2.1 s1 s2 s3 hin (s5 _ (by rw [nx_cl]; rw [hLS] at hb; omega)) rfl rfl hd ?_
        rw [nx_cl]
        exact hgo _ _ _ _ E H locs ls hW hS hL (nl_ok1 trivial (nl_okt (nl_okt hV)))
      · cases E
  · cases E
theorem ns_baload (X : nl_Cx p l e R s m args c cells slots cc nL ci n G) (hd : decode cc pc = .ok (.baload, len)) (hk : nl_ok ci nL (pc, .baload, len, a, b, c') = true) (hgo : ∀ pc' L' S' h', go pc' L' S' h' = some res → nl_Go p l e R s m args below meth c cells slots Q G nL pc' L' S' h')
    (E : nl_st (gL G) den ret pc L S h (.baload) len a b c' go = some res) : nl_Go p l e R s m args below meth c cells slots Q G nL pc L S h := by
  simp only [nl_ok, beq_iff_eq] at hk
  subst hk
  simp only [nl_st] at E
  split at E
  · rename_i i c9 o k S'
    cases hc : Nat.beq (nl_at c9 k) 1 with
    | false => simp only [hc, cond_false] at E; cases E
    | true =>
      simp only [hc, cond_true] at E
      have hat := Nat.eq_of_beq_eq_true hc
      split at E
      rename_i hb
      intro H locs ls hW hS hL hV
      rcases nl_okh (nl_okt hV) with ⟨h7, ho, hkk, hf⟩ | h9
      · have K := hgo _ _ _ _ E H locs ls hW hS hL (nl_ok1 trivial (nl_okt (nl_okt hV)))
        refine va_zald (D := gD G) (cl := nl_cs) (tys := nl_ty G) X.1 X.2.1 X.2.2.2.2.2.1.1 (nl_Parr hW h7 ho hkk hf (by rw [hat]; decide)) 0 1 rfl (by rw [hat]; rfl) (nl_inn h7 hb) hd ?_
        rw [nx_cl]
        exact K
      · obtain ⟨rfl, rfl, rfl, h9⟩ := h9
        cases hat
      · cases E
  · cases E
theorem ns_aaload (X : nl_Cx p l e R s m args c cells slots cc nL ci n G) (hd : decode cc pc = .ok (.aaload, len)) (hk : nl_ok ci nL (pc, .aaload, len, a, b, c') = true) (hgo : ∀ pc' L' S' h', go pc' L' S' h' = some res → nl_Go p l e R s m args below meth c cells slots Q G nL pc' L' S' h')
    (E : nl_st (gL G) den ret pc L S h (.aaload) len a b c' go = some res) : nl_Go p l e R s m args below meth c cells slots Q G nL pc L S h := by
  simp only [nl_ok, beq_iff_eq] at hk
  subst hk
  simp only [nl_st] at E
  split at E
  · rename_i i c9 o k S'
    cases hc : Nat.beq (nl_at c9 k) 2 with
    | false => simp only [hc, cond_false] at E; cases E
    | true =>
      simp only [hc, cond_true] at E
      have hat := Nat.eq_of_beq_eq_true hc
      split at E
      rename_i hb
      intro H locs ls hW hS hL hV
      rcases nl_okh (nl_okt hV) with ⟨h7, ho, hkk, hf⟩ | h9
      · refine va_aldq (D := gD G) (cl := nl_cs) (tys := nl_ty G) X.1 X.2.1 X.2.2.2.2.2.1.1 (nl_Parr2 hW h7 ho hkk hf hat) 0 2 rfl rfl (nl_inn h7 hb.1) hd ?_
        rw [nx_cl]
        refine hgo _ _ _ _ E H locs ls hW hS hL (nl_ok1 ⟨by decide, ?_⟩ (nl_okt (nl_okt hV)))
        rw [X.2.2.2.2.2.2.1.cnt (by decide)]
        exact hb.2
      · obtain ⟨rfl, rfl, rfl, h9⟩ := h9
        cases hat
      · cases E
  · cases E
theorem ns_iastore (X : nl_Cx p l e R s m args c cells slots cc nL ci n G) (hd : decode cc pc = .ok (.iastore, len)) (hk : nl_ok ci nL (pc, .iastore, len, a, b, c') = true) (hgo : ∀ pc' L' S' h', go pc' L' S' h' = some res → nl_Go p l e R s m args below meth c cells slots Q G nL pc' L' S' h')
    (E : nl_st (gL G) den ret pc L S h (.iastore) len a b c' go = some res) : nl_Go p l e R s m args below meth c cells slots Q G nL pc L S h := by
  simp only [nl_ok, beq_iff_eq] at hk
  subst hk
  simp only [nl_st] at E
  split at E
  · rename_i x i c9 o k S'
    cases hc : (Nat.beq (nl_at c9 k) 0 && Nat.blt c9 7) with
    | false => simp only [hc, cond_false] at E; cases E
    | true =>
      simp only [hc, cond_true] at E
      simp only [Bool.and_eq_true, Nat.blt_eq] at hc
      have hat := Nat.eq_of_beq_eq_true hc.1
      split at E
      rename_i hb
      intro H locs ls hW hS hL hV
      rcases nl_okh (nl_okt (nl_okt hV)) with ⟨h7, ho, hkk, hf⟩ | h9
      · have hA := X.2.2.2.2.2.2.1
        have hP := nl_Parr hW h7 ho hkk hf (by rw [hat]; decide) 0 _ rfl
        have hn2 : ¬ nl_at c9 k = 2 := by rw [hat]; decide
        refine W.iast X.1 X.2.1 hP (by rw [hat]; exact (X.2.2.2.2.2.1.1.2 0 _ rfl).1 _ (fun j => .int (Int32.ofInt (h c9 o k j)))) (fun q => by cases q) (by show ¬ (_ ∨ (arrV _ _ _).slots.size ≤ _); rw [arrV_size]; exact nl_inn h7 hb) rfl rfl hd fun H1 e1 z oq => ?_
        refine hgo _ _ _ _ E H1 _ ls (nl_Wd_st hA hW h7 ho hkk hf ?_ oq) (hS.put z oq (hA.2.2.2.2.1 _ _ _ h7 ho hkk hf)) hL (nl_okt (nl_okt (nl_okt hV)))
        rw [e1, nl_arr0 hn2, vp_cell_i, vp_cell_i, arrV_store]
        congr 2
        funext q
        rw [nx_cl]
        unfold updV nl_up
        by_cases hq : q = (nl_nz i).toNat
        · subst hq
          simp
        · simp [hq]
      · omega
      · cases E
  · cases E
theorem ns_bastore (X : nl_Cx p l e R s m args c cells slots cc nL ci n G) (hd : decode cc pc = .ok (.bastore, len)) (hk : nl_ok ci nL (pc, .bastore, len, a, b, c') = true) (hgo : ∀ pc' L' S' h', go pc' L' S' h' = some res → nl_Go p l e R s m args below meth c cells slots Q G nL pc' L' S' h')
    (E : nl_st (gL G) den ret pc L S h (.bastore) len a b c' go = some res) : nl_Go p l e R s m args below meth c cells slots Q G nL pc L S h := by
  simp only [nl_ok, beq_iff_eq] at hk
  subst hk
  simp only [nl_st] at E
  split at E
  · rename_i x i c9 o k S'
    cases hc : (Nat.beq (nl_at c9 k) 1 && Nat.blt c9 7) with
    | false => simp only [hc, cond_false] at E; cases E
    | true =>
      simp only [hc, cond_true] at E
      simp only [Bool.and_eq_true, Nat.blt_eq] at hc
      have hat := Nat.eq_of_beq_eq_true hc.1
      split at E
      rename_i hb
      intro H locs ls hW hS hL hV
      rcases nl_okh (nl_okt (nl_okt hV)) with ⟨h7, ho, hkk, hf⟩ | h9
      · have hA := X.2.2.2.2.2.2.1
        have hP := nl_Parr hW h7 ho hkk hf (by rw [hat]; decide) 0 _ rfl
        have hn2 : ¬ nl_at c9 k = 2 := by rw [hat]; decide
        refine W.zast X.1 X.2.1 hP (by rw [hat]; exact (X.2.2.2.2.2.1.1.2 1 _ rfl).1 _ (fun j => .int (Int32.ofInt (h c9 o k j)))) (fun q => by cases q) (by show ¬ (_ ∨ (arrV _ _ _).slots.size ≤ _); rw [arrV_size]; exact nl_inn h7 hb.1) rfl rfl hd fun H1 e1 z oq => ?_
        refine hgo _ _ _ _ E H1 _ ls (nl_Wd_st hA hW h7 ho hkk hf ?_ oq) (hS.put z oq (hA.2.2.2.2.1 _ _ _ h7 ho hkk hf)) hL (nl_okt (nl_okt (nl_okt hV)))
        have hn : narrow .boolean (.int (Int32.ofInt x)) = .int (Int32.ofInt x) := by
          rcases hb.2 with rfl | rfl <;> rfl
        rw [e1, hn, nl_arr0 hn2, vp_cell_i, vp_cell_i, arrV_store]
        congr 2
        funext q
        rw [nx_cl]
        unfold updV nl_up
        by_cases hq : q = (nl_nz i).toNat
        · subst hq
          simp
        · simp [hq]
      · omega
      · cases E
  · cases E
theorem ns_aastore (X : nl_Cx p l e R s m args c cells slots cc nL ci n G) (hd : decode cc pc = .ok (.aastore, len)) (hk : nl_ok ci nL (pc, .aastore, len, a, b, c') = true) (hgo : ∀ pc' L' S' h', go pc' L' S' h' = some res → nl_Go p l e R s m args below meth c cells slots Q G nL pc' L' S' h')
    (E : nl_st (gL G) den ret pc L S h (.aastore) len a b c' go = some res) : nl_Go p l e R s m args below meth c cells slots Q G nL pc L S h := by
  simp only [nl_ok, beq_iff_eq] at hk
  subst hk
  simp only [nl_st] at E
  split at E
  · rename_i d v i c9 o k S'
    cases hc : (Nat.beq (nl_at c9 k) 2 && Nat.beq d 4) with
    | false => simp only [hc, cond_false] at E; cases E
    | true =>
      simp only [hc, cond_true] at E
      simp only [Bool.and_eq_true] at hc
      have hat := Nat.eq_of_beq_eq_true hc.1
      have hd4 := Nat.eq_of_beq_eq_true hc.2
      subst hd4
      split at E
      rename_i hb
      intro H locs ls hW hS hL hV
      rcases nl_okh (nl_okt (nl_okt hV)) with ⟨h7, ho, hkk, hf⟩ | h9
      · have hA := X.2.2.2.2.2.2.1
        have hKK := X.2.2.2.2.2.1.1
        have hv := nl_okh hV
        have hP := nl_Parr2 hW h7 ho hkk hf hat 0 _ rfl
        have hin := nl_inn h7 hb
        have hlt : (Int32.ofInt i).toNatClampNeg < nl_aln c9 o k := Nat.not_le.mp fun q => hin (Or.inr q)
        have h0 : ¬ Int32.ofInt i < 0 := fun q => hin (Or.inl q)
        obtain ⟨cellV, g1, g2, g3, -⟩ := hW.1 4 v (by decide) hv.2
        have hcls := (hKK.1 4 _ (nl_cs_at (by decide))).2
        obtain ⟨kA, comp, k1, k2, k3, -⟩ := (hKK.2 2 _ rfl).2
        have hcomp : comp = (gD G).1 4 := Option.some.inj (k3.symm.trans hcls.1)
        subst hcomp
        obtain ⟨kC, hkC, -⟩ := hcls.2
        refine W.aast X.1 X.2.1 hP (fun q h => by cases h) (fun h => by cases h) k1 k2 rfl hkC ⟨h0, by show _ < (arrV _ _ _).slots.size; rw [arrV_size]; exact hlt⟩ g1 (fun q h => by rw [g3] at h; cases h) (by rw [g2]; exact hkC) (by rw [g2]; exact va_assign hcls) rfl rfl hd fun H1 e1 z oq => ?_
        refine hgo _ _ _ _ E H1 _ ls (nl_Wd_st hA hW h7 ho hkk hf ?_ oq) (hS.put z oq (hA.2.2.2.2.1 _ _ _ h7 ho hkk hf)) hL (nl_okt (nl_okt (nl_okt hV)))
        rw [e1, nl_arr2 hat, hat, vp_cell_q, vp_cell_q, arrV_store]
        congr 2
        funext q
        rw [nx_cl]
        unfold updV nl_up
        by_cases hq : q = (nl_nz i).toNat
        · subst hq
          simp [va_rf]
        · simp [hq]
      · obtain ⟨rfl, rfl, rfl, h9⟩ := h9
        cases hat
      · cases E
  · cases E
theorem ns_arraylength (X : nl_Cx p l e R s m args c cells slots cc nL ci n G) (hd : decode cc pc = .ok (.arraylength, len)) (hk : nl_ok ci nL (pc, .arraylength, len, a, b, c') = true) (hgo : ∀ pc' L' S' h', go pc' L' S' h' = some res → nl_Go p l e R s m args below meth c cells slots Q G nL pc' L' S' h')
    (E : nl_st (gL G) den ret pc L S h (.arraylength) len a b c' go = some res) : nl_Go p l e R s m args below meth c cells slots Q G nL pc L S h := by
  simp only [nl_ok, beq_iff_eq] at hk
  subst hk
  simp only [nl_st] at E
  split at E
  · rename_i c9 o k S'
    intro H locs ls hW hS hL hV
    rcases nl_okh hV with ⟨h7, ho, hkk, hf⟩ | h9
    · have e1 := (nl_aln_eq h7 (gL G) o k).1
      have K := hgo _ _ _ _ E H locs ls hW hS hL (nl_ok1 trivial (nl_okt hV))
      have hv : Int32.ofNat (nl_aln c9 o k) = Int32.ofInt (nl_al (gL G) c9 o k) := by rw [e1, Int32.ofInt_eq_ofNat]
      by_cases h2 : nl_at c9 k = 2
      · exact va_alen (D := gD G) (cl := nl_cs) (tys := nl_ty G) X.1 X.2.1 X.2.2.2.2.2.1.1 (nl_Parr2 hW h7 ho hkk hf h2) 0 2 rfl rfl hv hd K
      · have h3 : nl_at c9 k = 0 ∨ nl_at c9 k = 1 := by
          unfold nl_at at h2 ⊢
          split at h2
          · exact absurd rfl h2
          · split at h2 <;> simp
          · exact Or.inl rfl
        rcases h3 with h3 | h3
        · exact va_alen (D := gD G) (cl := nl_cs) (tys := nl_ty G) X.1 X.2.1 X.2.2.2.2.2.1.1 (nl_Parr hW h7 ho hkk hf h2) 0 0 rfl (by rw [h3]; rfl) hv hd K
        · exact va_alen (D := gD G) (cl := nl_cs) (tys := nl_ty G) X.1 X.2.1 X.2.2.2.2.2.1.1 (nl_Parr hW h7 ho hkk hf h2) 0 1 rfl (by rw [h3]; rfl) hv hd K
    · obtain ⟨rfl, rfl, rfl, h9⟩ := h9
      obtain ⟨scr, s1, s2, s3, s4, s5⟩ := hW.2.2 h9
      have h6 := X.2.2.2.2.2.2.1.2.2.2.2.2.1 h9
      refine W.alen X.1 X.2.1 s1 s2 (n := Int32.ofInt (gL G)) ?_ rfl rfl hd (hgo _ _ _ _ E H locs ls hW hS hL (nl_ok1 trivial (nl_okt hV)))
      rw [s4]
      show Int32.ofNat _ = _
      rw [← Int32.ofInt_eq_ofNat, Int.toNat_of_nonneg h6.2.1]
  · cases E
theorem ns_tableswitch (X : nl_Cx p l e R s m args c cells slots cc nL ci n G) {d9 lo hi : Int} {offs : Array Int} (hd : decode cc pc = .ok (.tableswitch d9 lo hi offs, len)) (hk : nl_ok ci nL (pc, .tableswitch d9 lo hi offs, len, a, b, c') = true) (hgo : ∀ pc' L' S' h', go pc' L' S' h' = some res → nl_Go p l e R s m args below meth c cells slots Q G nL pc' L' S' h')
    (E : nl_st (gL G) den ret pc L S h (.tableswitch d9 lo hi offs) len a b c' go = some res) : nl_Go p l e R s m args below meth c cells slots Q G nL pc L S h := by
  simp only [nl_ok, Bool.and_eq_true, decide_eq_true_eq] at hk
  obtain ⟨⟨hk1, hk2⟩, hk3⟩ := hk
  simp only [nl_st] at E
  split at E
  · rename_i x S'
    intro H locs ls hW hS hL hV
    by_cases hr : lo ≤ nl_nz x ∧ nl_nz x ≤ hi
    · obtain ⟨t, e1, e2⟩ := nl_sw_in (x := nl_nz x) (go := fun t => go t L S' h) (d := a) c' lo b hr.1 (by omega)
      rw [e2] at E
      have e3 : (offs.toList.map (fun o => (pc : Int) + o))[(nl_nz x - lo).toNat]? = some (t : Int) := by
        rw [hk3, List.getElem?_map, e1]
        rfl
      rw [List.getElem?_map] at e3
      obtain ⟨o, o1, o2⟩ := Option.map_eq_some_iff.mp e3
      refine lv_tableIn X.1 X.2.1 hd (x := Int32.ofInt x) (off := o) (tgt := t) (by rw [nx_toInt]; omega) (by rw [nx_toInt]; omega) (by rw [nx_toInt, ← Array.getElem?_toList]; exact o1) o2 ?_
      exact hgo _ _ _ _ E H locs ls hW hS hL (nl_okt hV)
    · rw [nl_sw_out c' lo b (by omega)] at E
      exact lv_tableOut X.1 X.2.1 hd (x := Int32.ofInt x) (by rw [nx_toInt]; omega) hk1 (hgo _ _ _ _ E H locs ls hW hS hL (nl_okt hV))
  · cases E
end NLARR
end
section

def nl_rv (k : Nat) (r : Int) : Option Value := match k with
  | 0 => none
  | 2 => some (.long (Int64.ofInt r))
  | _ => some (.int (Int32.ofInt r))
theorem nl_rv0 {k c : Nat} (r : Int) (h : nl_rc k = c) : (c = 0 → nl_rv k r = none) ∧ (c = 1 → nl_rv k r = some (.int (Int32.ofInt r))) ∧ (c = 2 → nl_rv k r = some (.long (Int64.ofInt r))) := by
  unfold nl_rc at h
  split at h
  · subst h
    exact ⟨fun e => absurd e (by decide), fun _ => rfl, fun e => absurd e (by decide)⟩
  · subst h
    refine ⟨fun e => ?_, fun e => ?_, fun e => ?_⟩ <;> (rw [e]; rfl)
def nl_rm (n : Nat) : Room := { frames := n, cells := 0, slots := 0, locals := 100 * n }
def nl_Pc (G : nl_G) (args : List nl_V) (h : nl_H) : Array Value → State → Prop := va_Pc (args.map (nl_cv G)) (fun U => nl_Wd G h U U.heap ∧ nl_K G U)
def nl_Qc (G : nl_G) (k : Nat) (r : Int × nl_H) : Array Value → State → Outcome → State → Prop := fun _ st oc t => oc = .returned (nl_rv k r.1) ∧ nl_Wd G r.2 t t.heap ∧ va_F (gF G) st t
def nl_ws (I : nl_I) : List Jvm.Cond := Cond.code I.1 I.2.1 I.2.2.1 I.2.2.2.1 :: nl_WL
/-- a method's contract at depth n -/
def nl_Mt (l : Launch) (G : nl_G) (n y : Nat) (args : List nl_V) (h : nl_H) (r : Int × nl_H) : Prop := ∃ I : nl_I, nl_inf[y]? = some I ∧ Met l I.1 (nl_ws I) (nl_rm n) (nl_Pc G args h) (nl_Qc G (nl_r3 I.2.2.2.1) r) 0 0 (gF G)
theorem nl_Wd.moved {G : nl_G} {h : nl_H} {u U : State} {H : Heap} (hvm : u.vm.Alike U.vm) (hW : nl_Wd G h u H) : nl_Wd G h U H := ⟨hW.1, hW.2.1, fun h9 => (hW.2.2 h9).moved hvm⟩
theorem nl_K.warm {G : nl_G} {s U : State} (hW : s.WarmedH U.vm) (h : nl_K G s) : nl_K G U := ⟨va_K.moved hW.alike h.1, h.2.warmM hW⟩
theorem nl_blind (G : nl_G) (args : List nl_V) (h : nl_H) : FrameBlind (nl_Pc G args h) := by
  intro a U g mk hp
  obtain ⟨h1, h2, h3⟩ := hp
  exact ⟨h1, nl_Wd.moved (u := U) (U := U.calling g mk a) (Vm.Alike.refl U.vm) h2, va_K.moved (u := U) (U := U.calling g mk a) (Vm.Alike.refl U.vm) h3.1, va_Nw.same (u := U) (U := U.calling g mk a) rfl rfl h3.2⟩
theorem nl_pni : ∀ I ∈ nl_inf, I.2.2.2.2.1 < 9 ∧ I.2.2.2.2.1 ≠ 7 := by
  have h : nl_inf.all (fun I => decide (I.2.2.2.2.1 < 9) && decide (I.2.2.2.2.1 ≠ 7)) = true := by decide +kernel
  intro I hI
  have := List.all_eq_true.mp h I hI
  simpa using this
theorem nl_pn {I : nl_I} (hI : I ∈ nl_inf) : plainName I.1.cls = true ∧ I.1.cls ≠ "java/lang/invoke/MethodHandle" ∧ I.1.cls ≠ "java/lang/invoke/VarHandle" := by
  have h1 := nl_pni I hI
  rw [(nl_inf_ok I hI).2.2.1]
  generalize I.2.2.2.2.1 = c at h1
  match c, h1 with
  | 0, _ => exact nl_pn0
  | 1, _ => exact nl_pn1
  | 2, _ => exact nl_pn2
  | 3, _ => exact nl_pn3
  | 4, _ => exact nl_pn4
  | 5, _ => exact nl_pn5
  | 6, _ => exact nl_pn6
  | 7, h => exact absurd rfl h.2
  | 8, _ => exact nl_pn8
  | n + 9, h => exact absurd h.1 (by omega)
theorem nl_goodW {w : Jvm.Cond} (h : w ∈ nl_WL) : w ∈ nl_WL ∧ ((w.onTables && w.keeps) = true ∨ ∃ ty, w = .arrayClass ty) := ⟨h, good_of_word (nl_WL_good h)⟩
theorem nl_goodIn {I : nl_I} (hI : nl_okI I) : GoodIn nl_WL (nl_ws I) := fun w hw => by
  rcases List.mem_cons.mp hw with h | h
  · rw [h]; exact nl_goodW hI.1
  · exact nl_goodW h
/-- what every method of the tables holds, by its number alone -/
theorem nl_ofI {y : Nat} {I : nl_I} (h : nl_inf[y]? = some I) : I ∈ nl_inf ∧ nl_okI I ∧ nl_nm y = I.1 ∧ (parseMethodDescriptor I.1.desc).map (fun d => d.parameters.length) = some I.2.2.2.2.2.1 ∧ I.2.2.1 ≤ 60 := by
  have hm := List.mem_of_getElem? h
  have hy : y < nl_inf.length := (List.getElem?_eq_some_iff.mp h).1
  have hy2 : y < nl_mts.length := by rw [nl_len]; exact hy
  obtain ⟨I', h1, h2, h3, h4⟩ := nl_of (List.getElem?_eq_getElem hy2)
  rw [h] at h1
  cases h1
  refine ⟨hm, h3, h4, h2.2.2.2.2.2, ?_⟩
  rw [← h2.2.1]
  exact h2.2.2.2.2.1
section NLCALL
variable {p : Program} {l : Launch} {e : Env} {R : Room} {s : State} {m : MethodId} {args : Array Value} {below : List Frame} {meth : Method} {c : Code} {cells slots : Nat} {Q : State → Prop} {cc : ByteArray} {nL ci n ret : Nat} {G : nl_G} {den : nl_D} {go : Nat → nl_Ls → List nl_V → nl_H → Option nl_Re} {res : nl_Re} {pc : Nat} {L : nl_Ls} {S : List nl_V} {h : nl_H} {len a b c' : Nat}

variable {H : Heap} {locs : List Loc} {ls : Array Slot} {st0 rest : List Value} {r : Int × nl_H} {k : Nat} {a9 : Array Value}
theorem nl_call (hr : va_Run p l e R s m args below meth c H locs cells slots 0 0 (F0 m pc ls st0) rest (nl_Qc G k r a9) (gF G)) (hS : va_S (gF G) s.heap H locs)
    (kk : ∀ (H1 : Heap) (locs1 : List Loc), nl_Wd G r.2 s H1 → va_S (gF G) s.heap H1 locs1 → W p l e R s m args below meth c H1 locs1 cells slots Q (F0 m (pc + 3) ls ((nl_rv k r.1).toList ++ rest))) : W p l e R s m args below meth c H locs cells slots Q (F0 m pc ls st0) := by
  intro T hT X
  obtain ⟨v, st₀, t, T', L, h0, X', hL, e1, e2, ⟨hv, hw, hz, hk⟩, st⟩ := hr T hT X
  cases hv
  rw [h0] at hz hk
  have hal : s.vm.Alike t.vm := by rw [← e2]; exact X'.warmed.alike
  have hw2 : nl_Wd G r.2 s T'.heap := by rw [e1]; exact hw.moved hal.symm
  obtain ⟨t2, a1, b1⟩ := kk T'.heap (locs ++ L) hw2
    ⟨Nat.le_trans hS.1 (by rw [e1]; exact hz), fun q h1 h2 => by rw [e1, hk q (Nat.lt_of_lt_of_le h1 hS.1) h2]; exact hS.2.1 q h1 h2, fun q hq => by
      rcases List.mem_append.mp hq with h | h
      · exact hS.2.2 q h
      · exact hL q h⟩ T' rfl X'
  exact ⟨t2, st t2 a1, b1⟩
theorem nl_take {S : List nl_V} {b : Nat} {v : nl_V} {S' : List nl_V} (h : S.drop b = v :: S') : S = ((S.take b).reverse).reverse ++ v :: S' := by
  rw [List.reverse_reverse, ← h, List.take_append_drop]
theorem nl_len_take {S : List nl_V} {b : Nat} {v : nl_V} {S' : List nl_V} (h : S.drop b = v :: S') : (S.take b).reverse.length = b := by
  have : b < S.length := by
    rcases Nat.lt_or_ge b S.length with q | q
    · exact q
    · rw [List.drop_eq_nil_of_le q] at h; cases h
  rw [List.length_reverse, List.length_take]
  omega

theorem ns_invokevirtual (X : nl_Cx p l e R s m args c cells slots cc nL ci n G) {k : Nat} (hden : ∀ (y : Nat) (as : List nl_V) (g : nl_H) (r : Int × nl_H), (∀ v ∈ as, nl_okv G v) → den y as g = some r → nl_Mt l G n y as g r) (hd : decode cc pc = .ok (.invokevirtual k, len)) (hk : nl_ok ci nL (pc, .invokevirtual k, len, a, b, c') = true) (hgo : ∀ pc' L' S' h', go pc' L' S' h' = some res → nl_Go p l e R s m args below meth c cells slots Q G nL pc' L' S' h')
    (E : nl_st (gL G) den ret pc L S h (.invokevirtual k) len a b c' go = some res) : nl_Go p l e R s m args below meth c cells slots Q G nL pc L S h := by
  simp only [nl_ok, Bool.and_eq_true, beq_iff_eq, List.contains_iff_mem] at hk
  obtain ⟨⟨hk1, hl⟩, hk2⟩ := hk
  subst hl
  simp only [nl_st] at E
  split at E
  · rename_i c9 o S' hdr
    cases hc : (Nat.beq c9 (c' / 4) && Nat.ble (nl_cats S') 8) with
    | false => simp only [hc, cond_false] at E; cases E
    | true =>
      simp only [hc, cond_true] at E
      simp only [Bool.and_eq_true] at hc
      have hc0 := Nat.eq_of_beq_eq_true hc.1
      have hc := Nat.le_of_ble_eq_true hc.2
      cases hr : den a (vO c9 o :: (S.take b).reverse) h with
      | none => rw [hr] at E; cases E
      | some r =>
        rw [hr] at E
        simp only [Option.bind_some] at E
        intro H locs ls hW hS hL hV
        have hX := X
        obtain ⟨hx, hbb, hml, hown, hts, hK, hA, hcs, hfr, hlo⟩ := hX
        have hmem : ∀ v ∈ vO c9 o :: S', v ∈ S := fun v hv => List.mem_of_mem_drop (by rw [hdr]; exact hv)
        have hov := hV _ (hmem _ List.mem_cons_self)
        have hArgs : ∀ v ∈ vO c9 o :: (S.take b).reverse, nl_okv G v := nl_ok1 hov fun v hv => hV v (List.mem_of_mem_take (List.mem_reverse.mp hv))
        obtain ⟨I, hI, hMet⟩ := hden _ _ _ _ hArgs hr
        rw [hI] at hk2
        simp only [Bool.and_eq_true, Nat.beq_eq, Bool.not_eq_true'] at hk2
        obtain ⟨⟨⟨hnp, hst⟩, hrk⟩, hci⟩ := hk2
        have hcc : c9 = I.2.2.2.2.1 := hc0.trans hci.symm
        obtain ⟨hIm, hIo, hnm, hds, h60⟩ := nl_ofI hI
        have hlink := nl_ML_all _ hk1
        unfold nl_okML at hlink
        rw [hnm] at hlink
        have hgd : GoodIn nl_WL (wsV (nl_R ci) k I.1.cls I.1 (nl_ws I)) := by
          intro w hw
          unfold wsV at hw
          rcases List.mem_append.mp hw with hw | hw
          · simp only [List.mem_cons, List.not_mem_nil, or_false] at hw
            rcases hw with rfl | rfl | rfl | rfl
            · exact nl_goodW hlink
            · exact nl_goodW (hIo.2.2.2.2 hst).1
            · rw [hIo.2.2.1]; exact nl_goodW (hIo.2.2.2.2 hst).2
            · rw [hIo.2.2.1]; exact nl_goodW hIo.2.1
          · exact nl_goodIn hIo w hw
        have hpn := nl_pn hIm
        have cw : CallW R s args (nl_R ci) I.1.cls k I.1 I.2.1 I.2.2.1 I.2.2.2.1 (nl_ws I) (nl_rm n) 0 0 b := cwV b hts hgd rfl rfl rfl ⟨rfl, hpn.2.1, hpn.2.2, by rw [hds, hnp]⟩ ⟨hfr, by show 8 + (I.2.2.1 + 11) + 100 * n ≤ _; omega⟩
        have hcn : c9 = I.2.2.2.2.1 := hcc
        obtain ⟨cellB, g1, g2, g3, -⟩ := hW.1 c9 o hov.1 hov.2
        have hcls := (hK.1.1 c9 _ (nl_cs_at hov.1)).2
        have hp : PreV s H I.1.cls (gO G c9 o) (nl_Pc G (vO c9 o :: (S.take b).reverse) h) ((S.take b).reverse.map (nl_cv G)) := by
          refine ⟨nl_blind _ _ _, ⟨cellB, g1, by rw [g3]; rfl, ?_⟩, fun U hU hWU => ⟨rfl, ?_, hK.warm hWU⟩⟩
          · rw [hIo.2.2.1, ← hcn, g2]
            exact hcls.1
          · rw [hU]; exact hW.moved hWU.alike
        have hSe : S.map (nl_cv G) = ((S.take b).reverse.map (nl_cv G)).reverse ++ Value.ref (gO G c9 o) :: S'.map (nl_cv G) := by
          have e := congrArg (List.map (nl_cv G)) (nl_take hdr)
          rw [List.map_append, List.map_reverse] at e
          exact e
        refine nl_call (va_runV (y := I.1) (rest := S'.map (nl_cv G)) ⟨hx, hbb, hml, hown, hts⟩ hMet cw hp rfl (by rw [List.length_map]; exact nl_len_take hdr) hL.1.1 hSe (by show 2 * 0 + _ ≤ 8; rw [nl_cats_eq]; omega) hd ⟨hcs.1, hcs.2⟩) hS (fun H1 locs1 hW1 hS1 => ?_)
        have hV' : ∀ v ∈ S', nl_okv G v := fun v hv => hV v (hmem v (List.mem_cons_of_mem _ hv))
        split at E
        · rename_i hz
          rw [(nl_rv0 r.1 hrk).1 hz]
          exact hgo _ _ _ _ E H1 locs1 ls hW1 hS1 hL hV'
        · rename_i hz
          rw [(nl_rv0 r.1 hrk).2.1 hz]
          exact hgo _ _ _ _ E H1 locs1 ls hW1 hS1 hL (nl_ok1 trivial hV')
        · cases E
  · cases E
end NLCALL
end
section
section NLCALS
variable {p : Program} {l : Launch} {e : Env} {R : Room} {s : State} {m : MethodId} {args : Array Value} {below : List Frame} {meth : Method} {c : Code} {cells slots : Nat} {Q : State → Prop} {cc : ByteArray} {nL ci n ret : Nat} {G : nl_G} {den : nl_D} {go : Nat → nl_Ls → List nl_V → nl_H → Option nl_Re} {res : nl_Re} {pc : Nat} {L : nl_Ls} {S : List nl_V} {h : nl_H} {len a b c' : Nat}
variable {H : Heap} {locs : List Loc} {ls : Array Slot} {st0 rest : List Value} {r : Int × nl_H} {k : Nat} {a9 : Array Value}


/-- a static call, over an ordinary link or a nest mate's -/
theorem nl_scall {I : nl_I} (X : nl_Cx p l e R s m args c cells slots cc nL ci n G) (hd : decode cc pc = .ok (.invokestatic k, 3))
    (hk1 : (nl_ML.contains (ci, k, a) || (Nat.beq ci 1 && Nat.beq k 52 && Nat.beq a 71)) = true) (hI : nl_inf[a]? = some I)
    (hMet : Met l I.1 (nl_ws I) (nl_rm n) (nl_Pc G (S.take b).reverse h) (nl_Qc G (nl_r3 I.2.2.2.1) r) 0 0 (gF G)) (hbl : b ≤ S.length) (hnp : I.2.2.2.2.2.1 = b) (hst : I.2.2.2.2.2.2 = true) (hc : nl_cats (S.drop b) ≤ 8)
    (hW : nl_Wd G h s H) (hS : va_S (gF G) s.heap H locs) (hL : nl_lh G ls nL L) (hV : ∀ v ∈ S, nl_okv G v)
    (kk : ∀ (H1 : Heap) (locs1 : List Loc), nl_Wd G r.2 s H1 → va_S (gF G) s.heap H1 locs1 → W p l e R s m args below meth c H1 locs1 cells slots Q (F0 m (pc + 3) ls ((nl_rv (nl_r3 I.2.2.2.1) r.1).toList ++ (S.drop b).map (nl_cv G)))) :
    W p l e R s m args below meth c H locs cells slots Q (F0 m pc ls (S.map (nl_cv G))) := by
  obtain ⟨hx, hbb, hml, hown, hts, hK, hA, hcs, hfr, hlo⟩ := X
  obtain ⟨hIm, hIo, hnm, hds, h60⟩ := nl_ofI hI
  have hpn := nl_pn hIm
  have hp : PreS s H (nl_Pc G (S.take b).reverse h) ((S.take b).reverse.map (nl_cv G)) := ⟨nl_blind _ _ _, fun U hU hWU => ⟨rfl, by rw [hU]; exact hW.moved hWU.alike, hK.warm hWU⟩⟩
  have hSe : S.map (nl_cv G) = ((S.take b).reverse.map (nl_cv G)).reverse ++ (S.drop b).map (nl_cv G) := by
    rw [List.map_reverse, List.reverse_reverse, ← List.map_append, List.take_append_drop]
  have hlen : ((S.take b).reverse.map (nl_cv G)).length = b := by
    rw [List.length_map, List.length_reverse, List.length_take]
    omega
  rcases Bool.or_eq_true_iff.mp hk1 with hk1 | hk1
  · have hlink := nl_ML_all _ (List.contains_iff_mem.mp hk1)
    unfold nl_okML at hlink
    rw [hnm] at hlink
    have hgd : GoodIn nl_WL (va_wsS (nl_R ci) k I.1 (nl_ws I)) := by
      intro w hw
      unfold va_wsS at hw
      rcases List.mem_append.mp hw with hw | hw
      · simp only [List.mem_cons, List.not_mem_nil, or_false] at hw
        rcases hw with rfl | rfl | rfl
        · exact nl_goodW hlink
        · exact nl_goodW (hIo.2.2.2.1 hst)
        · rw [hIo.2.2.1]; exact nl_goodW hIo.2.1
      · exact nl_goodIn hIo w hw
    have cw := va_cwS (R := R) (rm := nl_rm n) b hts hgd rfl rfl rfl ⟨hpn.2.1, hpn.2.2, by rw [hds, hnp]⟩ ⟨hfr, by show 8 + (I.2.2.1 + 11) + 100 * n ≤ _; omega⟩
    exact nl_call (va_runS (y := I.1) (rest := (S.drop b).map (nl_cv G)) ⟨hx, hbb, hml, hown, hts⟩ hMet cw hp rfl hlen hL.1.1 hSe (by show 2 * 0 + _ ≤ 8; rw [nl_cats_eq]; omega) hd ⟨hcs.1, hcs.2⟩) hS kk
  · simp only [Bool.and_eq_true, Nat.beq_eq] at hk1
    obtain ⟨⟨rfl, rfl⟩, rfl⟩ := hk1
    have hI2 : I = (yX5_isWithin, cX5_isWithin, 3, some .boolean, 5, 3, true) := Option.some.inj (hI.symm.trans rfl)
    subst hI2
    have cw := va_cnB (R := R) (rm := nl_rm n) (own := nl_R 1) (index := 52) (y := yX5_isWithin) (host := RX5) (mc := 0) (ms := 0) b hts (nl_goodIn hIo) rfl rfl rfl hK.2 (hts _ hIo.2.1) ⟨hpn.2.1, hpn.2.2, by rw [hds, hnp]⟩ ⟨hfr, by show 8 + (3 + 11) + 100 * n ≤ _; omega⟩
    exact nl_call (va_runSN (y := yX5_isWithin) (rest := (S.drop b).map (nl_cv G)) ⟨hx, hbb, hml, hown, hts⟩ hMet ⟨cw, hts _ (hIo.2.2.2.1 hst), trivial⟩ hp rfl hlen hL.1.1 hSe (by show 2 * 0 + _ ≤ 8; rw [nl_cats_eq]; omega) hd ⟨hcs.1, hcs.2⟩) hS kk

theorem ns_math3 (X : nl_Cx p l e R s m args c cells slots cc nL ci n G) {k : Nat} (hd : decode cc pc = .ok (.invokestatic k, len)) (hk : nl_ok ci nL (pc, .invokestatic k, len, a, b, 3) = true) (hgo : ∀ pc' L' S' h', go pc' L' S' h' = some res → nl_Go p l e R s m args below meth c cells slots Q G nL pc' L' S' h')
    (E : nl_st (gL G) den ret pc L S h (.invokestatic k) len a b 3 go = some res) : nl_Go p l e R s m args below meth c cells slots Q G nL pc L S h := by
  simp only [nl_st] at E
  simp only [nl_ok] at hk
  rw [if_pos (by decide)] at hk
  simp only [Bool.and_eq_true, beq_iff_eq, List.contains_iff_mem, decide_eq_true_eq] at hk
  obtain ⟨⟨-, hk1⟩, hl⟩ := hk
  subst hl
  split at E
  · rename_i y x S'
    cases hc : Nat.ble (nl_cats S') 8 with
    | false => simp only [hc, cond_false] at E; cases E
    | true =>
      simp only [hc, cond_true] at E
      have hc := Nat.le_of_ble_eq_true hc
      intro H locs ls hW hS hL hV
      obtain ⟨hx, hbb, hml, hown, hts, hK, hA, hcs, hfr, hlo⟩ := X
      refine va_mmax hx hbb (hml.trans hL.1.1.symm) hown (hts _ (nl_MM_all _ hk1)) (hts _ nl_ma3.1) (hts _ nl_mi) (hts _ nl_ma3.2) (by omega) (by rw [nl_cats_eq]; omega) hcs.1 hcs.2 hd ?_
      have e : (if Int32.ofInt x < Int32.ofInt y then Int32.ofInt y else Int32.ofInt x) = Int32.ofInt (if nl_nz x < nl_nz y then y else x) := by
        by_cases hq : Int32.ofInt x < Int32.ofInt y
        · rw [if_pos hq, if_pos ((nx_lt _ _).mp hq)]
        · rw [if_neg hq, if_neg (fun z => hq ((nx_lt _ _).mpr z))]
      rw [e]
      exact hgo _ _ _ _ E H locs ls hW hS hL (nl_ok1 trivial (nl_okt (nl_okt hV)))
  · cases E
theorem ns_math4 (X : nl_Cx p l e R s m args c cells slots cc nL ci n G) {k : Nat} (hd : decode cc pc = .ok (.invokestatic k, len)) (hk : nl_ok ci nL (pc, .invokestatic k, len, a, b, 4) = true) (hgo : ∀ pc' L' S' h', go pc' L' S' h' = some res → nl_Go p l e R s m args below meth c cells slots Q G nL pc' L' S' h')
    (E : nl_st (gL G) den ret pc L S h (.invokestatic k) len a b 4 go = some res) : nl_Go p l e R s m args below meth c cells slots Q G nL pc L S h := by
  simp only [nl_st] at E
  simp only [nl_ok] at hk
  rw [if_pos (by decide)] at hk
  simp only [Bool.and_eq_true, beq_iff_eq, List.contains_iff_mem, decide_eq_true_eq] at hk
  obtain ⟨⟨-, hk1⟩, hl⟩ := hk
  subst hl
  split at E
  · rename_i y x S'
    cases hc : Nat.ble (nl_cats S') 8 with
    | false => simp only [hc, cond_false] at E; cases E
    | true =>
      simp only [hc, cond_true] at E
      have hc := Nat.le_of_ble_eq_true hc
      intro H locs ls hW hS hL hV
      obtain ⟨hx, hbb, hml, hown, hts, hK, hA, hcs, hfr, hlo⟩ := X
      refine va_mmin hx hbb (hml.trans hL.1.1.symm) hown (hts _ (nl_MM_all _ hk1)) (hts _ nl_ma4.1) (hts _ nl_mi) (hts _ nl_ma4.2) (by omega) (by rw [nl_cats_eq]; omega) hcs.1 hcs.2 hd ?_
      have e : (if Int32.ofInt y < Int32.ofInt x then Int32.ofInt y else Int32.ofInt x) = Int32.ofInt (if nl_nz y < nl_nz x then y else x) := by
        by_cases hq : Int32.ofInt y < Int32.ofInt x
        · rw [if_pos hq, if_pos ((nx_lt _ _).mp hq)]
        · rw [if_neg hq, if_neg (fun z => hq ((nx_lt _ _).mpr z))]
      rw [e]
      exact hgo _ _ _ _ E H locs ls hW hS hL (nl_ok1 trivial (nl_okt (nl_okt hV)))
  · cases E
theorem ns_math5 (X : nl_Cx p l e R s m args c cells slots cc nL ci n G) {k : Nat} (hd : decode cc pc = .ok (.invokestatic k, len)) (hk : nl_ok ci nL (pc, .invokestatic k, len, a, b, 5) = true) (hgo : ∀ pc' L' S' h', go pc' L' S' h' = some res → nl_Go p l e R s m args below meth c cells slots Q G nL pc' L' S' h')
    (E : nl_st (gL G) den ret pc L S h (.invokestatic k) len a b 5 go = some res) : nl_Go p l e R s m args below meth c cells slots Q G nL pc L S h := by
  simp only [nl_st] at E
  simp only [nl_ok] at hk
  rw [if_pos (by decide)] at hk
  simp only [Bool.and_eq_true, beq_iff_eq, List.contains_iff_mem, decide_eq_true_eq] at hk
  obtain ⟨⟨-, hk1⟩, hl⟩ := hk
  subst hl
  split at E
  · rename_i x S'
    cases hc : Nat.ble (nl_cats S') 8 with
    | false => simp only [hc, cond_false] at E; cases E
    | true =>
      simp only [hc, cond_true] at E
      have hc := Nat.le_of_ble_eq_true hc
      intro H locs ls hW hS hL hV
      obtain ⟨hx, hbb, hml, hown, hts, hK, hA, hcs, hfr, hlo⟩ := X
      refine va_mabs hx hbb (hml.trans hL.1.1.symm) hown (hts _ (nl_MM_all _ hk1)) (hts _ nl_ma5.1) (hts _ nl_mi) (hts _ nl_ma5.2) (by omega) (by rw [nl_cats_eq]; omega) hcs.1 hcs.2 hd ?_
      have e : (if 0 ≤ Int32.ofInt x then Int32.ofInt x else 0 - Int32.ofInt x) = Int32.ofInt (if 0 ≤ nl_nz x then x else -x) := by
        by_cases hq : 0 ≤ Int32.ofInt x
        · rw [if_pos hq, if_pos ((nx_0le _).mp hq)]
        · rw [if_neg hq, if_neg (fun z => hq ((nx_0le _).mpr z)), Int32.ofInt_neg, Int32.zero_sub]
      rw [e]
      exact hgo _ _ _ _ E H locs ls hW hS hL (nl_ok1 trivial (nl_okt hV))
  · cases E
theorem ns_stat0 (X : nl_Cx p l e R s m args c cells slots cc nL ci n G) {k : Nat} (hden : ∀ (y : Nat) (as : List nl_V) (g : nl_H) (r : Int × nl_H), (∀ v ∈ as, nl_okv G v) → den y as g = some r → nl_Mt l G n y as g r) (hd : decode cc pc = .ok (.invokestatic k, len)) (hk : nl_ok ci nL (pc, .invokestatic k, len, a, b, 0) = true) (hgo : ∀ pc' L' S' h', go pc' L' S' h' = some res → nl_Go p l e R s m args below meth c cells slots Q G nL pc' L' S' h')
    (E : nl_st (gL G) den ret pc L S h (.invokestatic k) len a b 0 go = some res) : nl_Go p l e R s m args below meth c cells slots Q G nL pc L S h := by
  simp only [nl_ok] at hk
  rw [if_neg (by decide)] at hk
  simp only [Bool.and_eq_true, beq_iff_eq] at hk
  obtain ⟨⟨hk1, hl⟩, hk2⟩ := hk
  subst hl
  simp only [nl_st] at E
  cases hc : (Nat.ble b S.length && Nat.ble (nl_cats (S.drop b)) 8) with
  | false => simp only [hc, cond_false] at E; cases E
  | true =>
    simp only [hc, cond_true] at E
    simp only [Bool.and_eq_true] at hc
    have hbl := Nat.le_of_ble_eq_true hc.1
    have hc := Nat.le_of_ble_eq_true hc.2
    cases hr : den a (S.take b).reverse h with
    | none => rw [hr] at E; cases E
    | some r =>
      rw [hr] at E
      simp only [Option.bind_some] at E
      intro H locs ls hW hS hL hV
      have hArgs : ∀ v ∈ (S.take b).reverse, nl_okv G v := fun v hv => hV v (List.mem_of_mem_take (List.mem_reverse.mp hv))
      obtain ⟨I, hI, hMet⟩ := hden _ _ _ _ hArgs hr
      rw [hI] at hk2
      simp only [Bool.and_eq_true, Nat.beq_eq] at hk2
      obtain ⟨⟨hnp, hst⟩, hrk⟩ := hk2
      refine nl_scall X hd hk1 hI hMet hbl hnp hst hc hW hS hL hV (fun H1 locs1 hW1 hS1 => ?_)
      rw [(nl_rv0 r.1 hrk).1 rfl]
      exact hgo _ _ _ _ E H1 locs1 ls hW1 hS1 hL (fun v hv => hV v (List.mem_of_mem_drop hv))
theorem ns_stat1 (X : nl_Cx p l e R s m args c cells slots cc nL ci n G) {k : Nat} (hden : ∀ (y : Nat) (as : List nl_V) (g : nl_H) (r : Int × nl_H), (∀ v ∈ as, nl_okv G v) → den y as g = some r → nl_Mt l G n y as g r) (hd : decode cc pc = .ok (.invokestatic k, len)) (hk : nl_ok ci nL (pc, .invokestatic k, len, a, b, 1) = true) (hgo : ∀ pc' L' S' h', go pc' L' S' h' = some res → nl_Go p l e R s m args below meth c cells slots Q G nL pc' L' S' h')
    (E : nl_st (gL G) den ret pc L S h (.invokestatic k) len a b 1 go = some res) : nl_Go p l e R s m args below meth c cells slots Q G nL pc L S h := by
  simp only [nl_ok] at hk
  rw [if_neg (by decide)] at hk
  simp only [Bool.and_eq_true, beq_iff_eq] at hk
  obtain ⟨⟨hk1, hl⟩, hk2⟩ := hk
  subst hl
  simp only [nl_st] at E
  cases hc : (Nat.ble b S.length && Nat.ble (nl_cats (S.drop b)) 8) with
  | false => simp only [hc, cond_false] at E; cases E
  | true =>
    simp only [hc, cond_true] at E
    simp only [Bool.and_eq_true] at hc
    have hbl := Nat.le_of_ble_eq_true hc.1
    have hc := Nat.le_of_ble_eq_true hc.2
    cases hr : den a (S.take b).reverse h with
    | none => rw [hr] at E; cases E
    | some r =>
      rw [hr] at E
      simp only [Option.bind_some] at E
      intro H locs ls hW hS hL hV
      have hArgs : ∀ v ∈ (S.take b).reverse, nl_okv G v := fun v hv => hV v (List.mem_of_mem_take (List.mem_reverse.mp hv))
      obtain ⟨I, hI, hMet⟩ := hden _ _ _ _ hArgs hr
      rw [hI] at hk2
      simp only [Bool.and_eq_true, Nat.beq_eq] at hk2
      obtain ⟨⟨hnp, hst⟩, hrk⟩ := hk2
      refine nl_scall X hd hk1 hI hMet hbl hnp hst hc hW hS hL hV (fun H1 locs1 hW1 hS1 => ?_)
      rw [(nl_rv0 r.1 hrk).2.1 rfl]
      exact hgo _ _ _ _ E H1 locs1 ls hW1 hS1 hL (nl_ok1 trivial fun v hv => hV v (List.mem_of_mem_drop hv))
theorem ns_stat2 (X : nl_Cx p l e R s m args c cells slots cc nL ci n G) {k : Nat} (hden : ∀ (y : Nat) (as : List nl_V) (g : nl_H) (r : Int × nl_H), (∀ v ∈ as, nl_okv G v) → den y as g = some r → nl_Mt l G n y as g r) (hd : decode cc pc = .ok (.invokestatic k, len)) (hk : nl_ok ci nL (pc, .invokestatic k, len, a, b, 2) = true) (hgo : ∀ pc' L' S' h', go pc' L' S' h' = some res → nl_Go p l e R s m args below meth c cells slots Q G nL pc' L' S' h')
    (E : nl_st (gL G) den ret pc L S h (.invokestatic k) len a b 2 go = some res) : nl_Go p l e R s m args below meth c cells slots Q G nL pc L S h := by
  simp only [nl_ok] at hk
  rw [if_neg (by decide)] at hk
  simp only [Bool.and_eq_true, beq_iff_eq] at hk
  obtain ⟨⟨hk1, hl⟩, hk2⟩ := hk
  subst hl
  simp only [nl_st] at E
  cases hc : (Nat.ble b S.length && Nat.ble (nl_cats (S.drop b)) 8) with
  | false => simp only [hc, cond_false] at E; cases E
  | true =>
    simp only [hc, cond_true] at E
    simp only [Bool.and_eq_true] at hc
    have hbl := Nat.le_of_ble_eq_true hc.1
    have hc := Nat.le_of_ble_eq_true hc.2
    cases hr : den a (S.take b).reverse h with
    | none => rw [hr] at E; cases E
    | some r =>
      rw [hr] at E
      simp only [Option.bind_some] at E
      intro H locs ls hW hS hL hV
      have hArgs : ∀ v ∈ (S.take b).reverse, nl_okv G v := fun v hv => hV v (List.mem_of_mem_take (List.mem_reverse.mp hv))
      obtain ⟨I, hI, hMet⟩ := hden _ _ _ _ hArgs hr
      rw [hI] at hk2
      simp only [Bool.and_eq_true, Nat.beq_eq] at hk2
      obtain ⟨⟨hnp, hst⟩, hrk⟩ := hk2
      refine nl_scall X hd hk1 hI hMet hbl hnp hst hc hW hS hL hV (fun H1 locs1 hW1 hS1 => ?_)
      rw [(nl_rv0 r.1 hrk).2.2 rfl]
      exact hgo _ _ _ _ E H1 locs1 ls hW1 hS1 hL (nl_ok1 trivial fun v hv => hV v (List.mem_of_mem_drop hv))
theorem ns_invokestatic (X : nl_Cx p l e R s m args c cells slots cc nL ci n G) {k : Nat} (hden : ∀ (y : Nat) (as : List nl_V) (g : nl_H) (r : Int × nl_H), (∀ v ∈ as, nl_okv G v) → den y as g = some r → nl_Mt l G n y as g r) (hd : decode cc pc = .ok (.invokestatic k, len)) (hk : nl_ok ci nL (pc, .invokestatic k, len, a, b, c') = true) (hgo : ∀ pc' L' S' h', go pc' L' S' h' = some res → nl_Go p l e R s m args below meth c cells slots Q G nL pc' L' S' h')
    (E : nl_st (gL G) den ret pc L S h (.invokestatic k) len a b c' go = some res) : nl_Go p l e R s m args below meth c cells slots Q G nL pc L S h := by
  match c', hk, E with
  | 0, hk, E => exact ns_stat0 X hden hd hk hgo E
  | 1, hk, E => exact ns_stat1 X hden hd hk hgo E
  | 2, hk, E => exact ns_stat2 X hden hd hk hgo E
  | 3, hk, E => exact ns_math3 X hd hk hgo E
  | 4, hk, E => exact ns_math4 X hd hk hgo E
  | 5, hk, E => exact ns_math5 X hd hk hgo E
  | n9 + 6, hk, E =>
    exfalso
    simp only [nl_ok] at hk
    rw [if_pos (by omega)] at hk
    simp only [Bool.and_eq_true, decide_eq_true_eq] at hk
    omega
theorem ns_ireturn (X : nl_Cx p l e R s m args c cells slots cc nL ci n G) (HR : ∀ (pc' : Nat) (L' : nl_Ls) (S' : List nl_V) (h' : nl_H) (i : Instr) (x : Int), decode cc pc' = .ok (i, 1) → ((i = .ireturn ∧ ret = 1 ∧ S' = [vI x]) ∨ (i = .ireturn ∧ ret = 3 ∧ (x = 0 ∨ x = 1) ∧ S' = [vI x]) ∨ (i = .lreturn ∧ ret = 2 ∧ S' = [vL x]) ∨ (i = .return_ ∧ ret = 0 ∧ x = 0 ∧ S' = [])) → res = .inr (x, h') → nl_Go p l e R s m args below meth c cells slots Q G nL pc' L' S' h') (hd : decode cc pc = .ok (.ireturn, len)) (hk : nl_ok ci nL (pc, .ireturn, len, a, b, c') = true) (hgo : ∀ pc' L' S' h', go pc' L' S' h' = some res → nl_Go p l e R s m args below meth c cells slots Q G nL pc' L' S' h')
    (E : nl_st (gL G) den ret pc L S h (.ireturn) len a b c' go = some res) : nl_Go p l e R s m args below meth c cells slots Q G nL pc L S h := by
  simp only [nl_ok, beq_iff_eq] at hk
  subst hk
  simp only [nl_st] at E
  split at E
  · rename_i x
    split at E
    · exact HR pc L [vI x] h .ireturn x hd (Or.inl ⟨rfl, rfl, rfl⟩) (Option.some.inj E).symm
    · split at E
      · rename_i hx
        exact HR pc L [vI x] h .ireturn x hd (Or.inr (Or.inl ⟨rfl, rfl, hx, rfl⟩)) (Option.some.inj E).symm
      · cases E
    · cases E
  · cases E
theorem ns_lreturn (X : nl_Cx p l e R s m args c cells slots cc nL ci n G) (HR : ∀ (pc' : Nat) (L' : nl_Ls) (S' : List nl_V) (h' : nl_H) (i : Instr) (x : Int), decode cc pc' = .ok (i, 1) → ((i = .ireturn ∧ ret = 1 ∧ S' = [vI x]) ∨ (i = .ireturn ∧ ret = 3 ∧ (x = 0 ∨ x = 1) ∧ S' = [vI x]) ∨ (i = .lreturn ∧ ret = 2 ∧ S' = [vL x]) ∨ (i = .return_ ∧ ret = 0 ∧ x = 0 ∧ S' = [])) → res = .inr (x, h') → nl_Go p l e R s m args below meth c cells slots Q G nL pc' L' S' h') (hd : decode cc pc = .ok (.lreturn, len)) (hk : nl_ok ci nL (pc, .lreturn, len, a, b, c') = true) (hgo : ∀ pc' L' S' h', go pc' L' S' h' = some res → nl_Go p l e R s m args below meth c cells slots Q G nL pc' L' S' h')
    (E : nl_st (gL G) den ret pc L S h (.lreturn) len a b c' go = some res) : nl_Go p l e R s m args below meth c cells slots Q G nL pc L S h := by
  simp only [nl_ok, beq_iff_eq] at hk
  subst hk
  simp only [nl_st] at E
  split at E
  · rename_i x
    split at E
    · exact HR pc L [vL x] h .lreturn x hd (Or.inr (Or.inr (Or.inl ⟨rfl, rfl, rfl⟩))) (Option.some.inj E).symm
    · cases E
  · cases E
theorem ns_return_ (X : nl_Cx p l e R s m args c cells slots cc nL ci n G) (HR : ∀ (pc' : Nat) (L' : nl_Ls) (S' : List nl_V) (h' : nl_H) (i : Instr) (x : Int), decode cc pc' = .ok (i, 1) → ((i = .ireturn ∧ ret = 1 ∧ S' = [vI x]) ∨ (i = .ireturn ∧ ret = 3 ∧ (x = 0 ∨ x = 1) ∧ S' = [vI x]) ∨ (i = .lreturn ∧ ret = 2 ∧ S' = [vL x]) ∨ (i = .return_ ∧ ret = 0 ∧ x = 0 ∧ S' = [])) → res = .inr (x, h') → nl_Go p l e R s m args below meth c cells slots Q G nL pc' L' S' h') (hd : decode cc pc = .ok (.return_, len)) (hk : nl_ok ci nL (pc, .return_, len, a, b, c') = true) (hgo : ∀ pc' L' S' h', go pc' L' S' h' = some res → nl_Go p l e R s m args below meth c cells slots Q G nL pc' L' S' h')
    (E : nl_st (gL G) den ret pc L S h (.return_) len a b c' go = some res) : nl_Go p l e R s m args below meth c cells slots Q G nL pc L S h := by
  simp only [nl_ok, beq_iff_eq] at hk
  subst hk
  simp only [nl_st] at E
  split at E
  · split at E
    · exact HR pc L [] h .return_ 0 hd (Or.inr (Or.inr (Or.inr ⟨rfl, rfl, rfl, rfl⟩))) (Option.some.inj E).symm
    · cases E
  · cases E
theorem nl_st_ok (X : nl_Cx p l e R s m args c cells slots cc nL ci n G) (hden : ∀ (y : Nat) (as : List nl_V) (g : nl_H) (r : Int × nl_H), (∀ v ∈ as, nl_okv G v) → den y as g = some r → nl_Mt l G n y as g r) (HR : ∀ (pc' : Nat) (L' : nl_Ls) (S' : List nl_V) (h' : nl_H) (i : Instr) (x : Int), decode cc pc' = .ok (i, 1) → ((i = .ireturn ∧ ret = 1 ∧ S' = [vI x]) ∨ (i = .ireturn ∧ ret = 3 ∧ (x = 0 ∨ x = 1) ∧ S' = [vI x]) ∨ (i = .lreturn ∧ ret = 2 ∧ S' = [vL x]) ∨ (i = .return_ ∧ ret = 0 ∧ x = 0 ∧ S' = [])) → res = .inr (x, h') → nl_Go p l e R s m args below meth c cells slots Q G nL pc' L' S' h') {i : Instr} (hd : decode cc pc = .ok (i, len)) (hk : nl_ok ci nL (pc, i, len, a, b, c') = true) (hgo : ∀ pc' L' S' h', go pc' L' S' h' = some res → nl_Go p l e R s m args below meth c cells slots Q G nL pc' L' S' h')
    (E : nl_st (gL G) den ret pc L S h i len a b c' go = some res) : nl_Go p l e R s m args below meth c cells slots Q G nL pc L S h := by
  cases i with
  | iconst _ => exact ns_iconst X hd hk hgo E
  | bipush _ => exact ns_bipush X hd hk hgo E
  | sipush _ => exact ns_sipush X hd hk hgo E
  | ldc _ => exact ns_ldc X hd hk hgo E
  | ldc_w _ => exact ns_ldc_w X hd hk hgo E
  | lconst _ => exact ns_lconst X hd hk hgo E
  | iload _ => exact ns_iload X hd hk hgo E
  | iload_n _ => exact ns_iload_n X hd hk hgo E
  | lload _ => exact ns_lload X hd hk hgo E
  | lload_n _ => exact ns_lload_n X hd hk hgo E
  | aload _ => exact ns_aload X hd hk hgo E
  | aload_n _ => exact ns_aload_n X hd hk hgo E
  | istore _ => exact ns_istore X hd hk hgo E
  | istore_n _ => exact ns_istore_n X hd hk hgo E
  | lstore _ => exact ns_lstore X hd hk hgo E
  | lstore_n _ => exact ns_lstore_n X hd hk hgo E
  | astore _ => exact ns_astore X hd hk hgo E
  | astore_n _ => exact ns_astore_n X hd hk hgo E
  | iinc _ _ => exact ns_iinc X hd hk hgo E
  | iadd => exact ns_iadd X hd hk hgo E
  | isub => exact ns_isub X hd hk hgo E
  | imul => exact ns_imul X hd hk hgo E
  | ladd => exact ns_ladd X hd hk hgo E
  | lmul => exact ns_lmul X hd hk hgo E
  | lcmp => exact ns_lcmp X hd hk hgo E
  | ineg => exact ns_ineg X hd hk hgo E
  | idiv => exact ns_idiv X hd hk hgo E
  | irem => exact ns_irem X hd hk hgo E
  | ldiv => exact ns_ldiv X hd hk hgo E
  | lrem => exact ns_lrem X hd hk hgo E
  | ishl => exact ns_ishl X hd hk hgo E
  | ishr => exact ns_ishr X hd hk hgo E
  | iushr => exact ns_iushr X hd hk hgo E
  | iand => exact ns_iand X hd hk hgo E
  | ior => exact ns_ior X hd hk hgo E
  | i2l => exact ns_i2l X hd hk hgo E
  | l2i => exact ns_l2i X hd hk hgo E
  | dup => exact ns_dup X hd hk hgo E
  | dup2 => exact ns_dup2 X hd hk hgo E
  | pop => exact ns_pop X hd hk hgo E
  | goto _ => exact ns_goto X hd hk hgo E
  | if_icmp _ _ => exact ns_if_icmp X hd hk hgo E
  | ifCond _ _ => exact ns_ifCond X hd hk hgo E
  | getfield _ => exact ns_getfield X hd hk hgo E
  | putfield _ => exact ns_putfield X hd hk hgo E
  | iaload => exact ns_iaload X hd hk hgo E
  | baload => exact ns_baload X hd hk hgo E
  | aaload => exact ns_aaload X hd hk hgo E
  | iastore => exact ns_iastore X hd hk hgo E
  | bastore => exact ns_bastore X hd hk hgo E
  | aastore => exact ns_aastore X hd hk hgo E
  | arraylength => exact ns_arraylength X hd hk hgo E
  | tableswitch _ _ _ _ => exact ns_tableswitch X hd hk hgo E
  | ldc2_w _ => exact ns_ldc2 X hd hk hgo E
  | invokevirtual _ => exact ns_invokevirtual X hden hd hk hgo E
  | invokestatic _ => exact ns_invokestatic X hden hd hk hgo E
  | ireturn => exact ns_ireturn X HR hd hk hgo E
  | lreturn => exact ns_lreturn X HR hd hk hgo E
  | return_ => exact ns_return_ X HR hd hk hgo E
  | _ => cases E
theorem nl_fi_mem {pc : Nat} : ∀ {C : List nl_E} {x : Instr × Nat × Nat × Nat × Nat}, nl_fi pc C = some x → (pc, x) ∈ C
  | [], _, h => by simp [nl_fi] at h
  | e :: r, x, h => by
    simp only [nl_fi] at h
    cases hb : Nat.beq e.1 pc with
    | true =>
      simp only [hb, cond_true] at h
      have h1 := Nat.eq_of_beq_eq_true hb
      have h2 : e = (pc, x) := by
        rw [← h1, ← Option.some.inj h]
      rw [h2]; exact List.mem_cons_self
    | false =>
      simp only [hb, cond_false] at h
      exact List.mem_cons_of_mem _ (nl_fi_mem h)
theorem nl_ex_ok (X : nl_Cx p l e R s m args c cells slots cc nL ci n G) (hden : ∀ (y : Nat) (as : List nl_V) (g : nl_H) (r : Int × nl_H), (∀ v ∈ as, nl_okv G v) → den y as g = some r → nl_Mt l G n y as g r) (HR : ∀ (pc' : Nat) (L' : nl_Ls) (S' : List nl_V) (h' : nl_H) (i : Instr) (x : Int), decode cc pc' = .ok (i, 1) → ((i = .ireturn ∧ ret = 1 ∧ S' = [vI x]) ∨ (i = .ireturn ∧ ret = 3 ∧ (x = 0 ∨ x = 1) ∧ S' = [vI x]) ∨ (i = .lreturn ∧ ret = 2 ∧ S' = [vL x]) ∨ (i = .return_ ∧ ret = 0 ∧ x = 0 ∧ S' = [])) → res = .inr (x, h') → nl_Go p l e R s m args below meth c cells slots Q G nL pc' L' S' h') {C : List nl_E} {cut : List Nat} (hC : ∀ e ∈ C, decode cc e.1 = .ok (e.2.1, e.2.2.1)) (hC2 : C.all (nl_ok ci nL) = true)
    (hcut : ∀ (pc' : Nat) (L' : nl_Ls) (h' : nl_H), res = .inl (pc', L', h') → nl_Go p l e R s m args below meth c cells slots Q G nL pc' L' [] h') : ∀ (f pc : Nat) (L : nl_Ls) (S : List nl_V) (h : nl_H), nl_ex (gL G) C den cut ret f pc L S h = some res → nl_Go p l e R s m args below meth c cells slots Q G nL pc L S h := by
  intro f
  induction f with
  | zero => intro pc L S h e; cases e
  | succ f ih =>
    intro pc L S h e
    rw [nl_ex] at e
    split at e
    · cases e
    · rename_i i len a b c9 hf
      have hm := nl_fi_mem hf
      have hd9 := hC (pc, i, len, a, b, c9) hm
      dsimp only at hd9
      have hk9 := List.all_eq_true.mp hC2 (pc, i, len, a, b, c9) hm
      refine nl_st_ok (go := nl_go cut (nl_ex (gL G) C den cut ret f)) (pc := pc) (L := L) (S := S) (h := h) (i := i) (len := len) (a := a) (b := b) (c' := c9) X hden HR hd9 hk9 (fun pc' L' S' h' e' => ?_) e
      unfold nl_go at e'
      cases hb : cut.any (Nat.beq pc') with
      | true =>
        simp only [hb, cond_true] at e'
        split at e'
        · exact hcut _ _ _ (Option.some.inj e').symm
        · cases e'
      | false =>
        simp only [hb, cond_false] at e'
        exact ih _ _ _ _ e'

theorem nl_rn_ok (X : nl_Cx p l e R s m args c cells slots cc nL ci n G) (hden : ∀ (y : Nat) (as : List nl_V) (g : nl_H) (r : Int × nl_H), (∀ v ∈ as, nl_okv G v) → den y as g = some r → nl_Mt l G n y as g r) {C : List nl_E} {cut : List Nat} (hC : ∀ e ∈ C, decode cc e.1 = .ok (e.2.1, e.2.2.1)) (hC2 : C.all (nl_ok ci nL) = true)
    (HR2 : ∀ (pc' : Nat) (L' : nl_Ls) (S' : List nl_V) (h' : nl_H) (i : Instr) (x : Int), decode cc pc' = .ok (i, 1) → ((i = .ireturn ∧ ret = 1 ∧ S' = [vI x]) ∨ (i = .ireturn ∧ ret = 3 ∧ (x = 0 ∨ x = 1) ∧ S' = [vI x]) ∨ (i = .lreturn ∧ ret = 2 ∧ S' = [vL x]) ∨ (i = .return_ ∧ ret = 0 ∧ x = 0 ∧ S' = [])) → r = (x, h') → nl_Go p l e R s m args below meth c cells slots Q G nL pc' L' S' h') : ∀ (f pc : Nat) (L : nl_Ls) (h : nl_H), nl_rn (gL G) C den cut ret f pc L h = some r → nl_Go p l e R s m args below meth c cells slots Q G nL pc L [] h := by
  intro f
  induction f with
  | zero => intro pc L h e; cases e
  | succ f ih =>
    intro pc L h e
    rw [nl_rn] at e
    split at e
    · rename_i r9 he
      have e := Option.some.inj e
      subst e
      exact nl_ex_ok X hden (res := .inr r9) (fun pc' L' S' h' i x a1 a2 a3 => HR2 pc' L' S' h' i x a1 a2 (Sum.inr.inj a3)) hC hC2 (fun pc' L' h' z => by cases z) _ _ _ _ _ he
    · rename_i pc9 L9 h9 he
      refine nl_ex_ok X hden (res := .inl (pc9, L9, h9)) (fun pc' L' S' h' i x a1 a2 a3 => by cases a3) hC hC2 (fun pc' L' h' z => ?_) _ _ _ _ _ he
      cases z
      exact ih _ _ _ e
    · cases e
end NLCALS

theorem nl_spread_len (G : nl_G) : ∀ as : List nl_V, (lg_sl (as.map (nl_cv G))).length = (nl_spread as).length
  | [] => rfl
  | v :: r => by
    have ih := nl_spread_len G r
    simp only [List.map_cons, lg_sl, List.flatMap_cons, List.length_append, nl_cat] at ih ⊢
    cases hv : nl_isL v with
    | true =>
      simp only [nl_spread, hv, cond_true, if_true, List.length_cons, List.length_nil]
      omega
    | false =>
      simp only [nl_spread, hv, cond_false, List.length_cons]
      rw [if_neg (by decide)]
      simp only [List.length_cons, List.length_nil]
      omega
theorem nl_tl_rep (G : nl_G) : ∀ (n j : Nat), nl_tl G j (List.replicate n none) = []
  | 0, _ => rfl
  | n + 1, j => by
    rw [List.replicate_succ]
    exact nl_tl_rep G n (j + 1)
theorem nl_tl_pad (G : nl_G) : ∀ (l : nl_Ls) (n j : Nat) (q : Nat × Value), q ∈ nl_tl G j (nl_pad n l) → q ∈ nl_tl G j l
  | [], n, j, q, h => by
    simp only [nl_pad, nl_tl_rep] at h
    cases h
  | none :: r, n, j, q, h => nl_tl_pad G r (n - 1) (j + 1) q h
  | some v :: r, n, j, q, h => by
    rcases List.mem_cons.mp h with h | h
    · rw [h]; exact List.mem_cons_self
    · exact List.mem_cons_of_mem _ (nl_tl_pad G r (n - 1) (j + 1) q h)
theorem nl_in_pad {v : nl_V} : ∀ (l : nl_Ls) (n : Nat), some v ∈ nl_pad n l → some v ∈ l
  | [], n, h => by
    have := List.eq_of_mem_replicate h
    cases this
  | w :: r, n, h => by
    rcases List.mem_cons.mp h with h | h
    · rw [h]; exact List.mem_cons_self
    · exact List.mem_cons_of_mem _ (nl_in_pad r (n - 1) h)
theorem nl_in_spread {v : nl_V} : ∀ (l : List nl_V), some v ∈ nl_spread l → v ∈ l
  | [], h => by cases h
  | w :: r, h => by
    simp only [nl_spread] at h
    cases hw : nl_isL w with
    | true =>
      simp only [hw, cond_true, List.mem_cons] at h
      rcases h with h | h | h
      · rw [Option.some.inj h]; exact List.mem_cons_self
      · cases h
      · exact List.mem_cons_of_mem _ (nl_in_spread r h)
    | false =>
      simp only [hw, cond_false, List.mem_cons] at h
      rcases h with h | h
      · rw [Option.some.inj h]; exact List.mem_cons_self
      · exact List.mem_cons_of_mem _ (nl_in_spread r h)
theorem nl_tl_args (G : nl_G) : ∀ (as : List nl_V) (j : Nat), nl_tl G j (nl_spread as) = lv_args j (as.map (nl_cv G))
  | [], _ => rfl
  | v :: r, j => by
    simp only [nl_spread, List.map_cons, lv_args, nl_cat]
    cases hv : nl_isL v with
    | true =>
      simp only [cond_true, nl_tl, if_true]
      rw [nl_tl_args G r (j + 1 + 1)]
    | false =>
      simp only [cond_false, nl_tl]
      rw [nl_tl_args G r (j + 1), if_neg (by decide)]
theorem nl_entry (G : nl_G) (as : List nl_V) {nL : Nat} (h : (nl_spread as).length ≤ nL) (hv : ∀ v ∈ as, nl_okv G v) : nl_lh G (lg_sl (as.map (nl_cv G)) ++ List.replicate (nL - (lg_sl (as.map (nl_cv G))).length) Slot.unset).toArray nL (nl_L0 nL as) := by
  refine ⟨nl_lv_mono (lv_entry (as.map (nl_cv G)) (by rw [nl_spread_len]; exact h)) fun q hq => ?_, fun v hm => hv v (nl_in_spread _ (nl_in_pad _ _ hm))⟩
  have h1 := nl_tl_pad G _ _ _ _ hq
  rw [nl_tl_args] at h1
  exact h1
theorem nl_ret {r3 : Option FieldType} {k : Nat} (h : k = nl_r3 r3) : (k = 0 → r3 = none) ∧ (k = 1 → r3 = some .int) ∧ (k = 2 → r3 = some .long) ∧ (k = 3 → r3 = some .boolean) := by
  subst h
  unfold nl_r3
  split <;> simp
set_option maxHeartbeats 1000000 in
/-- what the abstract machine says of a call, the machine does -/
theorem nl_cl_ok (l : Launch) (G : nl_G) (hA : nl_Ap G) : ∀ (n y : Nat) (as : List nl_V) (h : nl_H) (r : Int × nl_H), (∀ v ∈ as, nl_okv G v) → nl_cl nl_mts (gL G) n y as h = some r → nl_Mt l G n y as h r := by
  intro n
  induction n with
  | zero => intro y as h r _ e; cases e
  | succ n ih =>
    intro y as h r has e
    obtain ⟨C, cut, ret, nL, hm, hsl, f, hf⟩ := nl_cl_in e
    obtain ⟨I, hI, hM, hIo, hnm⟩ := nl_of hm
    obtain ⟨hIm, -, -, -, -⟩ := nl_ofI hI
    obtain ⟨m1, m2, m3, m4, m5, m6⟩ := hM
    dsimp only at m1 m2 m3 m4 m5
    have hpn := nl_pn hIm
    refine ⟨I, hI, Met.ofW (cc := I.2.1) (maxL := I.2.2.1) (ret := I.2.2.2.1) hpn.1 rfl ?_⟩
    intro p e s m args below meth c s₁ B hml hv
    obtain ⟨rfl, hW, hK⟩ := hv
    have hx := B.exec
    have hb := B.bytes
    have hr := B.returns
    have hlocks := B.notSynchronized
    have hts0 := atoms_spec (ws := nl_ws I) B.pre
    have hts : ∀ w ∈ nl_WL, w.before (as.map (nl_cv G)).toArray s = true := fun w hw => hts0 w (List.mem_cons_of_mem _ hw)
    have hown : s.vm.findClass (nl_R I.2.2.2.2.1) = some m.cls := by
      rw [← hIo.2.2.1]
      exact findClass_of_methodNamed B.named
    subst m2
    have X : nl_Cx p l e (nl_rm (n + 1)) s m (as.map (nl_cv G)).toArray c 0 0 I.2.1 I.2.2.1 I.2.2.2.2.1 n G := ⟨hx, hb, hml, hown, hts, hK, hA, ⟨Nat.le_refl _, Nat.le_refl _⟩, Nat.le_refl _, Nat.le_refl _⟩
    rw [lg_entry_eq]
    refine nl_rn_ok (below := below) (meth := meth) (Q := MQ below (nl_Qc G (nl_r3 I.2.2.2.1) r) (as.map (nl_cv G)).toArray s 0 0 (gF G)) X (fun y as' g r' a1 a2 => ih y as' g r' a1 a2) m3 m4 (fun pc' L' S' h' i x hd hcase hres => ?_) f 0 (nl_L0 I.2.2.1 as) h hf s.heap [] _ hW va_S.rf (nl_entry G as hsl has) (fun v hv => by cases hv)
    subst hres
    intro H locs ls hW' hS' hL' hV'
    have hrt := nl_ret m1
    rcases hcase with ⟨rfl, hk, rfl⟩ | ⟨rfl, hk, hx01, rfl⟩ | ⟨rfl, hk, rfl⟩ | ⟨rfl, hk, -, rfl⟩
    · refine W.iret hx hb (hr.trans (hrt.2.1 hk)) (fun t ht hWt => ⟨?_, by rw [ht]; exact hW'.moved hWt.alike, hS'.F ht⟩) hS'.2.2 hd
      rw [← m1, hk]; rfl
    · refine W.zret (ty := .boolean) hx hb (hr.trans (hrt.2.2.2 hk)) ?_ (fun t ht hWt => ⟨?_, by rw [ht]; exact hW'.moved hWt.alike, hS'.F ht⟩) hS'.2.2 hd
      · rcases hx01 with rfl | rfl <;> rfl
      · rw [← m1, hk]; rfl
    · refine W.lret hx hb (hr.trans (hrt.2.2.1 hk)) (fun t ht hWt => ⟨?_, by rw [ht]; exact hW'.moved hWt.alike, hS'.F ht⟩) hS'.2.2 hd
      rw [← m1, hk]; rfl
    · refine W.vret hx hb (hr.trans (hrt.1 hk)) (fun t ht hWt => ⟨?_, by rw [ht]; exact hW'.moved hWt.alike, hS'.F ht⟩) hS'.2.2 hd
      rw [← m1, hk]; rfl
end
section
/-! Equations of the abstract machine, cut to cut. -/
set_option maxRecDepth 20000 in
theorem sg_X4_settle_0 (LS : Int) (den : nl_D) (h : nl_H) (o : Nat) : nl_ex LS cd_X4_settle den ct_X4_settle 0 400 0 [some (vO 4 o), some (vO 1 0), none] [] h =
  (some (.inl (25, [some (vO 4 o), some (vO 1 0), some (vI 0)], nl_up (nl_up (nl_up h 4 o 0 0 (if nl_nz 7 < nl_nz (h 1 0 6 0) then 7 else h 1 0 6 0)) 4 o 1 0 0) 4 o 2 0 0))) := rfl
set_option maxRecDepth 20000 in
theorem sg_X4_settle_25 (LS : Int) (den : nl_D) (h : nl_H) (o : Nat) (y2 : Int) : nl_ex LS cd_X4_settle den ct_X4_settle 0 400 25 [some (vO 4 o), some (vO 1 0), some (vI y2)] [] h =
  (if nl_nz 7 ≤ nl_nz y2 then
    some (.inl (108, [some (vO 4 o), some (vO 1 0), some (vI 0)], h))
  else
    if 0 ≤ nl_nz y2 ∧ nl_nz y2 < 7 then if 0 ≤ nl_nz y2 ∧ nl_nz y2 < 7 then if 0 ≤ nl_nz y2 ∧ nl_nz y2 < 7 then if 0 ≤ nl_nz y2 ∧ nl_nz y2 < 7 then if 0 ≤ nl_nz y2 ∧ nl_nz y2 < 7 then if 0 ≤ nl_nz y2 ∧ nl_nz y2 < 7 then if 0 ≤ nl_nz y2 ∧ nl_nz y2 < 7 then if 0 ≤ nl_nz y2 ∧ nl_nz y2 < 7 then if 0 ≤ nl_nz y2 ∧ nl_nz y2 < 7 then if 0 ≤ nl_nz y2 ∧ nl_nz y2 < 7 then if 0 ≤ nl_nz y2 ∧ nl_nz y2 < 7 then some (.inl (25, [some (vO 4 o), some (vO 1 0), some (vI (y2 + 1))], nl_up (nl_up (nl_up (nl_up (nl_up (nl_up (nl_up h 4 o 3 (nl_nz y2).toNat (h 1 0 0 (nl_nz y2).toNat)) 4 o 4 (nl_nz y2).toNat ((nl_up h 4 o 3 (nl_nz y2).toNat (h 1 0 0 (nl_nz y2).toNat)) 1 0 1 (nl_nz y2).toNat)) 4 o 5 (nl_nz y2).toNat ((nl_up (nl_up h 4 o 3 (nl_nz y2).toNat (h 1 0 0 (nl_nz y2).toNat)) 4 o 4 (nl_nz y2).toNat ((nl_up h 4 o 3 (nl_nz y2).toNat (h 1 0 0 (nl_nz y2).toNat)) 1 0 1 (nl_nz y2).toNat)) 1 0 2 (nl_nz y2).toNat)) 4 o 6 (nl_nz y2).toNat ((nl_up (nl_up (nl_up h 4 o 3 (nl_nz y2).toNat (h 1 0 0 (nl_nz y2).toNat)) 4 o 4 (nl_nz y2).toNat ((nl_up h 4 o 3 (nl_nz y2).toNat (h 1 0 0 (nl_nz y2).toNat)) 1 0 1 (nl_nz y2).toNat)) 4 o 5 (nl_nz y2).toNat ((nl_up (nl_up h 4 o 3 (nl_nz y2).toNat (h 1 0 0 (nl_nz y2).toNat)) 4 o 4 (nl_nz y2).toNat ((nl_up h 4 o 3 (nl_nz y2).toNat (h 1 0 0 (nl_nz y2).toNat)) 1 0 1 (nl_nz y2).toNat)) 1 0 2 (nl_nz y2).toNat)) 1 0 3 (nl_nz y2).toNat)) 4 o 7 (nl_nz y2).toNat 0) 4 o 8 (nl_nz y2).toNat y2) 4 o 9 (nl_nz y2).toNat 0)) else none else none else none else none else none else none else none else none else none else none else none) := rfl
set_option maxRecDepth 20000 in
theorem sg_X4_settle_108 (LS : Int) (den : nl_D) (h : nl_H) (o : Nat) (y2 : Int) : nl_ex LS cd_X4_settle den ct_X4_settle 0 400 108 [some (vO 4 o), some (vO 1 0), some (vI y2)] [] h =
  (if nl_nz 49 ≤ nl_nz y2 then
    some (.inr (0, h))
  else
    if 0 ≤ nl_nz y2 ∧ nl_nz y2 < 49 then some (.inl (108, [some (vO 4 o), some (vO 1 0), some (vI (y2 + 1))], nl_up h 4 o 10 (nl_nz y2).toNat 0)) else none) := rfl
set_option maxRecDepth 20000 in
theorem sg_X4_copyFrom_0 (LS : Int) (den : nl_D) (h : nl_H) (o : Nat) (v : Nat) : nl_ex LS cd_X4_copyFrom den ct_X4_copyFrom 0 400 0 [some (vO 4 o), some (vO 4 v), none] [] h =
  (some (.inl (26, [some (vO 4 o), some (vO 4 v), some (vI 0)], nl_up (nl_up (nl_up h 4 o 0 0 (h 4 v 0 0)) 4 o 1 0 ((nl_up h 4 o 0 0 (h 4 v 0 0)) 4 v 1 0)) 4 o 2 0 ((nl_up (nl_up h 4 o 0 0 (h 4 v 0 0)) 4 o 1 0 ((nl_up h 4 o 0 0 (h 4 v 0 0)) 4 v 1 0)) 4 v 2 0)))) := rfl
set_option maxRecDepth 20000 in
theorem sg_X4_copyFrom_26 (LS : Int) (den : nl_D) (h : nl_H) (o : Nat) (v : Nat) (y2 : Int) : nl_ex LS cd_X4_copyFrom den ct_X4_copyFrom 0 400 26 [some (vO 4 o), some (vO 4 v), some (vI y2)] [] h =
  (if nl_nz 7 ≤ nl_nz y2 then
    some (.inl (124, [some (vO 4 o), some (vO 4 v), some (vI 0)], h))
  else
    if 0 ≤ nl_nz y2 ∧ nl_nz y2 < 7 then if 0 ≤ nl_nz y2 ∧ nl_nz y2 < 7 then if 0 ≤ nl_nz y2 ∧ nl_nz y2 < 7 then if 0 ≤ nl_nz y2 ∧ nl_nz y2 < 7 then if 0 ≤ nl_nz y2 ∧ nl_nz y2 < 7 then if 0 ≤ nl_nz y2 ∧ nl_nz y2 < 7 then if 0 ≤ nl_nz y2 ∧ nl_nz y2 < 7 then if 0 ≤ nl_nz y2 ∧ nl_nz y2 < 7 then if 0 ≤ nl_nz y2 ∧ nl_nz y2 < 7 then if 0 ≤ nl_nz y2 ∧ nl_nz y2 < 7 then if 0 ≤ nl_nz y2 ∧ nl_nz y2 < 7 then if 0 ≤ nl_nz y2 ∧ nl_nz y2 < 7 then if 0 ≤ nl_nz y2 ∧ nl_nz y2 < 7 then if 0 ≤ nl_nz y2 ∧ nl_nz y2 < 7 then some (.inl (26, [some (vO 4 o), some (vO 4 v), some (vI (y2 + 1))], nl_up (nl_up (nl_up (nl_up (nl_up (nl_up (nl_up h 4 o 3 (nl_nz y2).toNat (h 4 v 3 (nl_nz y2).toNat)) 4 o 4 (nl_nz y2).toNat ((nl_up h 4 o 3 (nl_nz y2).toNat (h 4 v 3 (nl_nz y2).toNat)) 4 v 4 (nl_nz y2).toNat)) 4 o 5 (nl_nz y2).toNat ((nl_up (nl_up h 4 o 3 (nl_nz y2).toNat (h 4 v 3 (nl_nz y2).toNat)) 4 o 4 (nl_nz y2).toNat ((nl_up h 4 o 3 (nl_nz y2).toNat (h 4 v 3 (nl_nz y2).toNat)) 4 v 4 (nl_nz y2).toNat)) 4 v 5 (nl_nz y2).toNat)) 4 o 6 (nl_nz y2).toNat ((nl_up (nl_up (nl_up h 4 o 3 (nl_nz y2).toNat (h 4 v 3 (nl_nz y2).toNat)) 4 o 4 (nl_nz y2).toNat ((nl_up h 4 o 3 (nl_nz y2).toNat (h 4 v 3 (nl_nz y2).toNat)) 4 v 4 (nl_nz y2).toNat)) 4 o 5 (nl_nz y2).toNat ((nl_up (nl_up h 4 o 3 (nl_nz y2).toNat (h 4 v 3 (nl_nz y2).toNat)) 4 o 4 (nl_nz y2).toNat ((nl_up h 4 o 3 (nl_nz y2).toNat (h 4 v 3 (nl_nz y2).toNat)) 4 v 4 (nl_nz y2).toNat)) 4 v 5 (nl_nz y2).toNat)) 4 v 6 (nl_nz y2).toNat)) 4 o 7 (nl_nz y2).toNat ((nl_up (nl_up (nl_up (nl_up h 4 o 3 (nl_nz y2).toNat (h 4 v 3 (nl_nz y2).toNat)) 4 o 4 (nl_nz y2).toNat ((nl_up h 4 o 3 (nl_nz y2).toNat (h 4 v 3 (nl_nz y2).toNat)) 4 v 4 (nl_nz y2).toNat)) 4 o 5 (nl_nz y2).toNat ((nl_up (nl_up h 4 o 3 (nl_nz y2).toNat (h 4 v 3 (nl_nz y2).toNat)) 4 o 4 (nl_nz y2).toNat ((nl_up h 4 o 3 (nl_nz y2).toNat (h 4 v 3 (nl_nz y2).toNat)) 4 v 4 (nl_nz y2).toNat)) 4 v 5 (nl_nz y2).toNat)) 4 o 6 (nl_nz y2).toNat ((nl_up (nl_up (nl_up h 4 o 3 (nl_nz y2).toNat (h 4 v 3 (nl_nz y2).toNat)) 4 o 4 (nl_nz y2).toNat ((nl_up h 4 o 3 (nl_nz y2).toNat (h 4 v 3 (nl_nz y2).toNat)) 4 v 4 (nl_nz y2).toNat)) 4 o 5 (nl_nz y2).toNat ((nl_up (nl_up h 4 o 3 (nl_nz y2).toNat (h 4 v 3 (nl_nz y2).toNat)) 4 o 4 (nl_nz y2).toNat ((nl_up h 4 o 3 (nl_nz y2).toNat (h 4 v 3 (nl_nz y2).toNat)) 4 v 4 (nl_nz y2).toNat)) 4 v 5 (nl_nz y2).toNat)) 4 v 6 (nl_nz y2).toNat)) 4 v 7 (nl_nz y2).toNat)) 4 o 8 (nl_nz y2).toNat ((nl_up (nl_up (nl_up (nl_up (nl_up h 4 o 3 (nl_nz y2).toNat (h 4 v 3 (nl_nz y2).toNat)) 4 o 4 (nl_nz y2).toNat ((nl_up h 4 o 3 (nl_nz y2).toNat (h 4 v 3 (nl_nz y2).toNat)) 4 v 4 (nl_nz y2).toNat)) 4 o 5 (nl_nz y2).toNat ((nl_up (nl_up h 4 o 3 (nl_nz y2).toNat (h 4 v 3 (nl_nz y2).toNat)) 4 o 4 (nl_nz y2).toNat ((nl_up h 4 o 3 (nl_nz y2).toNat (h 4 v 3 (nl_nz y2).toNat)) 4 v 4 (nl_nz y2).toNat)) 4 v 5 (nl_nz y2).toNat)) 4 o 6 (nl_nz y2).toNat ((nl_up (nl_up (nl_up h 4 o 3 (nl_nz y2).toNat (h 4 v 3 (nl_nz y2).toNat)) 4 o 4 (nl_nz y2).toNat ((nl_up h 4 o 3 (nl_nz y2).toNat (h 4 v 3 (nl_nz y2).toNat)) 4 v 4 (nl_nz y2).toNat)) 4 o 5 (nl_nz y2).toNat ((nl_up (nl_up h 4 o 3 (nl_nz y2).toNat (h 4 v 3 (nl_nz y2).toNat)) 4 o 4 (nl_nz y2).toNat ((nl_up h 4 o 3 (nl_nz y2).toNat (h 4 v 3 (nl_nz y2).toNat)) 4 v 4 (nl_nz y2).toNat)) 4 v 5 (nl_nz y2).toNat)) 4 v 6 (nl_nz y2).toNat)) 4 o 7 (nl_nz y2).toNat ((nl_up (nl_up (nl_up (nl_up h 4 o 3 (nl_nz y2).toNat (h 4 v 3 (nl_nz y2).toNat)) 4 o 4 (nl_nz y2).toNat ((nl_up h 4 o 3 (nl_nz y2).toNat (h 4 v 3 (nl_nz y2).toNat)) 4 v 4 (nl_nz y2).toNat)) 4 o 5 (nl_nz y2).toNat ((nl_up (nl_up h 4 o 3 (nl_nz y2).toNat (h 4 v 3 (nl_nz y2).toNat)) 4 o 4 (nl_nz y2).toNat ((nl_up h 4 o 3 (nl_nz y2).toNat (h 4 v 3 (nl_nz y2).toNat)) 4 v 4 (nl_nz y2).toNat)) 4 v 5 (nl_nz y2).toNat)) 4 o 6 (nl_nz y2).toNat ((nl_up (nl_up (nl_up h 4 o 3 (nl_nz y2).toNat (h 4 v 3 (nl_nz y2).toNat)) 4 o 4 (nl_nz y2).toNat ((nl_up h 4 o 3 (nl_nz y2).toNat (h 4 v 3 (nl_nz y2).toNat)) 4 v 4 (nl_nz y2).toNat)) 4 o 5 (nl_nz y2).toNat ((nl_up (nl_up h 4 o 3 (nl_nz y2).toNat (h 4 v 3 (nl_nz y2).toNat)) 4 o 4 (nl_nz y2).toNat ((nl_up h 4 o 3 (nl_nz y2).toNat (h 4 v 3 (nl_nz y2).toNat)) 4 v 4 (nl_nz y2).toNat)) 4 v 5 (nl_nz y2).toNat)) 4 v 6 (nl_nz y2).toNat)) 4 v 7 (nl_nz y2).toNat)) 4 v 8 (nl_nz y2).toNat)) 4 o 9 (nl_nz y2).toNat ((nl_up (nl_up (nl_up (nl_up (nl_up (nl_up h 4 o 3 (nl_nz y2).toNat (h 4 v 3 (nl_nz y2).toNat)) 4 o 4 (nl_nz y2).toNat ((nl_up h 4 o 3 (nl_nz y2).toNat (h 4 v 3 (nl_nz y2).toNat)) 4 v 4 (nl_nz y2).toNat)) 4 o 5 (nl_nz y2).toNat ((nl_up (nl_up h 4 o 3 (nl_nz y2).toNat (h 4 v 3 (nl_nz y2).toNat)) 4 o 4 (nl_nz y2).toNat ((nl_up h 4 o 3 (nl_nz y2).toNat (h 4 v 3 (nl_nz y2).toNat)) 4 v 4 (nl_nz y2).toNat)) 4 v 5 (nl_nz y2).toNat)) 4 o 6 (nl_nz y2).toNat ((nl_up (nl_up (nl_up h 4 o 3 (nl_nz y2).toNat (h 4 v 3 (nl_nz y2).toNat)) 4 o 4 (nl_nz y2).toNat ((nl_up h 4 o 3 (nl_nz y2).toNat (h 4 v 3 (nl_nz y2).toNat)) 4 v 4 (nl_nz y2).toNat)) 4 o 5 (nl_nz y2).toNat ((nl_up (nl_up h 4 o 3 (nl_nz y2).toNat (h 4 v 3 (nl_nz y2).toNat)) 4 o 4 (nl_nz y2).toNat ((nl_up h 4 o 3 (nl_nz y2).toNat (h 4 v 3 (nl_nz y2).toNat)) 4 v 4 (nl_nz y2).toNat)) 4 v 5 (nl_nz y2).toNat)) 4 v 6 (nl_nz y2).toNat)) 4 o 7 (nl_nz y2).toNat ((nl_up (nl_up (nl_up (nl_up h 4 o 3 (nl_nz y2).toNat (h 4 v 3 (nl_nz y2).toNat)) 4 o 4 (nl_nz y2).toNat ((nl_up h 4 o 3 (nl_nz y2).toNat (h 4 v 3 (nl_nz y2).toNat)) 4 v 4 (nl_nz y2).toNat)) 4 o 5 (nl_nz y2).toNat ((nl_up (nl_up h 4 o 3 (nl_nz y2).toNat (h 4 v 3 (nl_nz y2).toNat)) 4 o 4 (nl_nz y2).toNat ((nl_up h 4 o 3 (nl_nz y2).toNat (h 4 v 3 (nl_nz y2).toNat)) 4 v 4 (nl_nz y2).toNat)) 4 v 5 (nl_nz y2).toNat)) 4 o 6 (nl_nz y2).toNat ((nl_up (nl_up (nl_up h 4 o 3 (nl_nz y2).toNat (h 4 v 3 (nl_nz y2).toNat)) 4 o 4 (nl_nz y2).toNat ((nl_up h 4 o 3 (nl_nz y2).toNat (h 4 v 3 (nl_nz y2).toNat)) 4 v 4 (nl_nz y2).toNat)) 4 o 5 (nl_nz y2).toNat ((nl_up (nl_up h 4 o 3 (nl_nz y2).toNat (h 4 v 3 (nl_nz y2).toNat)) 4 o 4 (nl_nz y2).toNat ((nl_up h 4 o 3 (nl_nz y2).toNat (h 4 v 3 (nl_nz y2).toNat)) 4 v 4 (nl_nz y2).toNat)) 4 v 5 (nl_nz y2).toNat)) 4 v 6 (nl_nz y2).toNat)) 4 v 7 (nl_nz y2).toNat)) 4 o 8 (nl_nz y2).toNat ((nl_up (nl_up (nl_up (nl_up (nl_up h 4 o 3 (nl_nz y2).toNat (h 4 v 3 (nl_nz y2).toNat)) 4 o 4 (nl_nz y2).toNat ((nl_up h 4 o 3 (nl_nz y2).toNat (h 4 v 3 (nl_nz y2).toNat)) 4 v 4 (nl_nz y2).toNat)) 4 o 5 (nl_nz y2).toNat ((nl_up (nl_up h 4 o 3 (nl_nz y2).toNat (h 4 v 3 (nl_nz y2).toNat)) 4 o 4 (nl_nz y2).toNat ((nl_up h 4 o 3 (nl_nz y2).toNat (h 4 v 3 (nl_nz y2).toNat)) 4 v 4 (nl_nz y2).toNat)) 4 v 5 (nl_nz y2).toNat)) 4 o 6 (nl_nz y2).toNat ((nl_up (nl_up (nl_up h 4 o 3 (nl_nz y2).toNat (h 4 v 3 (nl_nz y2).toNat)) 4 o 4 (nl_nz y2).toNat ((nl_up h 4 o 3 (nl_nz y2).toNat (h 4 v 3 (nl_nz y2).toNat)) 4 v 4 (nl_nz y2).toNat)) 4 o 5 (nl_nz y2).toNat ((nl_up (nl_up h 4 o 3 (nl_nz y2).toNat (h 4 v 3 (nl_nz y2).toNat)) 4 o 4 (nl_nz y2).toNat ((nl_up h 4 o 3 (nl_nz y2).toNat (h 4 v 3 (nl_nz y2).toNat)) 4 v 4 (nl_nz y2).toNat)) 4 v 5 (nl_nz y2).toNat)) 4 v 6 (nl_nz y2).toNat)) 4 o 7 (nl_nz y2).toNat ((nl_up (nl_up (nl_up (nl_up h 4 o 3 (nl_nz y2).toNat (h 4 v 3 (nl_nz y2).toNat)) 4 o 4 (nl_nz y2).toNat ((nl_up h 4 o 3 (nl_nz y2).toNat (h 4 v 3 (nl_nz y2).toNat)) 4 v 4 (nl_nz y2).toNat)) 4 o 5 (nl_nz y2).toNat ((nl_up (nl_up h 4 o 3 (nl_nz y2).toNat (h 4 v 3 (nl_nz y2).toNat)) 4 o 4 (nl_nz y2).toNat ((nl_up h 4 o 3 (nl_nz y2).toNat (h 4 v 3 (nl_nz y2).toNat)) 4 v 4 (nl_nz y2).toNat)) 4 v 5 (nl_nz y2).toNat)) 4 o 6 (nl_nz y2).toNat ((nl_up (nl_up (nl_up h 4 o 3 (nl_nz y2).toNat (h 4 v 3 (nl_nz y2).toNat)) 4 o 4 (nl_nz y2).toNat ((nl_up h 4 o 3 (nl_nz y2).toNat (h 4 v 3 (nl_nz y2).toNat)) 4 v 4 (nl_nz y2).toNat)) 4 o 5 (nl_nz y2).toNat ((nl_up (nl_up h 4 o 3 (nl_nz y2).toNat (h 4 v 3 (nl_nz y2).toNat)) 4 o 4 (nl_nz y2).toNat ((nl_up h 4 o 3 (nl_nz y2).toNat (h 4 v 3 (nl_nz y2).toNat)) 4 v 4 (nl_nz y2).toNat)) 4 v 5 (nl_nz y2).toNat)) 4 v 6 (nl_nz y2).toNat)) 4 v 7 (nl_nz y2).toNat)) 4 v 8 (nl_nz y2).toNat)) 4 v 9 (nl_nz y2).toNat))) else none else none else none else none else none else none else none else none else none else none else none else none else none else none) := rfl
set_option maxRecDepth 20000 in
theorem sg_X4_copyFrom_124 (LS : Int) (den : nl_D) (h : nl_H) (o : Nat) (v : Nat) (y2 : Int) : nl_ex LS cd_X4_copyFrom den ct_X4_copyFrom 0 400 124 [some (vO 4 o), some (vO 4 v), some (vI y2)] [] h =
  (if nl_nz 49 ≤ nl_nz y2 then
    some (.inr (0, h))
  else
    if 0 ≤ nl_nz y2 ∧ nl_nz y2 < 49 then if 0 ≤ nl_nz y2 ∧ nl_nz y2 < 49 then some (.inl (124, [some (vO 4 o), some (vO 4 v), some (vI (y2 + 1))], nl_up h 4 o 10 (nl_nz y2).toNat (h 4 v 10 (nl_nz y2).toNat))) else none else none) := rfl
set_option maxRecDepth 20000 in
theorem sg_X4_isHouse_0 (LS : Int) (den : nl_D) (h : nl_H) (o : Nat) (x1 : Int) : nl_ex LS cd_X4_isHouse den ct_X4_isHouse 3 400 0 [some (vO 4 o), some (vI x1)] [] h =
  (if nl_nz x1 < 0 then
    some (.inr (0, h))
  else
    if nl_nz (h 4 o 0 0) ≤ nl_nz x1 then
      some (.inr (0, h))
    else
      some (.inr (1, h))) := rfl
set_option maxRecDepth 20000 in
theorem sg_X4_isHour_0 (LS : Int) (den : nl_D) (h : nl_H) (o : Nat) (x1 : Int) : nl_ex LS cd_X4_isHour den ct_X4_isHour 3 400 0 [some (vO 4 o), some (vI x1)] [] h =
  (if nl_nz x1 < 0 then
    some (.inr (0, h))
  else
    if nl_nz (h 4 o 0 0) ≤ nl_nz x1 then
      some (.inr (0, h))
    else
      some (.inr (1, h))) := rfl
set_option maxRecDepth 20000 in
theorem sg_X4_houseWith_0 (LS : Int) (den : nl_D) (h : nl_H) (o : Nat) (x1 : Int) : nl_ex LS cd_X4_houseWith den ct_X4_houseWith 1 400 0 [some (vO 4 o), some (vI x1), none] [] h =
  (some (.inl (2, [some (vO 4 o), some (vI x1), some (vI 0)], h))) := rfl
set_option maxRecDepth 20000 in
theorem sg_X4_houseWith_2 (LS : Int) (den : nl_D) (h : nl_H) (o : Nat) (y1 : Int) (y2 : Int) : nl_ex LS cd_X4_houseWith den ct_X4_houseWith 1 400 2 [some (vO 4 o), some (vI y1), some (vI y2)] [] h =
  (if nl_nz (h 4 o 0 0) ≤ nl_nz y2 then
    some (.inr ((-1), h))
  else
    if 0 ≤ nl_nz y2 ∧ nl_nz y2 < 7 then
      if nl_nz (h 4 o 8 (nl_nz y2).toNat) = nl_nz y1 then
        some (.inr (y2, h))
      else
        some (.inl (2, [some (vO 4 o), some (vI y1), some (vI (y2 + 1))], h))
    else none) := rfl
set_option maxRecDepth 20000 in
theorem sg_X4_timesHad_0 (LS : Int) (den : nl_D) (h : nl_H) (o : Nat) (x1 : Int) (x2 : Int) : nl_ex LS cd_X4_timesHad den ct_X4_timesHad 1 400 0 [some (vO 4 o), some (vI x1), some (vI x2)] [] h =
  (if 0 ≤ nl_nz ((x1 * 7) + x2) ∧ nl_nz ((x1 * 7) + x2) < 49 then some (.inr (h 4 o 10 (nl_nz ((x1 * 7) + x2)).toNat, h)) else none) := rfl
set_option maxRecDepth 20000 in
theorem sg_X4_heaviness_0 (LS : Int) (den : nl_D) (h : nl_H) (o : Nat) (x1 : Int) (x2 : Int) : nl_ex LS cd_X4_heaviness den ct_X4_heaviness 1 400 0 [some (vO 4 o), some (vI x1), some (vI x2), none] [] h =
  (if 0 ≤ nl_nz x2 ∧ nl_nz x2 < 7 then
    if 0 ≤ nl_nz x1 ∧ nl_nz x1 < 7 then
      if nl_nz (h 4 o 4 (nl_nz x1).toNat) = 1 then
        some (.inr (2 * (h 4 o 3 (nl_nz x2).toNat), h))
      else
        if nl_nz (h 4 o 4 (nl_nz x1).toNat) = 1 + 1 then
          (den m_X4_hourHadMost [vO 4 o, vI x1] h).bind fun r1 =>
            if nl_nz x2 = nl_nz r1.1 then
              if nl_nz 2 = 0 then none else
                some (.inr ((nl_nz (h 4 o 3 (nl_nz x2).toNat)).tdiv (nl_nz 2), r1.2))
            else
              some (.inr (h 4 o 3 (nl_nz x2).toNat, r1.2))
        else
          if nl_nz (h 4 o 4 (nl_nz x1).toNat) = 1 + 1 + 1 then
            if nl_nz x2 = 0 then
              some (.inr (if nl_nz ((h 4 o 3 (nl_nz x2).toNat) - 3) < nl_nz 0 then 0 else (h 4 o 3 (nl_nz x2).toNat) - 3, h))
            else
              if nl_nz x2 = nl_nz ((h 4 o 0 0) - 1) then
                some (.inr (if nl_nz ((h 4 o 3 (nl_nz x2).toNat) - 3) < nl_nz 0 then 0 else (h 4 o 3 (nl_nz x2).toNat) - 3, h))
              else
                some (.inr (h 4 o 3 (nl_nz x2).toNat, h))
          else
            some (.inr (h 4 o 3 (nl_nz x2).toNat, h))
    else none
  else none) := rfl
set_option maxRecDepth 20000 in
theorem sg_X4_hourHadMost_0 (LS : Int) (den : nl_D) (h : nl_H) (o : Nat) (x1 : Int) : nl_ex LS cd_X4_hourHadMost den ct_X4_hourHadMost 1 400 0 [some (vO 4 o), some (vI x1), none, none, none, none] [] h =
  (some (.inl (7, [some (vO 4 o), some (vI x1), some (vI 0), some (vI ((-1))), some (vI 0), none], h))) := rfl
set_option maxRecDepth 20000 in
theorem sg_X4_hourHadMost_7 (LS : Int) (den : nl_D) (h : nl_H) (o : Nat) (y1 : Int) (y2 : Int) (y3 : Int) (y4 : Int) (w5 : Option nl_V) : nl_ex LS cd_X4_hourHadMost den ct_X4_hourHadMost 1 400 7 [some (vO 4 o), some (vI y1), some (vI y2), some (vI y3), some (vI y4), w5] [] h =
  (if nl_nz (h 4 o 0 0) ≤ nl_nz y4 then
    some (.inr (y3, h))
  else
    if 0 ≤ nl_nz ((y1 * 7) + y4) ∧ nl_nz ((y1 * 7) + y4) < 49 then
      if nl_nz (h 4 o 10 (nl_nz ((y1 * 7) + y4)).toNat) ≤ nl_nz y2 then
        some (.inl (7, [some (vO 4 o), some (vI y1), some (vI y2), some (vI y3), some (vI (y4 + 1)), some (vI (h 4 o 10 (nl_nz ((y1 * 7) + y4)).toNat))], h))
      else
        some (.inl (7, [some (vO 4 o), some (vI y1), some (vI (h 4 o 10 (nl_nz ((y1 * 7) + y4)).toNat)), some (vI y4), some (vI (y4 + 1)), some (vI (h 4 o 10 (nl_nz ((y1 * 7) + y4)).toNat))], h))
    else none) := rfl
set_option maxRecDepth 20000 in
theorem sg_X4_wouldKeep_0 (LS : Int) (den : nl_D) (h : nl_H) (o : Nat) (x1 : Int) (x2 : Int) (x3 : Int) : nl_ex LS cd_X4_wouldKeep den ct_X4_wouldKeep 3 400 0 [some (vO 4 o), some (vI x1), some (vI x2), some (vI x3)] [] h =
  ((den m_X4_heaviness [vO 4 o, vI x1, vI x2] h).bind fun r1 =>
    if 0 ≤ nl_nz x1 ∧ nl_nz x1 < 7 then
      if nl_nz ((r1.2 4 o 5 (nl_nz x1).toNat) - x3) < nl_nz r1.1 then
        some (.inr (0, r1.2))
      else
        some (.inr (1, r1.2))
    else none) := rfl
set_option maxRecDepth 20000 in
theorem sg_X4_isGapAt_0 (LS : Int) (den : nl_D) (h : nl_H) (o : Nat) (x1 : Int) : nl_ex LS cd_X4_isGapAt den ct_X4_isGapAt 3 400 0 [some (vO 4 o), some (vI x1), none] [] h =
  ((den m_X4_houseWith [vO 4 o, vI x1] h).bind fun r1 =>
    if nl_nz r1.1 = nl_nz ((-1)) then
      some (.inr (0, r1.2))
    else
      if 0 ≤ nl_nz r1.1 ∧ nl_nz r1.1 < 7 then
        (den m_X4_wouldKeep [vO 4 o, vI r1.1, vI x1, vI (r1.2 4 o 7 (nl_nz r1.1).toNat)] r1.2).bind fun r2 =>
          if nl_nz r2.1 = 0 then
            some (.inr (1, r2.2))
          else
            some (.inr (0, r2.2))
      else none) := rfl
set_option maxRecDepth 20000 in
theorem sg_X4_seeThrough_0 (LS : Int) (den : nl_D) (h : nl_H) (o : Nat) (x1 : Int) : nl_ex LS cd_X4_seeThrough den ct_X4_seeThrough 3 400 0 [some (vO 4 o), some (vI x1), none, none] [] h =
  (if 0 ≤ nl_nz x1 ∧ nl_nz x1 < 7 then
    (den m_X4_isHour [vO 4 o, vI (h 4 o 8 (nl_nz x1).toNat)] h).bind fun r1 =>
      if nl_nz r1.1 = 0 then
        some (.inr (1, r1.2))
      else
        if 0 ≤ nl_nz x1 ∧ nl_nz x1 < 7 then
          (den m_X4_wouldKeep [vO 4 o, vI x1, vI (h 4 o 8 (nl_nz x1).toNat), vI (r1.2 4 o 7 (nl_nz x1).toNat)] r1.2).bind fun r2 =>
            if nl_nz r2.1 = 0 then
              if 0 ≤ nl_nz x1 ∧ nl_nz x1 < 7 then
                if 0 ≤ nl_nz x1 ∧ nl_nz x1 < 7 then
                  if 0 ≤ nl_nz x1 ∧ nl_nz x1 < 7 then
                    if 0 ≤ nl_nz x1 ∧ nl_nz x1 < 7 then
                      if 0 ≤ nl_nz ((x1 * 7) + (h 4 o 8 (nl_nz x1).toNat)) ∧ nl_nz ((x1 * 7) + (h 4 o 8 (nl_nz x1).toNat)) < 49 then
                        if 0 ≤ nl_nz ((x1 * 7) + (h 4 o 8 (nl_nz x1).toNat)) ∧ nl_nz ((x1 * 7) + (h 4 o 8 (nl_nz x1).toNat)) < 49 then
                          if nl_nz ((nl_up (nl_up (nl_up r2.2 4 o 7 (nl_nz x1).toNat (if nl_nz ((r2.2 4 o 7 (nl_nz x1).toNat) - 3) < nl_nz 0 then 0 else (r2.2 4 o 7 (nl_nz x1).toNat) - 3)) 4 o 9 (nl_nz x1).toNat (((nl_up r2.2 4 o 7 (nl_nz x1).toNat (if nl_nz ((r2.2 4 o 7 (nl_nz x1).toNat) - 3) < nl_nz 0 then 0 else (r2.2 4 o 7 (nl_nz x1).toNat) - 3)) 4 o 9 (nl_nz x1).toNat) + 1)) 4 o 10 (nl_nz ((x1 * 7) + (h 4 o 8 (nl_nz x1).toNat))).toNat (((nl_up (nl_up r2.2 4 o 7 (nl_nz x1).toNat (if nl_nz ((r2.2 4 o 7 (nl_nz x1).toNat) - 3) < nl_nz 0 then 0 else (r2.2 4 o 7 (nl_nz x1).toNat) - 3)) 4 o 9 (nl_nz x1).toNat (((nl_up r2.2 4 o 7 (nl_nz x1).toNat (if nl_nz ((r2.2 4 o 7 (nl_nz x1).toNat) - 3) < nl_nz 0 then 0 else (r2.2 4 o 7 (nl_nz x1).toNat) - 3)) 4 o 9 (nl_nz x1).toNat) + 1)) 4 o 10 (nl_nz ((x1 * 7) + (h 4 o 8 (nl_nz x1).toNat))).toNat) + 1)) 4 o 0 0) ≤ nl_nz ((h 4 o 8 (nl_nz x1).toNat) + 1) then
                            if 0 ≤ nl_nz x1 ∧ nl_nz x1 < 7 then if r2.1 = 0 ∨ r2.1 = 1 then some (.inr (r2.1, nl_up (nl_up (nl_up (nl_up r2.2 4 o 7 (nl_nz x1).toNat (if nl_nz ((r2.2 4 o 7 (nl_nz x1).toNat) - 3) < nl_nz 0 then 0 else (r2.2 4 o 7 (nl_nz x1).toNat) - 3)) 4 o 9 (nl_nz x1).toNat (((nl_up r2.2 4 o 7 (nl_nz x1).toNat (if nl_nz ((r2.2 4 o 7 (nl_nz x1).toNat) - 3) < nl_nz 0 then 0 else (r2.2 4 o 7 (nl_nz x1).toNat) - 3)) 4 o 9 (nl_nz x1).toNat) + 1)) 4 o 10 (nl_nz ((x1 * 7) + (h 4 o 8 (nl_nz x1).toNat))).toNat (((nl_up (nl_up r2.2 4 o 7 (nl_nz x1).toNat (if nl_nz ((r2.2 4 o 7 (nl_nz x1).toNat) - 3) < nl_nz 0 then 0 else (r2.2 4 o 7 (nl_nz x1).toNat) - 3)) 4 o 9 (nl_nz x1).toNat (((nl_up r2.2 4 o 7 (nl_nz x1).toNat (if nl_nz ((r2.2 4 o 7 (nl_nz x1).toNat) - 3) < nl_nz 0 then 0 else (r2.2 4 o 7 (nl_nz x1).toNat) - 3)) 4 o 9 (nl_nz x1).toNat) + 1)) 4 o 10 (nl_nz ((x1 * 7) + (h 4 o 8 (nl_nz x1).toNat))).toNat) + 1)) 4 o 8 (nl_nz x1).toNat 0)) else none else none
                          else
                            if 0 ≤ nl_nz x1 ∧ nl_nz x1 < 7 then if r2.1 = 0 ∨ r2.1 = 1 then some (.inr (r2.1, nl_up (nl_up (nl_up (nl_up r2.2 4 o 7 (nl_nz x1).toNat (if nl_nz ((r2.2 4 o 7 (nl_nz x1).toNat) - 3) < nl_nz 0 then 0 else (r2.2 4 o 7 (nl_nz x1).toNat) - 3)) 4 o 9 (nl_nz x1).toNat (((nl_up r2.2 4 o 7 (nl_nz x1).toNat (if nl_nz ((r2.2 4 o 7 (nl_nz x1).toNat) - 3) < nl_nz 0 then 0 else (r2.2 4 o 7 (nl_nz x1).toNat) - 3)) 4 o 9 (nl_nz x1).toNat) + 1)) 4 o 10 (nl_nz ((x1 * 7) + (h 4 o 8 (nl_nz x1).toNat))).toNat (((nl_up (nl_up r2.2 4 o 7 (nl_nz x1).toNat (if nl_nz ((r2.2 4 o 7 (nl_nz x1).toNat) - 3) < nl_nz 0 then 0 else (r2.2 4 o 7 (nl_nz x1).toNat) - 3)) 4 o 9 (nl_nz x1).toNat (((nl_up r2.2 4 o 7 (nl_nz x1).toNat (if nl_nz ((r2.2 4 o 7 (nl_nz x1).toNat) - 3) < nl_nz 0 then 0 else (r2.2 4 o 7 (nl_nz x1).toNat) - 3)) 4 o 9 (nl_nz x1).toNat) + 1)) 4 o 10 (nl_nz ((x1 * 7) + (h 4 o 8 (nl_nz x1).toNat))).toNat) + 1)) 4 o 8 (nl_nz x1).toNat ((h 4 o 8 (nl_nz x1).toNat) + 1))) else none else none
                        else none
                      else none
                    else none
                  else none
                else none
              else none
            else
              if 0 ≤ nl_nz x1 ∧ nl_nz x1 < 7 then
                if 0 ≤ nl_nz x1 ∧ nl_nz x1 < 7 then
                  if 0 ≤ nl_nz ((x1 * 7) + (h 4 o 8 (nl_nz x1).toNat)) ∧ nl_nz ((x1 * 7) + (h 4 o 8 (nl_nz x1).toNat)) < 49 then
                    if 0 ≤ nl_nz ((x1 * 7) + (h 4 o 8 (nl_nz x1).toNat)) ∧ nl_nz ((x1 * 7) + (h 4 o 8 (nl_nz x1).toNat)) < 49 then
                      if nl_nz ((nl_up (nl_up r2.2 4 o 7 (nl_nz x1).toNat (if nl_nz 40 < nl_nz ((r2.2 4 o 7 (nl_nz x1).toNat) + 2) then 40 else (r2.2 4 o 7 (nl_nz x1).toNat) + 2)) 4 o 10 (nl_nz ((x1 * 7) + (h 4 o 8 (nl_nz x1).toNat))).toNat (((nl_up r2.2 4 o 7 (nl_nz x1).toNat (if nl_nz 40 < nl_nz ((r2.2 4 o 7 (nl_nz x1).toNat) + 2) then 40 else (r2.2 4 o 7 (nl_nz x1).toNat) + 2)) 4 o 10 (nl_nz ((x1 * 7) + (h 4 o 8 (nl_nz x1).toNat))).toNat) + 1)) 4 o 0 0) ≤ nl_nz ((h 4 o 8 (nl_nz x1).toNat) + 1) then
                        if 0 ≤ nl_nz x1 ∧ nl_nz x1 < 7 then if r2.1 = 0 ∨ r2.1 = 1 then some (.inr (r2.1, nl_up (nl_up (nl_up r2.2 4 o 7 (nl_nz x1).toNat (if nl_nz 40 < nl_nz ((r2.2 4 o 7 (nl_nz x1).toNat) + 2) then 40 else (r2.2 4 o 7 (nl_nz x1).toNat) + 2)) 4 o 10 (nl_nz ((x1 * 7) + (h 4 o 8 (nl_nz x1).toNat))).toNat (((nl_up r2.2 4 o 7 (nl_nz x1).toNat (if nl_nz 40 < nl_nz ((r2.2 4 o 7 (nl_nz x1).toNat) + 2) then 40 else (r2.2 4 o 7 (nl_nz x1).toNat) + 2)) 4 o 10 (nl_nz ((x1 * 7) + (h 4 o 8 (nl_nz x1).toNat))).toNat) + 1)) 4 o 8 (nl_nz x1).toNat 0)) else none else none
                      else
                        if 0 ≤ nl_nz x1 ∧ nl_nz x1 < 7 then if r2.1 = 0 ∨ r2.1 = 1 then some (.inr (r2.1, nl_up (nl_up (nl_up r2.2 4 o 7 (nl_nz x1).toNat (if nl_nz 40 < nl_nz ((r2.2 4 o 7 (nl_nz x1).toNat) + 2) then 40 else (r2.2 4 o 7 (nl_nz x1).toNat) + 2)) 4 o 10 (nl_nz ((x1 * 7) + (h 4 o 8 (nl_nz x1).toNat))).toNat (((nl_up r2.2 4 o 7 (nl_nz x1).toNat (if nl_nz 40 < nl_nz ((r2.2 4 o 7 (nl_nz x1).toNat) + 2) then 40 else (r2.2 4 o 7 (nl_nz x1).toNat) + 2)) 4 o 10 (nl_nz ((x1 * 7) + (h 4 o 8 (nl_nz x1).toNat))).toNat) + 1)) 4 o 8 (nl_nz x1).toNat ((h 4 o 8 (nl_nz x1).toNat) + 1))) else none else none
                    else none
                  else none
                else none
              else none
        else none
  else none) := rfl
set_option maxRecDepth 20000 in
theorem sg_X4_letNightsPass_0 (LS : Int) (den : nl_D) (h : nl_H) (o : Nat) (x1 : Int) : nl_ex LS cd_X4_letNightsPass den ct_X4_letNightsPass 1 400 0 [some (vO 4 o), some (vI x1), none, none, none] [] h =
  (some (.inl (4, [some (vO 4 o), some (vI x1), some (vI 0), some (vI 0), none], h))) := rfl
set_option maxRecDepth 20000 in
theorem sg_X4_letNightsPass_4 (LS : Int) (den : nl_D) (h : nl_H) (o : Nat) (y1 : Int) (y2 : Int) (y3 : Int) (w4 : Option nl_V) : nl_ex LS cd_X4_letNightsPass den ct_X4_letNightsPass 1 400 4 [some (vO 4 o), some (vI y1), some (vI y2), some (vI y3), w4] [] h =
  (if nl_nz y1 ≤ nl_nz y3 then
    some (.inr (y2, nl_up h 4 o 2 0 ((h 4 o 2 0) + y2)))
  else
    some (.inl (12, [some (vO 4 o), some (vI y1), some (vI y2), some (vI y3), some (vI 0)], h))) := rfl
set_option maxRecDepth 20000 in
theorem sg_X4_letNightsPass_12 (LS : Int) (den : nl_D) (h : nl_H) (o : Nat) (y1 : Int) (y2 : Int) (y3 : Int) (y4 : Int) : nl_ex LS cd_X4_letNightsPass den ct_X4_letNightsPass 1 400 12 [some (vO 4 o), some (vI y1), some (vI y2), some (vI y3), some (vI y4)] [] h =
  (if nl_nz (h 4 o 0 0) ≤ nl_nz y4 then
    some (.inl (4, [some (vO 4 o), some (vI y1), some (vI y2), some (vI (y3 + 1)), some (vI y4)], nl_up h 4 o 1 0 ((h 4 o 1 0) + 1)))
  else
    (den m_X4_seeThrough [vO 4 o, vI y4] h).bind fun r1 =>
      if nl_nz r1.1 = 0 then
        some (.inl (12, [some (vO 4 o), some (vI y1), some (vI (y2 + 1)), some (vI y3), some (vI (y4 + 1))], r1.2))
      else
        some (.inl (12, [some (vO 4 o), some (vI y1), some (vI (y2 + 0)), some (vI y3), some (vI (y4 + 1))], r1.2))) := rfl
set_option maxRecDepth 20000 in
theorem sg_X4_trade_0 (LS : Int) (den : nl_D) (h : nl_H) (o : Nat) (x1 : Int) (x2 : Int) : nl_ex LS cd_X4_trade den ct_X4_trade 0 400 0 [some (vO 4 o), some (vI x1), some (vI x2), none] [] h =
  (if 0 ≤ nl_nz x1 ∧ nl_nz x1 < 7 then if 0 ≤ nl_nz x2 ∧ nl_nz x2 < 7 then if 0 ≤ nl_nz x1 ∧ nl_nz x1 < 7 then if 0 ≤ nl_nz x2 ∧ nl_nz x2 < 7 then some (.inr (0, nl_up (nl_up h 4 o 8 (nl_nz x1).toNat (h 4 o 8 (nl_nz x2).toNat)) 4 o 8 (nl_nz x2).toNat (h 4 o 8 (nl_nz x1).toNat))) else none else none else none else none) := rfl
set_option maxRecDepth 20000 in
theorem sg_X4_giveRest_0 (LS : Int) (den : nl_D) (h : nl_H) (o : Nat) (x1 : Int) : nl_ex LS cd_X4_giveRest den ct_X4_giveRest 0 400 0 [some (vO 4 o), some (vI x1)] [] h =
  (if 0 ≤ nl_nz x1 ∧ nl_nz x1 < 7 then if 0 ≤ nl_nz x1 ∧ nl_nz x1 < 7 then some (.inr (0, nl_up h 4 o 7 (nl_nz x1).toNat (if nl_nz ((h 4 o 7 (nl_nz x1).toNat) - 5) < nl_nz 0 then 0 else (h 4 o 7 (nl_nz x1).toNat) - 5))) else none else none) := rfl
set_option maxRecDepth 20000 in
theorem sg_X4_setBurden_0 (LS : Int) (den : nl_D) (h : nl_H) (o : Nat) (x1 : Int) (x2 : Int) : nl_ex LS cd_X4_setBurden den ct_X4_setBurden 0 400 0 [some (vO 4 o), some (vI x1), some (vI x2)] [] h =
  ((den m_X4_isHour [vO 4 o, vI x1] h).bind fun r1 =>
    if nl_nz r1.1 = 0 then
      some (.inr (0, r1.2))
    else
      if 0 ≤ nl_nz x1 ∧ nl_nz x1 < 7 then some (.inr (0, nl_up r1.2 4 o 3 (nl_nz x1).toNat x2)) else none) := rfl
set_option maxRecDepth 20000 in
theorem sg_X4_tiredTogether_0 (LS : Int) (den : nl_D) (h : nl_H) (o : Nat) : nl_ex LS cd_X4_tiredTogether den ct_X4_tiredTogether 1 400 0 [some (vO 4 o), none, none] [] h =
  (some (.inl (4, [some (vO 4 o), some (vI 0), some (vI 0)], h))) := rfl
set_option maxRecDepth 20000 in
theorem sg_X4_tiredTogether_4 (LS : Int) (den : nl_D) (h : nl_H) (o : Nat) (y1 : Int) (y2 : Int) : nl_ex LS cd_X4_tiredTogether den ct_X4_tiredTogether 1 400 4 [some (vO 4 o), some (vI y1), some (vI y2)] [] h =
  (if nl_nz (h 4 o 0 0) ≤ nl_nz y2 then
    some (.inr (y1, h))
  else
    if 0 ≤ nl_nz y2 ∧ nl_nz y2 < 7 then some (.inl (4, [some (vO 4 o), some (vI (y1 + (h 4 o 7 (nl_nz y2).toNat))), some (vI (y2 + 1))], h)) else none) := rfl
set_option maxRecDepth 20000 in
theorem sg_X4_handingOver_0 (LS : Int) (den : nl_D) (h : nl_H) (o : Nat) : nl_ex LS cd_X4_handingOver den ct_X4_handingOver 1 400 0 [some (vO 4 o), none, none, none, none] [] h =
  (some (.inl (4, [some (vO 4 o), some (vI 0), some (vI 1), none, none], h))) := rfl
set_option maxRecDepth 20000 in
theorem sg_X4_handingOver_4 (LS : Int) (den : nl_D) (h : nl_H) (o : Nat) (y1 : Int) (y2 : Int) (w3 : Option nl_V) (w4 : Option nl_V) : nl_ex LS cd_X4_handingOver den ct_X4_handingOver 1 400 4 [some (vO 4 o), some (vI y1), some (vI y2), w3, w4] [] h =
  (if nl_nz (h 4 o 0 0) ≤ nl_nz y2 then
    some (.inr (y1, h))
  else
    (den m_X4_houseWith [vO 4 o, vI (y2 - 1)] h).bind fun r1 =>
      (den m_X4_houseWith [vO 4 o, vI y2] r1.2).bind fun r2 =>
        if nl_nz r1.1 = nl_nz ((-1)) then
          some (.inl (4, [some (vO 4 o), some (vI y1), some (vI (y2 + 1)), some (vI r1.1), some (vI r2.1)], r2.2))
        else
          if nl_nz r2.1 = nl_nz ((-1)) then
            some (.inl (4, [some (vO 4 o), some (vI y1), some (vI (y2 + 1)), some (vI r1.1), some (vI r2.1)], r2.2))
          else
            if 0 ≤ nl_nz r2.1 ∧ nl_nz r2.1 < 7 then if 0 ≤ nl_nz r1.1 ∧ nl_nz r1.1 < 7 then some (.inl (4, [some (vO 4 o), some (vI (y1 + (if 0 ≤ nl_nz ((r2.2 4 o 6 (nl_nz r2.1).toNat) - (r2.2 4 o 6 (nl_nz r1.1).toNat)) then (r2.2 4 o 6 (nl_nz r2.1).toNat) - (r2.2 4 o 6 (nl_nz r1.1).toNat) else -((r2.2 4 o 6 (nl_nz r2.1).toNat) - (r2.2 4 o 6 (nl_nz r1.1).toNat))))), some (vI (y2 + 1)), some (vI r1.1), some (vI r2.1)], r2.2)) else none else none) := rfl
set_option maxRecDepth 20000 in
theorem sg_X4_lengthOfRoad_0 (LS : Int) (den : nl_D) (h : nl_H) (o : Nat) : nl_ex LS cd_X4_lengthOfRoad den ct_X4_lengthOfRoad 1 400 0 [some (vO 4 o), none, none, none] [] h =
  (some (.inl (7, [some (vO 4 o), some (vI 99), some (vI 0), some (vI 0)], h))) := rfl
set_option maxRecDepth 20000 in
theorem sg_X4_lengthOfRoad_7 (LS : Int) (den : nl_D) (h : nl_H) (o : Nat) (y1 : Int) (y2 : Int) (y3 : Int) : nl_ex LS cd_X4_lengthOfRoad den ct_X4_lengthOfRoad 1 400 7 [some (vO 4 o), some (vI y1), some (vI y2), some (vI y3)] [] h =
  (if nl_nz (h 4 o 0 0) ≤ nl_nz y3 then
    some (.inr (if nl_nz (y2 - y1) < nl_nz 0 then 0 else y2 - y1, h))
  else
    if 0 ≤ nl_nz y3 ∧ nl_nz y3 < 7 then if 0 ≤ nl_nz y3 ∧ nl_nz y3 < 7 then some (.inl (7, [some (vO 4 o), some (vI (if nl_nz (h 4 o 6 (nl_nz y3).toNat) < nl_nz y1 then h 4 o 6 (nl_nz y3).toNat else y1)), some (vI (if nl_nz y2 < nl_nz (h 4 o 6 (nl_nz y3).toNat) then h 4 o 6 (nl_nz y3).toNat else y2)), some (vI (y3 + 1))], h)) else none else none) := rfl
set_option maxRecDepth 20000 in
theorem sg_X4_stir_0 (LS : Int) (den : nl_D) (h : nl_H) (o : Nat) (x1 : Int) : nl_ex LS cd_X4_stir den ct_X4_stir 0 400 0 [some (vO 4 o), some (vI x1), none, none] [] h =
  (if nl_nz (h 4 o 0 0) < nl_nz 1 then
    some (.inr (0, h))
  else
    if 0 ≤ nl_nz x1 then
      if nl_nz (h 4 o 0 0) = 0 then none else
        if nl_nz 8 = 0 then none else
          if nl_nz (h 4 o 0 0) = 0 then none else
            some (.inl (30, [some (vO 4 o), some (vI x1), some (vI ((nl_nz x1).tmod (nl_nz (h 4 o 0 0)))), some (vI ((nl_nz ((nl_nz x1).tdiv (nl_nz 8))).tmod (nl_nz (h 4 o 0 0))))], h))
    else
      some (.inr (0, h))) := rfl
set_option maxRecDepth 20000 in
theorem sg_X4_stir_30 (LS : Int) (den : nl_D) (h : nl_H) (o : Nat) (y1 : Int) (y2 : Int) (y3 : Int) : nl_ex LS cd_X4_stir den ct_X4_stir 0 400 30 [some (vO 4 o), some (vI y1), some (vI y2), some (vI y3)] [] h =
  (if nl_nz 64 = 0 then none else
    if nl_nz 4 = 0 then none else
      if nl_nz ((nl_nz ((nl_nz y1).tdiv (nl_nz 64))).tmod (nl_nz 4)) = 0 then
        (den m_X4_trade [vO 4 o, vI y2, vI y3] h).bind fun r1 =>
          some (.inr (0, r1.2))
      else
        if nl_nz ((nl_nz ((nl_nz y1).tdiv (nl_nz 64))).tmod (nl_nz 4)) = 0 + 1 then
          (den m_X4_giveRest [vO 4 o, vI y2] h).bind fun r2 =>
            some (.inr (0, r2.2))
        else
          if nl_nz ((nl_nz ((nl_nz y1).tdiv (nl_nz 64))).tmod (nl_nz 4)) = 0 + 1 + 1 then
            if 0 ≤ nl_nz y2 ∧ nl_nz y2 < 7 then
              if nl_nz 256 = 0 then none else
                if nl_nz 21 = 0 then none else
                  (den m_X4_setBurden [vO 4 o, vI (h 4 o 8 (nl_nz y2).toNat), vI ((nl_nz ((nl_nz y1).tdiv (nl_nz 256))).tmod (nl_nz 21))] h).bind fun r3 =>
                    some (.inr (0, r3.2))
            else none
          else
            some (.inr (0, h))) := rfl
end
section
/-! Equations of the abstract machine, cut to cut. -/
set_option maxRecDepth 20000 in
theorem sg_X0_choose_0 (LS : Int) (den : nl_D) (h : nl_H) (v : Nat) : nl_ex LS cd_X0_choose den ct_X0_choose 0 400 0 [some (vO 0 0), some (vO 4 v), none, none] [] h =
  ((den m_X0_weigh [vO 0 0, vO 4 v] h).bind fun r1 =>
    if 0 ≤ nl_nz (r1.2 4 v 0 0) ∧ nl_nz (r1.2 4 v 0 0) < 32 then some (.inl (16, [some (vO 0 0), some (vO 4 v), some (vI (r1.2 4 v 0 0)), some (vI ((1 * 2 ^ (nl_nz (r1.2 4 v 0 0)).toNat) - 1))], r1.2)) else none) := rfl
set_option maxRecDepth 20000 in
theorem sg_X0_choose_16 (LS : Int) (den : nl_D) (h : nl_H) (v : Nat) (y2 : Int) (y3 : Int) : nl_ex LS cd_X0_choose den ct_X0_choose 0 400 16 [some (vO 0 0), some (vO 4 v), some (vI y2), some (vI y3)] [] h =
  (if nl_nz y3 < 0 then
    (den m_X0_dealOut [vO 0 0, vI y2] h).bind fun r1 =>
      some (.inr (0, r1.2))
  else
    (den m_X0_leastOf [vO 0 0, vI y3, vI y2] h).bind fun r2 =>
      if 0 ≤ nl_nz y3 ∧ nl_nz y3 < 128 then some (.inl (16, [some (vO 0 0), some (vO 4 v), some (vI y2), some (vI (y3 + (-1)))], nl_up r2.2 0 0 1 (nl_nz y3).toNat r2.1)) else none) := rfl
set_option maxRecDepth 20000 in
theorem sg_X0_weigh_0 (LS : Int) (den : nl_D) (h : nl_H) (v : Nat) : nl_ex LS cd_X0_weigh den ct_X0_weigh 0 400 0 [some (vO 0 0), some (vO 4 v), none, none, none] [] h =
  (some (.inl (2, [some (vO 0 0), some (vO 4 v), some (vI 0), none, none], h))) := rfl
set_option maxRecDepth 20000 in
theorem sg_X0_weigh_2 (LS : Int) (den : nl_D) (h : nl_H) (v : Nat) (y2 : Int) (w3 : Option nl_V) (w4 : Option nl_V) : nl_ex LS cd_X0_weigh den ct_X0_weigh 0 400 2 [some (vO 0 0), some (vO 4 v), some (vI y2), w3, w4] [] h =
  (if nl_nz (h 4 v 0 0) ≤ nl_nz y2 then
    some (.inr (0, h))
  else
    if 0 ≤ nl_nz y2 ∧ nl_nz y2 < 7 then some (.inl (19, [some (vO 0 0), some (vO 4 v), some (vI y2), some (vI 0), w4], nl_up h 0 0 3 (nl_nz y2).toNat 0)) else none) := rfl
set_option maxRecDepth 20000 in
theorem sg_X0_weigh_19 (LS : Int) (den : nl_D) (h : nl_H) (v : Nat) (y2 : Int) (y3 : Int) (w4 : Option nl_V) : nl_ex LS cd_X0_weigh den ct_X0_weigh 0 400 19 [some (vO 0 0), some (vO 4 v), some (vI y2), some (vI y3), w4] [] h =
  (if nl_nz (h 4 v 0 0) ≤ nl_nz y3 then
    some (.inl (2, [some (vO 0 0), some (vO 4 v), some (vI (y2 + 1)), some (vI y3), w4], h))
  else
    if 0 ≤ nl_nz y2 ∧ nl_nz y2 < 7 then
      (den m_X4_wouldKeep [vO 4 v, vI y2, vI y3, vI (h 4 v 7 (nl_nz y2).toNat)] h).bind fun r1 =>
        if nl_nz r1.1 = 0 then
          if 0 ≤ nl_nz ((y2 * 7) + y3) ∧ nl_nz ((y2 * 7) + y3) < 49 then
            if 0 ≤ nl_nz y2 ∧ nl_nz y2 < 7 then
              if nl_nz r1.1 = 0 then
                if 0 ≤ nl_nz ((nl_up r1.2 0 0 0 (nl_nz ((y2 * 7) + y3)).toNat 1000) 0 0 3 (nl_nz y2).toNat) ∧ 0 ≤ nl_nz 0 then if 0 ≤ nl_nz y2 ∧ nl_nz y2 < 7 then some (.inl (19, [some (vO 0 0), some (vO 4 v), some (vI y2), some (vI (y3 + 1)), some (vI r1.1)], nl_up (nl_up r1.2 0 0 0 (nl_nz ((y2 * 7) + y3)).toNat 1000) 0 0 3 (nl_nz y2).toNat ((((nl_nz ((nl_up r1.2 0 0 0 (nl_nz ((y2 * 7) + y3)).toNat 1000) 0 0 3 (nl_nz y2).toNat)).toNat ||| (nl_nz 0).toNat : Nat) : Int)))) else none else none
              else
                if 0 ≤ nl_nz y3 ∧ nl_nz y3 < 32 then if 0 ≤ nl_nz ((nl_up r1.2 0 0 0 (nl_nz ((y2 * 7) + y3)).toNat 1000) 0 0 3 (nl_nz y2).toNat) ∧ 0 ≤ nl_nz (1 * 2 ^ (nl_nz y3).toNat) then if 0 ≤ nl_nz y2 ∧ nl_nz y2 < 7 then some (.inl (19, [some (vO 0 0), some (vO 4 v), some (vI y2), some (vI (y3 + 1)), some (vI r1.1)], nl_up (nl_up r1.2 0 0 0 (nl_nz ((y2 * 7) + y3)).toNat 1000) 0 0 3 (nl_nz y2).toNat ((((nl_nz ((nl_up r1.2 0 0 0 (nl_nz ((y2 * 7) + y3)).toNat 1000) 0 0 3 (nl_nz y2).toNat)).toNat ||| (nl_nz (1 * 2 ^ (nl_nz y3).toNat)).toNat : Nat) : Int)))) else none else none else none
            else none
          else none
        else
          (den m_X4_heaviness [vO 4 v, vI y2, vI y3] r1.2).bind fun r2 =>
            if 0 ≤ nl_nz ((y2 * 7) + y3) ∧ nl_nz ((y2 * 7) + y3) < 49 then
              if 0 ≤ nl_nz y2 ∧ nl_nz y2 < 7 then
                if nl_nz r1.1 = 0 then
                  if 0 ≤ nl_nz ((nl_up r2.2 0 0 0 (nl_nz ((y2 * 7) + y3)).toNat (-r2.1)) 0 0 3 (nl_nz y2).toNat) ∧ 0 ≤ nl_nz 0 then if 0 ≤ nl_nz y2 ∧ nl_nz y2 < 7 then some (.inl (19, [some (vO 0 0), some (vO 4 v), some (vI y2), some (vI (y3 + 1)), some (vI r1.1)], nl_up (nl_up r2.2 0 0 0 (nl_nz ((y2 * 7) + y3)).toNat (-r2.1)) 0 0 3 (nl_nz y2).toNat ((((nl_nz ((nl_up r2.2 0 0 0 (nl_nz ((y2 * 7) + y3)).toNat (-r2.1)) 0 0 3 (nl_nz y2).toNat)).toNat ||| (nl_nz 0).toNat : Nat) : Int)))) else none else none
                else
                  if 0 ≤ nl_nz y3 ∧ nl_nz y3 < 32 then if 0 ≤ nl_nz ((nl_up r2.2 0 0 0 (nl_nz ((y2 * 7) + y3)).toNat (-r2.1)) 0 0 3 (nl_nz y2).toNat) ∧ 0 ≤ nl_nz (1 * 2 ^ (nl_nz y3).toNat) then if 0 ≤ nl_nz y2 ∧ nl_nz y2 < 7 then some (.inl (19, [some (vO 0 0), some (vO 4 v), some (vI y2), some (vI (y3 + 1)), some (vI r1.1)], nl_up (nl_up r2.2 0 0 0 (nl_nz ((y2 * 7) + y3)).toNat (-r2.1)) 0 0 3 (nl_nz y2).toNat ((((nl_nz ((nl_up r2.2 0 0 0 (nl_nz ((y2 * 7) + y3)).toNat (-r2.1)) 0 0 3 (nl_nz y2).toNat)).toNat ||| (nl_nz (1 * 2 ^ (nl_nz y3).toNat)).toNat : Nat) : Int)))) else none else none else none
              else none
            else none
    else none) := rfl
set_option maxRecDepth 20000 in
theorem sg_X0_leastOf_0 (LS : Int) (den : nl_D) (h : nl_H) (x1 : Int) (x2 : Int) : nl_ex LS cd_X0_leastOf den ct_X0_leastOf 1 400 0 [some (vO 0 0), some (vI x1), some (vI x2), none, none, none] [] h =
  ((den m_J6_bitCount [vI x1] h).bind fun r1 =>
    if nl_nz r1.1 < nl_nz x2 then
      some (.inl (20, [some (vO 0 0), some (vI x1), some (vI x2), some (vI r1.1), some (vI 8000), some (vI 0)], r1.2))
    else
      some (.inr (0, r1.2))) := rfl
set_option maxRecDepth 20000 in
theorem sg_X0_leastOf_20 (LS : Int) (den : nl_D) (h : nl_H) (y1 : Int) (y2 : Int) (y3 : Int) (y4 : Int) (y5 : Int) : nl_ex LS cd_X0_leastOf den ct_X0_leastOf 1 400 20 [some (vO 0 0), some (vI y1), some (vI y2), some (vI y3), some (vI y4), some (vI y5)] [] h =
  (if nl_nz y2 ≤ nl_nz y5 then
    some (.inr (y4, h))
  else
    if 0 ≤ nl_nz y5 ∧ nl_nz y5 < 32 then
      if 0 ≤ nl_nz (nl_nz y1 / 2 ^ (nl_nz y5).toNat) ∧ 0 ≤ nl_nz 1 then
        if nl_nz ((((nl_nz (nl_nz y1 / 2 ^ (nl_nz y5).toNat)).toNat &&& (nl_nz 1).toNat : Nat) : Int)) = 0 then
          (den m_X0_priceWith [vO 0 0, vI y1, vI y3, vI y5] h).bind fun r1 =>
            some (.inl (20, [some (vO 0 0), some (vI y1), some (vI y2), some (vI y3), some (vI (if nl_nz r1.1 < nl_nz y4 then r1.1 else y4)), some (vI (y5 + 1))], r1.2))
        else
          some (.inl (20, [some (vO 0 0), some (vI y1), some (vI y2), some (vI y3), some (vI y4), some (vI (y5 + 1))], h))
      else none
    else none) := rfl
set_option maxRecDepth 20000 in
theorem sg_X0_priceWith_0 (LS : Int) (den : nl_D) (h : nl_H) (x1 : Int) (x2 : Int) (x3 : Int) : nl_ex LS cd_X0_priceWith den ct_X0_priceWith 1 400 0 [some (vO 0 0), some (vI x1), some (vI x2), some (vI x3)] [] h =
  (if 0 ≤ nl_nz ((x2 * 7) + x3) ∧ nl_nz ((x2 * 7) + x3) < 49 then if 0 ≤ nl_nz x3 ∧ nl_nz x3 < 32 then if 0 ≤ nl_nz x1 ∧ 0 ≤ nl_nz (1 * 2 ^ (nl_nz x3).toNat) then if 0 ≤ nl_nz ((((nl_nz x1).toNat ||| (nl_nz (1 * 2 ^ (nl_nz x3).toNat)).toNat : Nat) : Int)) ∧ nl_nz ((((nl_nz x1).toNat ||| (nl_nz (1 * 2 ^ (nl_nz x3).toNat)).toNat : Nat) : Int)) < 128 then some (.inr ((h 0 0 0 (nl_nz ((x2 * 7) + x3)).toNat) + (h 0 0 1 (nl_nz ((((nl_nz x1).toNat ||| (nl_nz (1 * 2 ^ (nl_nz x3).toNat)).toNat : Nat) : Int))).toNat), h)) else none else none else none else none) := rfl
set_option maxRecDepth 20000 in
theorem sg_X0_dealOut_0 (LS : Int) (den : nl_D) (h : nl_H) (x1 : Int) : nl_ex LS cd_X0_dealOut den ct_X0_dealOut 0 400 0 [some (vO 0 0), some (vI x1), none, none, none] [] h =
  (some (.inl (9, [some (vO 0 0), some (vI x1), some (vI 0), some (vI 0), none], nl_up h 0 0 5 0 0))) := rfl
set_option maxRecDepth 20000 in
theorem sg_X0_dealOut_9 (LS : Int) (den : nl_D) (h : nl_H) (y1 : Int) (y2 : Int) (y3 : Int) (w4 : Option nl_V) : nl_ex LS cd_X0_dealOut den ct_X0_dealOut 0 400 9 [some (vO 0 0), some (vI y1), some (vI y2), some (vI y3), w4] [] h =
  (if nl_nz y1 ≤ nl_nz y3 then
    some (.inr (0, h))
  else
    (den m_X0_lowestOfLeast [vO 0 0, vI y2, vI y3, vI y1] h).bind fun r1 =>
      if 0 ≤ nl_nz y3 ∧ nl_nz y3 < 7 then
        if 0 ≤ nl_nz y3 ∧ nl_nz y3 < 7 then
          if 0 ≤ nl_nz r1.1 ∧ nl_nz r1.1 < 32 then
            if 0 ≤ nl_nz (nl_nz ((nl_up r1.2 0 0 2 (nl_nz y3).toNat r1.1) 0 0 3 (nl_nz y3).toNat) / 2 ^ (nl_nz r1.1).toNat) ∧ 0 ≤ nl_nz 1 then
              if nl_nz ((((nl_nz (nl_nz ((nl_up r1.2 0 0 2 (nl_nz y3).toNat r1.1) 0 0 3 (nl_nz y3).toNat) / 2 ^ (nl_nz r1.1).toNat)).toNat &&& (nl_nz 1).toNat : Nat) : Int)) = 0 then
                if 0 ≤ nl_nz r1.1 ∧ nl_nz r1.1 < 32 then if 0 ≤ nl_nz y2 ∧ 0 ≤ nl_nz (1 * 2 ^ (nl_nz r1.1).toNat) then some (.inl (9, [some (vO 0 0), some (vI y1), some (vI ((((nl_nz y2).toNat ||| (nl_nz (1 * 2 ^ (nl_nz r1.1).toNat)).toNat : Nat) : Int))), some (vI (y3 + 1)), some (vI r1.1)], nl_up (nl_up r1.2 0 0 2 (nl_nz y3).toNat r1.1) 0 0 5 0 (((nl_up r1.2 0 0 2 (nl_nz y3).toNat r1.1) 0 0 5 0) + 1))) else none else none
              else
                if 0 ≤ nl_nz r1.1 ∧ nl_nz r1.1 < 32 then if 0 ≤ nl_nz y2 ∧ 0 ≤ nl_nz (1 * 2 ^ (nl_nz r1.1).toNat) then some (.inl (9, [some (vO 0 0), some (vI y1), some (vI ((((nl_nz y2).toNat ||| (nl_nz (1 * 2 ^ (nl_nz r1.1).toNat)).toNat : Nat) : Int))), some (vI (y3 + 1)), some (vI r1.1)], nl_up (nl_up r1.2 0 0 2 (nl_nz y3).toNat r1.1) 0 0 5 0 (((nl_up r1.2 0 0 2 (nl_nz y3).toNat r1.1) 0 0 5 0) + 0))) else none else none
            else none
          else none
        else none
      else none) := rfl
set_option maxRecDepth 20000 in
theorem sg_X0_lowestOfLeast_0 (LS : Int) (den : nl_D) (h : nl_H) (x1 : Int) (x2 : Int) (x3 : Int) : nl_ex LS cd_X0_lowestOfLeast den ct_X0_lowestOfLeast 1 400 0 [some (vO 0 0), some (vI x1), some (vI x2), some (vI x3), none] [] h =
  (some (.inl (3, [some (vO 0 0), some (vI x1), some (vI x2), some (vI x3), some (vI 0)], h))) := rfl
set_option maxRecDepth 20000 in
theorem sg_X0_lowestOfLeast_3 (LS : Int) (den : nl_D) (h : nl_H) (y1 : Int) (y2 : Int) (y3 : Int) (y4 : Int) : nl_ex LS cd_X0_lowestOfLeast den ct_X0_lowestOfLeast 1 400 3 [some (vO 0 0), some (vI y1), some (vI y2), some (vI y3), some (vI y4)] [] h =
  (if nl_nz y3 ≤ nl_nz y4 then
    some (.inr (0, h))
  else
    if 0 ≤ nl_nz y4 ∧ nl_nz y4 < 32 then
      if 0 ≤ nl_nz (nl_nz y1 / 2 ^ (nl_nz y4).toNat) ∧ 0 ≤ nl_nz 1 then
        if nl_nz ((((nl_nz (nl_nz y1 / 2 ^ (nl_nz y4).toNat)).toNat &&& (nl_nz 1).toNat : Nat) : Int)) = 0 then
          (den m_X0_priceWith [vO 0 0, vI y1, vI y2, vI y4] h).bind fun r1 =>
            if 0 ≤ nl_nz y1 ∧ nl_nz y1 < 128 then
              if nl_nz r1.1 = nl_nz (r1.2 0 0 1 (nl_nz y1).toNat) then
                some (.inr (y4, r1.2))
              else
                some (.inl (3, [some (vO 0 0), some (vI y1), some (vI y2), some (vI y3), some (vI (y4 + 1))], r1.2))
            else none
        else
          some (.inl (3, [some (vO 0 0), some (vI y1), some (vI y2), some (vI y3), some (vI (y4 + 1))], h))
      else none
    else none) := rfl
set_option maxRecDepth 20000 in
theorem sg_X0_fewestSwaps_0 (LS : Int) (den : nl_D) (h : nl_H) (v : Nat) : nl_ex LS cd_X0_fewestSwaps den ct_X0_fewestSwaps 1 400 0 [some (vO 0 0), some (vO 4 v), none] [] h =
  (some (.inl (2, [some (vO 0 0), some (vO 4 v), some (vI 0)], h))) := rfl
set_option maxRecDepth 20000 in
theorem sg_X0_fewestSwaps_2 (LS : Int) (den : nl_D) (h : nl_H) (v : Nat) (y2 : Int) : nl_ex LS cd_X0_fewestSwaps den ct_X0_fewestSwaps 1 400 2 [some (vO 0 0), some (vO 4 v), some (vI y2)] [] h =
  (if nl_nz (h 4 v 0 0) ≤ nl_nz y2 then
    some (.inl (30, [some (vO 0 0), some (vO 4 v), some (vI 0)], h))
  else
    if 0 ≤ nl_nz y2 ∧ nl_nz y2 < 7 then if 0 ≤ nl_nz y2 ∧ nl_nz y2 < 7 then some (.inl (2, [some (vO 0 0), some (vO 4 v), some (vI (y2 + 1))], nl_up h 0 0 4 (nl_nz y2).toNat (h 4 v 8 (nl_nz y2).toNat))) else none else none) := rfl
set_option maxRecDepth 20000 in
theorem sg_X0_fewestSwaps_30 (LS : Int) (den : nl_D) (h : nl_H) (v : Nat) (y2 : Int) : nl_ex LS cd_X0_fewestSwaps den ct_X0_fewestSwaps 1 400 30 [some (vO 0 0), some (vO 4 v), some (vI y2)] [] h =
  (if nl_nz (h 4 v 0 0) ≤ nl_nz y2 then
    some (.inr ((-4), h))
  else
    (den m_X0_canBridge [vA 0 0 4, vA 0 0 3, vI (h 4 v 0 0), vI 0, vI y2] h).bind fun r1 =>
      if nl_nz r1.1 = 0 then
        some (.inl (30, [some (vO 0 0), some (vO 4 v), some (vI (y2 + 1))], r1.2))
      else
        some (.inr (y2, r1.2))) := rfl
set_option maxRecDepth 20000 in
theorem sg_X0_canBridge_0 (LS : Int) (den : nl_D) (h : nl_H) (x1 : Int) (x2 : Int) (x3 : Int) : nl_ex LS cd_X0_canBridge den ct_X0_canBridge 3 400 0 [some (vA 0 0 4), some (vA 0 0 3), some (vI x1), some (vI x2), some (vI x3), none, none, none] [] h =
  (if nl_nz x2 < nl_nz x1 then
    if nl_nz x3 ≤ 0 then
      some (.inl (24, [some (vA 0 0 4), some (vA 0 0 3), some (vI x1), some (vI x2), some (vI x3), some (vI x2), some (vI x2), none], h))
    else
      some (.inl (24, [some (vA 0 0 4), some (vA 0 0 3), some (vI x1), some (vI x2), some (vI x3), some (vI (x1 - 1)), some (vI x2), none], h))
  else
    some (.inr (1, h))) := rfl
set_option maxRecDepth 20000 in
theorem sg_X0_canBridge_24 (LS : Int) (den : nl_D) (h : nl_H) (y2 : Int) (y3 : Int) (y4 : Int) (y5 : Int) (y6 : Int) (w7 : Option nl_V) : nl_ex LS cd_X0_canBridge den ct_X0_canBridge 3 400 24 [some (vA 0 0 4), some (vA 0 0 3), some (vI y2), some (vI y3), some (vI y4), some (vI y5), some (vI y6), w7] [] h =
  (if nl_nz y5 < nl_nz y6 then
    some (.inr (0, h))
  else
    (den m_X0_exchange [vA 0 0 4, vI y3, vI y6] h).bind fun r1 =>
      if 0 ≤ nl_nz y3 ∧ nl_nz y3 < 7 then
        if 0 ≤ nl_nz y3 ∧ nl_nz y3 < 7 then
          if 0 ≤ nl_nz (r1.2 0 0 4 (nl_nz y3).toNat) ∧ nl_nz (r1.2 0 0 4 (nl_nz y3).toNat) < 32 then
            if 0 ≤ nl_nz (nl_nz (r1.2 0 0 3 (nl_nz y3).toNat) / 2 ^ (nl_nz (r1.2 0 0 4 (nl_nz y3).toNat)).toNat) ∧ 0 ≤ nl_nz 1 then
              if nl_nz ((((nl_nz (nl_nz (r1.2 0 0 3 (nl_nz y3).toNat) / 2 ^ (nl_nz (r1.2 0 0 4 (nl_nz y3).toNat)).toNat)).toNat &&& (nl_nz 1).toNat : Nat) : Int)) = nl_nz 1 then
                if nl_nz y6 = nl_nz y3 then
                  (den m_X0_canBridge [vA 0 0 4, vA 0 0 3, vI y2, vI (y3 + 1), vI y4] r1.2).bind fun r2 =>
                    if nl_nz r2.1 = 0 then
                      (den m_X0_exchange [vA 0 0 4, vI y3, vI y6] r2.2).bind fun r3 =>
                        if nl_nz 0 = 0 then
                          some (.inl (24, [some (vA 0 0 4), some (vA 0 0 3), some (vI y2), some (vI y3), some (vI y4), some (vI y5), some (vI (y6 + 1)), some (vI 0)], r3.2))
                        else
                          some (.inr (1, r3.2))
                    else
                      (den m_X0_exchange [vA 0 0 4, vI y3, vI y6] r2.2).bind fun r4 =>
                        if nl_nz 1 = 0 then
                          some (.inl (24, [some (vA 0 0 4), some (vA 0 0 3), some (vI y2), some (vI y3), some (vI y4), some (vI y5), some (vI (y6 + 1)), some (vI 1)], r4.2))
                        else
                          some (.inr (1, r4.2))
                else
                  (den m_X0_canBridge [vA 0 0 4, vA 0 0 3, vI y2, vI (y3 + 1), vI (y4 - 1)] r1.2).bind fun r5 =>
                    if nl_nz r5.1 = 0 then
                      (den m_X0_exchange [vA 0 0 4, vI y3, vI y6] r5.2).bind fun r6 =>
                        if nl_nz 0 = 0 then
                          some (.inl (24, [some (vA 0 0 4), some (vA 0 0 3), some (vI y2), some (vI y3), some (vI y4), some (vI y5), some (vI (y6 + 1)), some (vI 0)], r6.2))
                        else
                          some (.inr (1, r6.2))
                    else
                      (den m_X0_exchange [vA 0 0 4, vI y3, vI y6] r5.2).bind fun r7 =>
                        if nl_nz 1 = 0 then
                          some (.inl (24, [some (vA 0 0 4), some (vA 0 0 3), some (vI y2), some (vI y3), some (vI y4), some (vI y5), some (vI (y6 + 1)), some (vI 1)], r7.2))
                        else
                          some (.inr (1, r7.2))
              else
                (den m_X0_exchange [vA 0 0 4, vI y3, vI y6] r1.2).bind fun r8 =>
                  if nl_nz 0 = 0 then
                    some (.inl (24, [some (vA 0 0 4), some (vA 0 0 3), some (vI y2), some (vI y3), some (vI y4), some (vI y5), some (vI (y6 + 1)), some (vI 0)], r8.2))
                  else
                    some (.inr (1, r8.2))
            else none
          else none
        else none
      else none) := rfl
set_option maxRecDepth 20000 in
theorem sg_X0_exchange_0 (LS : Int) (den : nl_D) (h : nl_H) (x1 : Int) (x2 : Int) : nl_ex LS cd_X0_exchange den ct_X0_exchange 0 400 0 [some (vA 0 0 4), some (vI x1), some (vI x2), none] [] h =
  (if 0 ≤ nl_nz x1 ∧ nl_nz x1 < 7 then if 0 ≤ nl_nz x2 ∧ nl_nz x2 < 7 then if 0 ≤ nl_nz x1 ∧ nl_nz x1 < 7 then if 0 ≤ nl_nz x2 ∧ nl_nz x2 < 7 then some (.inr (0, nl_up (nl_up h 0 0 4 (nl_nz x1).toNat (h 0 0 4 (nl_nz x2).toNat)) 0 0 4 (nl_nz x2).toNat (h 0 0 4 (nl_nz x1).toNat))) else none else none else none else none) := rfl
set_option maxRecDepth 20000 in
theorem sg_X1_read_0 (LS : Int) (den : nl_D) (h : nl_H) (x1 : Int) : nl_ex LS cd_X1_read den ct_X1_read 0 400 0 [some (vO 1 0), some (vA 5 0 0), some (vI x1), none, none] [] h =
  (some (.inl (17, [some (vO 1 0), some (vA 5 0 0), some (vI x1), some (vI 0), none], nl_up (nl_up (nl_up h 1 0 5 0 0) 1 0 6 0 0) 1 0 7 0 ((-1))))) := rfl
set_option maxRecDepth 20000 in
theorem sg_X1_read_17 (LS : Int) (den : nl_D) (h : nl_H) (y2 : Int) (y3 : Int) (w4 : Option nl_V) : nl_ex LS cd_X1_read den ct_X1_read 0 400 17 [some (vO 1 0), some (vA 5 0 0), some (vI y2), some (vI y3), w4] [] h =
  (if nl_nz y2 ≤ nl_nz y3 then
    some (.inr (0, h))
  else
    (den m_X1_readItem [vO 1 0, vA 5 0 0, vI y2, vI y3] h).bind fun r1 =>
      if nl_nz y3 < nl_nz r1.1 then
        some (.inl (17, [some (vO 1 0), some (vA 5 0 0), some (vI y2), some (vI r1.1), some (vI r1.1)], r1.2))
      else
        some (.inr (0, nl_up r1.2 1 0 7 0 y3))) := rfl
set_option maxRecDepth 20000 in
theorem sg_X1_canBeLaid_0 (LS : Int) (den : nl_D) (h : nl_H)  : nl_ex LS cd_X1_canBeLaid den ct_X1_canBeLaid 3 400 0 [some (vO 1 0)] [] h =
  (if nl_nz (h 1 0 7 0) = nl_nz ((-1)) then
    if nl_nz (h 1 0 5 0) < nl_nz 2 then
      some (.inr (0, h))
    else
      if nl_nz (h 1 0 5 0) = nl_nz (h 1 0 6 0) then
        some (.inr (1, h))
      else
        some (.inr (0, h))
  else
    some (.inr (0, h))) := rfl
set_option maxRecDepth 20000 in
theorem sg_X1_readItem_0 (LS : Int) (den : nl_D) (h : nl_H) (x1 : Int) (x2 : Int) : nl_ex LS cd_X1_readItem den ct_X1_readItem 1 400 0 [some (vO 1 0), some (vA 5 0 0), some (vI x1), some (vI x2), none, none, none, none, none, none] [] h =
  (if 0 ≤ nl_nz x2 ∧ nl_nz x2 < 200 then
    if nl_nz (h 5 0 0 (nl_nz x2).toNat) = nl_nz 110 then
      if nl_nz 1 = 0 then
        if 0 ≤ nl_nz x2 ∧ nl_nz x2 < 200 then
          if nl_nz (h 5 0 0 (nl_nz x2).toNat) = nl_nz 104 then
            if nl_nz 1 = 0 then
              some (.inl (50, [some (vO 1 0), some (vA 5 0 0), some (vI x1), some (vI x2), some (vI 1), some (vI 3), some (vI (x2 + 1)), some (vI 0), none, none], h))
            else
              some (.inl (50, [some (vO 1 0), some (vA 5 0 0), some (vI x1), some (vI x2), some (vI 1), some (vI 1), some (vI (x2 + 1)), some (vI 0), none, none], h))
          else
            some (.inr ((-1), h))
        else none
      else
        if nl_nz 1 = 0 then
          some (.inl (50, [some (vO 1 0), some (vA 5 0 0), some (vI x1), some (vI x2), some (vI 1), some (vI 3), some (vI (x2 + 1)), some (vI 0), none, none], h))
        else
          some (.inl (50, [some (vO 1 0), some (vA 5 0 0), some (vI x1), some (vI x2), some (vI 1), some (vI 1), some (vI (x2 + 1)), some (vI 0), none, none], h))
    else
      if nl_nz 0 = 0 then
        if 0 ≤ nl_nz x2 ∧ nl_nz x2 < 200 then
          if nl_nz (h 5 0 0 (nl_nz x2).toNat) = nl_nz 104 then
            if nl_nz 0 = 0 then
              some (.inl (50, [some (vO 1 0), some (vA 5 0 0), some (vI x1), some (vI x2), some (vI 0), some (vI 3), some (vI (x2 + 1)), some (vI 0), none, none], h))
            else
              some (.inl (50, [some (vO 1 0), some (vA 5 0 0), some (vI x1), some (vI x2), some (vI 0), some (vI 1), some (vI (x2 + 1)), some (vI 0), none, none], h))
          else
            some (.inr ((-1), h))
        else none
      else
        if nl_nz 0 = 0 then
          some (.inl (50, [some (vO 1 0), some (vA 5 0 0), some (vI x1), some (vI x2), some (vI 0), some (vI 3), some (vI (x2 + 1)), some (vI 0), none, none], h))
        else
          some (.inl (50, [some (vO 1 0), some (vA 5 0 0), some (vI x1), some (vI x2), some (vI 0), some (vI 1), some (vI (x2 + 1)), some (vI 0), none, none], h))
  else none) := rfl
set_option maxRecDepth 20000 in
theorem sg_X1_readItem_50 (LS : Int) (den : nl_D) (h : nl_H) (y2 : Int) (y3 : Int) (y4 : Int) (y5 : Int) (y6 : Int) (y7 : Int) (w8 : Option nl_V) (w9 : Option nl_V) : nl_ex LS cd_X1_readItem den ct_X1_readItem 1 400 50 [some (vO 1 0), some (vA 5 0 0), some (vI y2), some (vI y3), some (vI y4), some (vI y5), some (vI y6), some (vI y7), w8, w9] [] h =
  (if nl_nz y5 ≤ nl_nz y7 then
    if nl_nz y4 = 0 then
      (den m_X1_addHouse [vO 1 0] h).bind fun r1 =>
        if nl_nz r1.1 = 0 then
          some (.inr ((-1), r1.2))
        else
          some (.inr (y6, r1.2))
    else
      (den m_X1_addHour [vO 1 0] h).bind fun r2 =>
        if nl_nz r2.1 = 0 then
          some (.inr ((-1), r2.2))
        else
          some (.inr (y6, r2.2))
  else
    (den m_X1_readNumber [vO 1 0, vA 5 0 0, vI y2, vI y6, vI y7] h).bind fun r3 =>
      if nl_nz y7 = nl_nz (y5 - 1) then
        if nl_nz r3.1 ≤ nl_nz y6 then
          some (.inr ((-1), r3.2))
        else
          if nl_nz y2 ≤ nl_nz r3.1 then
            some (.inr ((-1), r3.2))
          else
            if 0 ≤ nl_nz r3.1 ∧ nl_nz r3.1 < 200 then
              if nl_nz (r3.2 5 0 0 (nl_nz r3.1).toNat) = nl_nz 59 then
                some (.inl (50, [some (vO 1 0), some (vA 5 0 0), some (vI y2), some (vI y3), some (vI y4), some (vI y5), some (vI (r3.1 + 1)), some (vI (y7 + 1)), some (vI r3.1), some (vI 59)], r3.2))
              else
                some (.inr ((-1), r3.2))
            else none
      else
        if nl_nz r3.1 ≤ nl_nz y6 then
          some (.inr ((-1), r3.2))
        else
          if nl_nz y2 ≤ nl_nz r3.1 then
            some (.inr ((-1), r3.2))
          else
            if 0 ≤ nl_nz r3.1 ∧ nl_nz r3.1 < 200 then
              if nl_nz (r3.2 5 0 0 (nl_nz r3.1).toNat) = nl_nz 44 then
                some (.inl (50, [some (vO 1 0), some (vA 5 0 0), some (vI y2), some (vI y3), some (vI y4), some (vI y5), some (vI (r3.1 + 1)), some (vI (y7 + 1)), some (vI r3.1), some (vI 44)], r3.2))
              else
                some (.inr ((-1), r3.2))
            else none) := rfl
set_option maxRecDepth 20000 in
theorem sg_X1_readNumber_0 (LS : Int) (den : nl_D) (h : nl_H) (x1 : Int) (x2 : Int) (x3 : Int) : nl_ex LS cd_X1_readNumber den ct_X1_readNumber 1 400 0 [some (vO 1 0), some (vA 5 0 0), some (vI x1), some (vI x2), some (vI x3), none, none] [] h =
  (some (.inl (6, [some (vO 1 0), some (vA 5 0 0), some (vI x1), some (vI x2), some (vI x3), some (vI 0), some (vI x2)], h))) := rfl
set_option maxRecDepth 20000 in
theorem sg_X1_readNumber_6 (LS : Int) (den : nl_D) (h : nl_H) (y2 : Int) (y3 : Int) (y4 : Int) (y5 : Int) (y6 : Int) : nl_ex LS cd_X1_readNumber den ct_X1_readNumber 1 400 6 [some (vO 1 0), some (vA 5 0 0), some (vI y2), some (vI y3), some (vI y4), some (vI y5), some (vI y6)] [] h =
  (if nl_nz y2 ≤ nl_nz y6 then
    if 0 ≤ nl_nz y4 ∧ nl_nz y4 < 3 then some (.inr (y6, nl_up h 1 0 4 (nl_nz y4).toNat y5)) else none
  else
    if nl_nz (y3 + 2) ≤ nl_nz y6 then
      if 0 ≤ nl_nz y4 ∧ nl_nz y4 < 3 then some (.inr (y6, nl_up h 1 0 4 (nl_nz y4).toNat y5)) else none
    else
      if 0 ≤ nl_nz y6 ∧ nl_nz y6 < 200 then
        (den m_X5_isWithin [vI (h 5 0 0 (nl_nz y6).toNat), vI 48, vI 57] h).bind fun r1 =>
          if nl_nz r1.1 = 0 then
            if 0 ≤ nl_nz y4 ∧ nl_nz y4 < 3 then some (.inr (y6, nl_up r1.2 1 0 4 (nl_nz y4).toNat y5)) else none
          else
            if 0 ≤ nl_nz y6 ∧ nl_nz y6 < 200 then some (.inl (6, [some (vO 1 0), some (vA 5 0 0), some (vI y2), some (vI y3), some (vI y4), some (vI (((y5 * 10) + (r1.2 5 0 0 (nl_nz y6).toNat)) - 48)), some (vI (y6 + 1))], r1.2)) else none
      else none) := rfl
set_option maxRecDepth 20000 in
theorem sg_X1_addHour_0 (LS : Int) (den : nl_D) (h : nl_H)  : nl_ex LS cd_X1_addHour den ct_X1_addHour 3 400 0 [some (vO 1 0)] [] h =
  (if nl_nz 7 ≤ nl_nz (h 1 0 5 0) then
    some (.inr (0, h))
  else
    if 0 ≤ nl_nz 0 ∧ nl_nz 0 < 3 then
      if nl_nz (h 1 0 4 (nl_nz 0).toNat) ≤ nl_nz 20 then
        if 0 ≤ nl_nz 0 ∧ nl_nz 0 < 3 then if 0 ≤ nl_nz (h 1 0 5 0) ∧ nl_nz (h 1 0 5 0) < 7 then some (.inr (1, nl_up (nl_up h 1 0 0 (nl_nz (h 1 0 5 0)).toNat (h 1 0 4 (nl_nz 0).toNat)) 1 0 5 0 (((nl_up h 1 0 0 (nl_nz (h 1 0 5 0)).toNat (h 1 0 4 (nl_nz 0).toNat)) 1 0 5 0) + 1))) else none else none
      else
        some (.inr (0, h))
    else none) := rfl
set_option maxRecDepth 20000 in
theorem sg_X1_addHouse_0 (LS : Int) (den : nl_D) (h : nl_H)  : nl_ex LS cd_X1_addHouse den ct_X1_addHouse 3 400 0 [some (vO 1 0)] [] h =
  (if nl_nz (h 1 0 5 0) ≤ nl_nz (h 1 0 6 0) then
    some (.inr (0, h))
  else
    if 0 ≤ nl_nz 0 ∧ nl_nz 0 < 3 then
      if nl_nz 3 < nl_nz (h 1 0 4 (nl_nz 0).toNat) then
        some (.inr (0, h))
      else
        if 0 ≤ nl_nz 1 ∧ nl_nz 1 < 3 then
          if nl_nz 40 < nl_nz (h 1 0 4 (nl_nz 1).toNat) then
            some (.inr (0, h))
          else
            if 0 ≤ nl_nz 2 ∧ nl_nz 2 < 3 then
              if nl_nz (h 1 0 4 (nl_nz 2).toNat) ≤ nl_nz 99 then
                if 0 ≤ nl_nz 0 ∧ nl_nz 0 < 3 then if 0 ≤ nl_nz (h 1 0 6 0) ∧ nl_nz (h 1 0 6 0) < 7 then if 0 ≤ nl_nz 1 ∧ nl_nz 1 < 3 then if 0 ≤ nl_nz ((nl_up h 1 0 1 (nl_nz (h 1 0 6 0)).toNat (h 1 0 4 (nl_nz 0).toNat)) 1 0 6 0) ∧ nl_nz ((nl_up h 1 0 1 (nl_nz (h 1 0 6 0)).toNat (h 1 0 4 (nl_nz 0).toNat)) 1 0 6 0) < 7 then if 0 ≤ nl_nz 2 ∧ nl_nz 2 < 3 then if 0 ≤ nl_nz ((nl_up (nl_up h 1 0 1 (nl_nz (h 1 0 6 0)).toNat (h 1 0 4 (nl_nz 0).toNat)) 1 0 2 (nl_nz ((nl_up h 1 0 1 (nl_nz (h 1 0 6 0)).toNat (h 1 0 4 (nl_nz 0).toNat)) 1 0 6 0)).toNat ((nl_up h 1 0 1 (nl_nz (h 1 0 6 0)).toNat (h 1 0 4 (nl_nz 0).toNat)) 1 0 4 (nl_nz 1).toNat)) 1 0 6 0) ∧ nl_nz ((nl_up (nl_up h 1 0 1 (nl_nz (h 1 0 6 0)).toNat (h 1 0 4 (nl_nz 0).toNat)) 1 0 2 (nl_nz ((nl_up h 1 0 1 (nl_nz (h 1 0 6 0)).toNat (h 1 0 4 (nl_nz 0).toNat)) 1 0 6 0)).toNat ((nl_up h 1 0 1 (nl_nz (h 1 0 6 0)).toNat (h 1 0 4 (nl_nz 0).toNat)) 1 0 4 (nl_nz 1).toNat)) 1 0 6 0) < 7 then some (.inr (1, nl_up (nl_up (nl_up (nl_up h 1 0 1 (nl_nz (h 1 0 6 0)).toNat (h 1 0 4 (nl_nz 0).toNat)) 1 0 2 (nl_nz ((nl_up h 1 0 1 (nl_nz (h 1 0 6 0)).toNat (h 1 0 4 (nl_nz 0).toNat)) 1 0 6 0)).toNat ((nl_up h 1 0 1 (nl_nz (h 1 0 6 0)).toNat (h 1 0 4 (nl_nz 0).toNat)) 1 0 4 (nl_nz 1).toNat)) 1 0 3 (nl_nz ((nl_up (nl_up h 1 0 1 (nl_nz (h 1 0 6 0)).toNat (h 1 0 4 (nl_nz 0).toNat)) 1 0 2 (nl_nz ((nl_up h 1 0 1 (nl_nz (h 1 0 6 0)).toNat (h 1 0 4 (nl_nz 0).toNat)) 1 0 6 0)).toNat ((nl_up h 1 0 1 (nl_nz (h 1 0 6 0)).toNat (h 1 0 4 (nl_nz 0).toNat)) 1 0 4 (nl_nz 1).toNat)) 1 0 6 0)).toNat ((nl_up (nl_up h 1 0 1 (nl_nz (h 1 0 6 0)).toNat (h 1 0 4 (nl_nz 0).toNat)) 1 0 2 (nl_nz ((nl_up h 1 0 1 (nl_nz (h 1 0 6 0)).toNat (h 1 0 4 (nl_nz 0).toNat)) 1 0 6 0)).toNat ((nl_up h 1 0 1 (nl_nz (h 1 0 6 0)).toNat (h 1 0 4 (nl_nz 0).toNat)) 1 0 4 (nl_nz 1).toNat)) 1 0 4 (nl_nz 2).toNat)) 1 0 6 0 (((nl_up (nl_up (nl_up h 1 0 1 (nl_nz (h 1 0 6 0)).toNat (h 1 0 4 (nl_nz 0).toNat)) 1 0 2 (nl_nz ((nl_up h 1 0 1 (nl_nz (h 1 0 6 0)).toNat (h 1 0 4 (nl_nz 0).toNat)) 1 0 6 0)).toNat ((nl_up h 1 0 1 (nl_nz (h 1 0 6 0)).toNat (h 1 0 4 (nl_nz 0).toNat)) 1 0 4 (nl_nz 1).toNat)) 1 0 3 (nl_nz ((nl_up (nl_up h 1 0 1 (nl_nz (h 1 0 6 0)).toNat (h 1 0 4 (nl_nz 0).toNat)) 1 0 2 (nl_nz ((nl_up h 1 0 1 (nl_nz (h 1 0 6 0)).toNat (h 1 0 4 (nl_nz 0).toNat)) 1 0 6 0)).toNat ((nl_up h 1 0 1 (nl_nz (h 1 0 6 0)).toNat (h 1 0 4 (nl_nz 0).toNat)) 1 0 4 (nl_nz 1).toNat)) 1 0 6 0)).toNat ((nl_up (nl_up h 1 0 1 (nl_nz (h 1 0 6 0)).toNat (h 1 0 4 (nl_nz 0).toNat)) 1 0 2 (nl_nz ((nl_up h 1 0 1 (nl_nz (h 1 0 6 0)).toNat (h 1 0 4 (nl_nz 0).toNat)) 1 0 6 0)).toNat ((nl_up h 1 0 1 (nl_nz (h 1 0 6 0)).toNat (h 1 0 4 (nl_nz 0).toNat)) 1 0 4 (nl_nz 1).toNat)) 1 0 4 (nl_nz 2).toNat)) 1 0 6 0) + 1))) else none else none else none else none else none else none
              else
                some (.inr (0, h))
            else none
        else none
    else none) := rfl
set_option maxRecDepth 20000 in
theorem sg_X2_clear_0 (LS : Int) (den : nl_D) (h : nl_H) (o : Nat) : nl_ex LS cd_X2_clear den ct_X2_clear 0 400 0 [some (vO 2 o)] [] h =
  (some (.inr (0, nl_up h 2 o 1 0 0))) := rfl
set_option maxRecDepth 20000 in
theorem sg_X2_put_0 (LS : Int) (den : nl_D) (h : nl_H) (o : Nat) (v : Nat) : nl_ex LS cd_X2_put den ct_X2_put 0 400 0 [some (vO 2 o), some (vO 4 v)] [] h =
  (if nl_nz (h 2 o 1 0) < nl_nz (nl_al LS 2 o 0) then
    if (0 ≤ nl_nz (h 2 o 1 0) ∧ nl_nz (h 2 o 1 0) < nl_al LS 2 o 0) ∧ (h 2 o 0 (nl_nz (h 2 o 1 0)).toNat).toNat < 12 then
      (den m_X4_copyFrom [vO 4 ((h 2 o 0 (nl_nz (h 2 o 1 0)).toNat).toNat), vO 4 v] h).bind fun r1 =>
        some (.inr (0, nl_up r1.2 2 o 1 0 ((r1.2 2 o 1 0) + 1)))
    else none
  else
    (den m_X2_dropOldest [vO 2 o] h).bind fun r2 =>
      if (0 ≤ nl_nz (r2.2 2 o 1 0) ∧ nl_nz (r2.2 2 o 1 0) < nl_al LS 2 o 0) ∧ (r2.2 2 o 0 (nl_nz (r2.2 2 o 1 0)).toNat).toNat < 12 then
        (den m_X4_copyFrom [vO 4 ((r2.2 2 o 0 (nl_nz (r2.2 2 o 1 0)).toNat).toNat), vO 4 v] r2.2).bind fun r3 =>
          some (.inr (0, nl_up r3.2 2 o 1 0 ((r3.2 2 o 1 0) + 1)))
      else none) := rfl
set_option maxRecDepth 20000 in
theorem sg_X2_dropOldest_0 (LS : Int) (den : nl_D) (h : nl_H) (o : Nat) : nl_ex LS cd_X2_dropOldest den ct_X2_dropOldest 0 400 0 [some (vO 2 o), none, none] [] h =
  (if (0 ≤ nl_nz 0 ∧ nl_nz 0 < nl_al LS 2 o 0) ∧ (h 2 o 0 (nl_nz 0).toNat).toNat < 12 then some (.inl (9, [some (vO 2 o), some (vO 4 ((h 2 o 0 (nl_nz 0).toNat).toNat)), some (vI 1)], h)) else none) := rfl
set_option maxRecDepth 20000 in
theorem sg_X2_dropOldest_9 (LS : Int) (den : nl_D) (h : nl_H) (o : Nat) (q1 : Nat) (y2 : Int) : nl_ex LS cd_X2_dropOldest den ct_X2_dropOldest 0 400 9 [some (vO 2 o), some (vO 4 q1), some (vI y2)] [] h =
  (if nl_nz (nl_al LS 2 o 0) ≤ nl_nz y2 then
    if 0 ≤ nl_nz ((nl_al LS 2 o 0) - 1) ∧ nl_nz ((nl_al LS 2 o 0) - 1) < nl_al LS 2 o 0 then some (.inr (0, nl_up (nl_up h 2 o 0 (nl_nz ((nl_al LS 2 o 0) - 1)).toNat (q1 : Nat)) 2 o 1 0 ((nl_al LS 2 o 0) - 1))) else none
  else
    if (0 ≤ nl_nz y2 ∧ nl_nz y2 < nl_al LS 2 o 0) ∧ (h 2 o 0 (nl_nz y2).toNat).toNat < 12 then if 0 ≤ nl_nz (y2 - 1) ∧ nl_nz (y2 - 1) < nl_al LS 2 o 0 then some (.inl (9, [some (vO 2 o), some (vO 4 q1), some (vI (y2 + 1))], nl_up h 2 o 0 (nl_nz (y2 - 1)).toNat ((h 2 o 0 (nl_nz y2).toNat).toNat : Nat))) else none else none) := rfl
set_option maxRecDepth 20000 in
theorem sg_X2_takeInto_0 (LS : Int) (den : nl_D) (h : nl_H) (o : Nat) (v : Nat) : nl_ex LS cd_X2_takeInto den ct_X2_takeInto 3 400 0 [some (vO 2 o), some (vO 4 v)] [] h =
  (if nl_nz 1 ≤ nl_nz (h 2 o 1 0) then
    if (0 ≤ nl_nz ((nl_up h 2 o 1 0 ((h 2 o 1 0) - 1)) 2 o 1 0) ∧ nl_nz ((nl_up h 2 o 1 0 ((h 2 o 1 0) - 1)) 2 o 1 0) < nl_al LS 2 o 0) ∧ ((nl_up h 2 o 1 0 ((h 2 o 1 0) - 1)) 2 o 0 (nl_nz ((nl_up h 2 o 1 0 ((h 2 o 1 0) - 1)) 2 o 1 0)).toNat).toNat < 12 then
      (den m_X4_copyFrom [vO 4 v, vO 4 (((nl_up h 2 o 1 0 ((h 2 o 1 0) - 1)) 2 o 0 (nl_nz ((nl_up h 2 o 1 0 ((h 2 o 1 0) - 1)) 2 o 1 0)).toNat).toNat)] (nl_up h 2 o 1 0 ((h 2 o 1 0) - 1))).bind fun r1 =>
        some (.inr (1, r1.2))
    else none
  else
    some (.inr (0, h))) := rfl
set_option maxRecDepth 20000 in
theorem sg_X3_clear_0 (LS : Int) (den : nl_D) (h : nl_H)  : nl_ex LS cd_X3_clear den ct_X3_clear 0 400 0 [some (vO 3 0)] [] h =
  (some (.inr (0, nl_up h 3 0 3 0 0))) := rfl
set_option maxRecDepth 20000 in
theorem sg_X3_add_0 (LS : Int) (den : nl_D) (h : nl_H) (x1 : Int) (x2 : Int) (x3 : Int) : nl_ex LS cd_X3_add den ct_X3_add 0 400 0 [some (vO 3 0), some (vI x1), some (vI x2), some (vI x3)] [] h =
  (if nl_nz 6 ≤ nl_nz (h 3 0 3 0) then
    some (.inr (0, h))
  else
    if 0 ≤ nl_nz (h 3 0 3 0) ∧ nl_nz (h 3 0 3 0) < 6 then if 0 ≤ nl_nz ((nl_up h 3 0 0 (nl_nz (h 3 0 3 0)).toNat x1) 3 0 3 0) ∧ nl_nz ((nl_up h 3 0 0 (nl_nz (h 3 0 3 0)).toNat x1) 3 0 3 0) < 6 then if (0 ≤ nl_nz ((nl_up (nl_up h 3 0 0 (nl_nz (h 3 0 3 0)).toNat x1) 3 0 1 (nl_nz ((nl_up h 3 0 0 (nl_nz (h 3 0 3 0)).toNat x1) 3 0 3 0)).toNat x2) 3 0 3 0) ∧ nl_nz ((nl_up (nl_up h 3 0 0 (nl_nz (h 3 0 3 0)).toNat x1) 3 0 1 (nl_nz ((nl_up h 3 0 0 (nl_nz (h 3 0 3 0)).toNat x1) 3 0 3 0)).toNat x2) 3 0 3 0) < 6) ∧ (x3 = 0 ∨ x3 = 1) then some (.inr (0, nl_up (nl_up (nl_up (nl_up h 3 0 0 (nl_nz (h 3 0 3 0)).toNat x1) 3 0 1 (nl_nz ((nl_up h 3 0 0 (nl_nz (h 3 0 3 0)).toNat x1) 3 0 3 0)).toNat x2) 3 0 2 (nl_nz ((nl_up (nl_up h 3 0 0 (nl_nz (h 3 0 3 0)).toNat x1) 3 0 1 (nl_nz ((nl_up h 3 0 0 (nl_nz (h 3 0 3 0)).toNat x1) 3 0 3 0)).toNat x2) 3 0 3 0)).toNat x3) 3 0 3 0 (((nl_up (nl_up (nl_up h 3 0 0 (nl_nz (h 3 0 3 0)).toNat x1) 3 0 1 (nl_nz ((nl_up h 3 0 0 (nl_nz (h 3 0 3 0)).toNat x1) 3 0 3 0)).toNat x2) 3 0 2 (nl_nz ((nl_up (nl_up h 3 0 0 (nl_nz (h 3 0 3 0)).toNat x1) 3 0 1 (nl_nz ((nl_up h 3 0 0 (nl_nz (h 3 0 3 0)).toNat x1) 3 0 3 0)).toNat x2) 3 0 3 0)).toNat x3) 3 0 3 0) + 1))) else none else none else none) := rfl
set_option maxRecDepth 20000 in
theorem sg_X3_lastNight_0 (LS : Int) (den : nl_D) (h : nl_H)  : nl_ex LS cd_X3_lastNight den ct_X3_lastNight 1 400 0 [some (vO 3 0), none, none] [] h =
  (some (.inl (4, [some (vO 3 0), some (vI ((-1))), some (vI 0)], h))) := rfl
set_option maxRecDepth 20000 in
theorem sg_X3_lastNight_4 (LS : Int) (den : nl_D) (h : nl_H) (y1 : Int) (y2 : Int) : nl_ex LS cd_X3_lastNight den ct_X3_lastNight 1 400 4 [some (vO 3 0), some (vI y1), some (vI y2)] [] h =
  (if nl_nz (h 3 0 3 0) ≤ nl_nz y2 then
    some (.inr (y1, h))
  else
    if 0 ≤ nl_nz y2 ∧ nl_nz y2 < 6 then some (.inl (4, [some (vO 3 0), some (vI (if nl_nz y1 < nl_nz (h 3 0 0 (nl_nz y2).toNat) then h 3 0 0 (nl_nz y2).toNat else y1)), some (vI (y2 + 1))], h)) else none) := rfl
set_option maxRecDepth 20000 in
theorem sg_X3_fit_0 (LS : Int) (den : nl_D) (h : nl_H) (v : Nat) (x1 : Int) : nl_ex LS cd_X3_fit den ct_X3_fit 3 400 0 [some (vO 3 0), some (vO 4 v), some (vI x1), none] [] h =
  (some (.inl (2, [some (vO 3 0), some (vO 4 v), some (vI x1), some (vI 0)], h))) := rfl
set_option maxRecDepth 20000 in
theorem sg_X3_fit_2 (LS : Int) (den : nl_D) (h : nl_H) (v : Nat) (y2 : Int) (y3 : Int) : nl_ex LS cd_X3_fit den ct_X3_fit 3 400 2 [some (vO 3 0), some (vO 4 v), some (vI y2), some (vI y3)] [] h =
  (if nl_nz (h 3 0 3 0) ≤ nl_nz y3 then
    some (.inr (1, h))
  else
    if 0 ≤ nl_nz y3 ∧ nl_nz y3 < 6 then
      if nl_nz (h 3 0 0 (nl_nz y3).toNat) = nl_nz y2 then
        if 0 ≤ nl_nz y3 ∧ nl_nz y3 < 6 then
          (den m_X4_isGapAt [vO 4 v, vI (h 3 0 1 (nl_nz y3).toNat)] h).bind fun r1 =>
            if 0 ≤ nl_nz y3 ∧ nl_nz y3 < 6 then
              if nl_nz r1.1 = nl_nz (r1.2 3 0 2 (nl_nz y3).toNat) then
                some (.inl (2, [some (vO 3 0), some (vO 4 v), some (vI y2), some (vI (y3 + 1))], r1.2))
              else
                some (.inr (0, r1.2))
            else none
        else none
      else
        some (.inl (2, [some (vO 3 0), some (vO 4 v), some (vI y2), some (vI (y3 + 1))], h))
    else none) := rfl
set_option maxRecDepth 20000 in
theorem sg_J6_bitCount_0f7a4_0 (LS : Int) (den : nl_D) (h : nl_H) (x1 : Int) : nl_ex LS cd_J6_bitCount_0f7a4 den ct_J6_bitCount_0f7a4 1 400 0 [some (vI x1)] [] h =
  (if (0 ≤ nl_nz 1 ∧ nl_nz 1 < 32) ∧ 0 ≤ nl_nz x1 then if 0 ≤ nl_nz (nl_nz x1 / 2 ^ (nl_nz 1).toNat) ∧ 0 ≤ nl_nz 1431655765 then if 0 ≤ nl_nz (x1 - ((((nl_nz (nl_nz x1 / 2 ^ (nl_nz 1).toNat)).toNat &&& (nl_nz 1431655765).toNat : Nat) : Int))) ∧ 0 ≤ nl_nz 858993459 then if (0 ≤ nl_nz 2 ∧ nl_nz 2 < 32) ∧ 0 ≤ nl_nz (x1 - ((((nl_nz (nl_nz x1 / 2 ^ (nl_nz 1).toNat)).toNat &&& (nl_nz 1431655765).toNat : Nat) : Int))) then if 0 ≤ nl_nz (nl_nz (x1 - ((((nl_nz (nl_nz x1 / 2 ^ (nl_nz 1).toNat)).toNat &&& (nl_nz 1431655765).toNat : Nat) : Int))) / 2 ^ (nl_nz 2).toNat) ∧ 0 ≤ nl_nz 858993459 then if (0 ≤ nl_nz 4 ∧ nl_nz 4 < 32) ∧ 0 ≤ nl_nz (((((nl_nz (x1 - ((((nl_nz (nl_nz x1 / 2 ^ (nl_nz 1).toNat)).toNat &&& (nl_nz 1431655765).toNat : Nat) : Int)))).toNat &&& (nl_nz 858993459).toNat : Nat) : Int)) + ((((nl_nz (nl_nz (x1 - ((((nl_nz (nl_nz x1 / 2 ^ (nl_nz 1).toNat)).toNat &&& (nl_nz 1431655765).toNat : Nat) : Int))) / 2 ^ (nl_nz 2).toNat)).toNat &&& (nl_nz 858993459).toNat : Nat) : Int))) then if 0 ≤ nl_nz ((((((nl_nz (x1 - ((((nl_nz (nl_nz x1 / 2 ^ (nl_nz 1).toNat)).toNat &&& (nl_nz 1431655765).toNat : Nat) : Int)))).toNat &&& (nl_nz 858993459).toNat : Nat) : Int)) + ((((nl_nz (nl_nz (x1 - ((((nl_nz (nl_nz x1 / 2 ^ (nl_nz 1).toNat)).toNat &&& (nl_nz 1431655765).toNat : Nat) : Int))) / 2 ^ (nl_nz 2).toNat)).toNat &&& (nl_nz 858993459).toNat : Nat) : Int))) + (nl_nz (((((nl_nz (x1 - ((((nl_nz (nl_nz x1 / 2 ^ (nl_nz 1).toNat)).toNat &&& (nl_nz 1431655765).toNat : Nat) : Int)))).toNat &&& (nl_nz 858993459).toNat : Nat) : Int)) + ((((nl_nz (nl_nz (x1 - ((((nl_nz (nl_nz x1 / 2 ^ (nl_nz 1).toNat)).toNat &&& (nl_nz 1431655765).toNat : Nat) : Int))) / 2 ^ (nl_nz 2).toNat)).toNat &&& (nl_nz 858993459).toNat : Nat) : Int))) / 2 ^ (nl_nz 4).toNat)) ∧ 0 ≤ nl_nz 252645135 then if (0 ≤ nl_nz 8 ∧ nl_nz 8 < 32) ∧ 0 ≤ nl_nz ((((nl_nz ((((((nl_nz (x1 - ((((nl_nz (nl_nz x1 / 2 ^ (nl_nz 1).toNat)).toNat &&& (nl_nz 1431655765).toNat : Nat) : Int)))).toNat &&& (nl_nz 858993459).toNat : Nat) : Int)) + ((((nl_nz (nl_nz (x1 - ((((nl_nz (nl_nz x1 / 2 ^ (nl_nz 1).toNat)).toNat &&& (nl_nz 1431655765).toNat : Nat) : Int))) / 2 ^ (nl_nz 2).toNat)).toNat &&& (nl_nz 858993459).toNat : Nat) : Int))) + (nl_nz (((((nl_nz (x1 - ((((nl_nz (nl_nz x1 / 2 ^ (nl_nz 1).toNat)).toNat &&& (nl_nz 1431655765).toNat : Nat) : Int)))).toNat &&& (nl_nz 858993459).toNat : Nat) : Int)) + ((((nl_nz (nl_nz (x1 - ((((nl_nz (nl_nz x1 / 2 ^ (nl_nz 1).toNat)).toNat &&& (nl_nz 1431655765).toNat : Nat) : Int))) / 2 ^ (nl_nz 2).toNat)).toNat &&& (nl_nz 858993459).toNat : Nat) : Int))) / 2 ^ (nl_nz 4).toNat))).toNat &&& (nl_nz 252645135).toNat : Nat) : Int)) then if (0 ≤ nl_nz 16 ∧ nl_nz 16 < 32) ∧ 0 ≤ nl_nz (((((nl_nz ((((((nl_nz (x1 - ((((nl_nz (nl_nz x1 / 2 ^ (nl_nz 1).toNat)).toNat &&& (nl_nz 1431655765).toNat : Nat) : Int)))).toNat &&& (nl_nz 858993459).toNat : Nat) : Int)) + ((((nl_nz (nl_nz (x1 - ((((nl_nz (nl_nz x1 / 2 ^ (nl_nz 1).toNat)).toNat &&& (nl_nz 1431655765).toNat : Nat) : Int))) / 2 ^ (nl_nz 2).toNat)).toNat &&& (nl_nz 858993459).toNat : Nat) : Int))) + (nl_nz (((((nl_nz (x1 - ((((nl_nz (nl_nz x1 / 2 ^ (nl_nz 1).toNat)).toNat &&& (nl_nz 1431655765).toNat : Nat) : Int)))).toNat &&& (nl_nz 858993459).toNat : Nat) : Int)) + ((((nl_nz (nl_nz (x1 - ((((nl_nz (nl_nz x1 / 2 ^ (nl_nz 1).toNat)).toNat &&& (nl_nz 1431655765).toNat : Nat) : Int))) / 2 ^ (nl_nz 2).toNat)).toNat &&& (nl_nz 858993459).toNat : Nat) : Int))) / 2 ^ (nl_nz 4).toNat))).toNat &&& (nl_nz 252645135).toNat : Nat) : Int)) + (nl_nz ((((nl_nz ((((((nl_nz (x1 - ((((nl_nz (nl_nz x1 / 2 ^ (nl_nz 1).toNat)).toNat &&& (nl_nz 1431655765).toNat : Nat) : Int)))).toNat &&& (nl_nz 858993459).toNat : Nat) : Int)) + ((((nl_nz (nl_nz (x1 - ((((nl_nz (nl_nz x1 / 2 ^ (nl_nz 1).toNat)).toNat &&& (nl_nz 1431655765).toNat : Nat) : Int))) / 2 ^ (nl_nz 2).toNat)).toNat &&& (nl_nz 858993459).toNat : Nat) : Int))) + (nl_nz (((((nl_nz (x1 - ((((nl_nz (nl_nz x1 / 2 ^ (nl_nz 1).toNat)).toNat &&& (nl_nz 1431655765).toNat : Nat) : Int)))).toNat &&& (nl_nz 858993459).toNat : Nat) : Int)) + ((((nl_nz (nl_nz (x1 - ((((nl_nz (nl_nz x1 / 2 ^ (nl_nz 1).toNat)).toNat &&& (nl_nz 1431655765).toNat : Nat) : Int))) / 2 ^ (nl_nz 2).toNat)).toNat &&& (nl_nz 858993459).toNat : Nat) : Int))) / 2 ^ (nl_nz 4).toNat))).toNat &&& (nl_nz 252645135).toNat : Nat) : Int)) / 2 ^ (nl_nz 8).toNat)) then if 0 ≤ nl_nz ((((((nl_nz ((((((nl_nz (x1 - ((((nl_nz (nl_nz x1 / 2 ^ (nl_nz 1).toNat)).toNat &&& (nl_nz 1431655765).toNat : Nat) : Int)))).toNat &&& (nl_nz 858993459).toNat : Nat) : Int)) + ((((nl_nz (nl_nz (x1 - ((((nl_nz (nl_nz x1 / 2 ^ (nl_nz 1).toNat)).toNat &&& (nl_nz 1431655765).toNat : Nat) : Int))) / 2 ^ (nl_nz 2).toNat)).toNat &&& (nl_nz 858993459).toNat : Nat) : Int))) + (nl_nz (((((nl_nz (x1 - ((((nl_nz (nl_nz x1 / 2 ^ (nl_nz 1).toNat)).toNat &&& (nl_nz 1431655765).toNat : Nat) : Int)))).toNat &&& (nl_nz 858993459).toNat : Nat) : Int)) + ((((nl_nz (nl_nz (x1 - ((((nl_nz (nl_nz x1 / 2 ^ (nl_nz 1).toNat)).toNat &&& (nl_nz 1431655765).toNat : Nat) : Int))) / 2 ^ (nl_nz 2).toNat)).toNat &&& (nl_nz 858993459).toNat : Nat) : Int))) / 2 ^ (nl_nz 4).toNat))).toNat &&& (nl_nz 252645135).toNat : Nat) : Int)) + (nl_nz ((((nl_nz ((((((nl_nz (x1 - ((((nl_nz (nl_nz x1 / 2 ^ (nl_nz 1).toNat)).toNat &&& (nl_nz 1431655765).toNat : Nat) : Int)))).toNat &&& (nl_nz 858993459).toNat : Nat) : Int)) + ((((nl_nz (nl_nz (x1 - ((((nl_nz (nl_nz x1 / 2 ^ (nl_nz 1).toNat)).toNat &&& (nl_nz 1431655765).toNat : Nat) : Int))) / 2 ^ (nl_nz 2).toNat)).toNat &&& (nl_nz 858993459).toNat : Nat) : Int))) + (nl_nz (((((nl_nz (x1 - ((((nl_nz (nl_nz x1 / 2 ^ (nl_nz 1).toNat)).toNat &&& (nl_nz 1431655765).toNat : Nat) : Int)))).toNat &&& (nl_nz 858993459).toNat : Nat) : Int)) + ((((nl_nz (nl_nz (x1 - ((((nl_nz (nl_nz x1 / 2 ^ (nl_nz 1).toNat)).toNat &&& (nl_nz 1431655765).toNat : Nat) : Int))) / 2 ^ (nl_nz 2).toNat)).toNat &&& (nl_nz 858993459).toNat : Nat) : Int))) / 2 ^ (nl_nz 4).toNat))).toNat &&& (nl_nz 252645135).toNat : Nat) : Int)) / 2 ^ (nl_nz 8).toNat)) + (nl_nz (((((nl_nz ((((((nl_nz (x1 - ((((nl_nz (nl_nz x1 / 2 ^ (nl_nz 1).toNat)).toNat &&& (nl_nz 1431655765).toNat : Nat) : Int)))).toNat &&& (nl_nz 858993459).toNat : Nat) : Int)) + ((((nl_nz (nl_nz (x1 - ((((nl_nz (nl_nz x1 / 2 ^ (nl_nz 1).toNat)).toNat &&& (nl_nz 1431655765).toNat : Nat) : Int))) / 2 ^ (nl_nz 2).toNat)).toNat &&& (nl_nz 858993459).toNat : Nat) : Int))) + (nl_nz (((((nl_nz (x1 - ((((nl_nz (nl_nz x1 / 2 ^ (nl_nz 1).toNat)).toNat &&& (nl_nz 1431655765).toNat : Nat) : Int)))).toNat &&& (nl_nz 858993459).toNat : Nat) : Int)) + ((((nl_nz (nl_nz (x1 - ((((nl_nz (nl_nz x1 / 2 ^ (nl_nz 1).toNat)).toNat &&& (nl_nz 1431655765).toNat : Nat) : Int))) / 2 ^ (nl_nz 2).toNat)).toNat &&& (nl_nz 858993459).toNat : Nat) : Int))) / 2 ^ (nl_nz 4).toNat))).toNat &&& (nl_nz 252645135).toNat : Nat) : Int)) + (nl_nz ((((nl_nz ((((((nl_nz (x1 - ((((nl_nz (nl_nz x1 / 2 ^ (nl_nz 1).toNat)).toNat &&& (nl_nz 1431655765).toNat : Nat) : Int)))).toNat &&& (nl_nz 858993459).toNat : Nat) : Int)) + ((((nl_nz (nl_nz (x1 - ((((nl_nz (nl_nz x1 / 2 ^ (nl_nz 1).toNat)).toNat &&& (nl_nz 1431655765).toNat : Nat) : Int))) / 2 ^ (nl_nz 2).toNat)).toNat &&& (nl_nz 858993459).toNat : Nat) : Int))) + (nl_nz (((((nl_nz (x1 - ((((nl_nz (nl_nz x1 / 2 ^ (nl_nz 1).toNat)).toNat &&& (nl_nz 1431655765).toNat : Nat) : Int)))).toNat &&& (nl_nz 858993459).toNat : Nat) : Int)) + ((((nl_nz (nl_nz (x1 - ((((nl_nz (nl_nz x1 / 2 ^ (nl_nz 1).toNat)).toNat &&& (nl_nz 1431655765).toNat : Nat) : Int))) / 2 ^ (nl_nz 2).toNat)).toNat &&& (nl_nz 858993459).toNat : Nat) : Int))) / 2 ^ (nl_nz 4).toNat))).toNat &&& (nl_nz 252645135).toNat : Nat) : Int)) / 2 ^ (nl_nz 8).toNat)) / 2 ^ (nl_nz 16).toNat)) ∧ 0 ≤ nl_nz 63 then some (.inr ((((nl_nz ((((((nl_nz ((((((nl_nz (x1 - ((((nl_nz (nl_nz x1 / 2 ^ (nl_nz 1).toNat)).toNat &&& (nl_nz 1431655765).toNat : Nat) : Int)))).toNat &&& (nl_nz 858993459).toNat : Nat) : Int)) + ((((nl_nz (nl_nz (x1 - ((((nl_nz (nl_nz x1 / 2 ^ (nl_nz 1).toNat)).toNat &&& (nl_nz 1431655765).toNat : Nat) : Int))) / 2 ^ (nl_nz 2).toNat)).toNat &&& (nl_nz 858993459).toNat : Nat) : Int))) + (nl_nz (((((nl_nz (x1 - ((((nl_nz (nl_nz x1 / 2 ^ (nl_nz 1).toNat)).toNat &&& (nl_nz 1431655765).toNat : Nat) : Int)))).toNat &&& (nl_nz 858993459).toNat : Nat) : Int)) + ((((nl_nz (nl_nz (x1 - ((((nl_nz (nl_nz x1 / 2 ^ (nl_nz 1).toNat)).toNat &&& (nl_nz 1431655765).toNat : Nat) : Int))) / 2 ^ (nl_nz 2).toNat)).toNat &&& (nl_nz 858993459).toNat : Nat) : Int))) / 2 ^ (nl_nz 4).toNat))).toNat &&& (nl_nz 252645135).toNat : Nat) : Int)) + (nl_nz ((((nl_nz ((((((nl_nz (x1 - ((((nl_nz (nl_nz x1 / 2 ^ (nl_nz 1).toNat)).toNat &&& (nl_nz 1431655765).toNat : Nat) : Int)))).toNat &&& (nl_nz 858993459).toNat : Nat) : Int)) + ((((nl_nz (nl_nz (x1 - ((((nl_nz (nl_nz x1 / 2 ^ (nl_nz 1).toNat)).toNat &&& (nl_nz 1431655765).toNat : Nat) : Int))) / 2 ^ (nl_nz 2).toNat)).toNat &&& (nl_nz 858993459).toNat : Nat) : Int))) + (nl_nz (((((nl_nz (x1 - ((((nl_nz (nl_nz x1 / 2 ^ (nl_nz 1).toNat)).toNat &&& (nl_nz 1431655765).toNat : Nat) : Int)))).toNat &&& (nl_nz 858993459).toNat : Nat) : Int)) + ((((nl_nz (nl_nz (x1 - ((((nl_nz (nl_nz x1 / 2 ^ (nl_nz 1).toNat)).toNat &&& (nl_nz 1431655765).toNat : Nat) : Int))) / 2 ^ (nl_nz 2).toNat)).toNat &&& (nl_nz 858993459).toNat : Nat) : Int))) / 2 ^ (nl_nz 4).toNat))).toNat &&& (nl_nz 252645135).toNat : Nat) : Int)) / 2 ^ (nl_nz 8).toNat)) + (nl_nz (((((nl_nz ((((((nl_nz (x1 - ((((nl_nz (nl_nz x1 / 2 ^ (nl_nz 1).toNat)).toNat &&& (nl_nz 1431655765).toNat : Nat) : Int)))).toNat &&& (nl_nz 858993459).toNat : Nat) : Int)) + ((((nl_nz (nl_nz (x1 - ((((nl_nz (nl_nz x1 / 2 ^ (nl_nz 1).toNat)).toNat &&& (nl_nz 1431655765).toNat : Nat) : Int))) / 2 ^ (nl_nz 2).toNat)).toNat &&& (nl_nz 858993459).toNat : Nat) : Int))) + (nl_nz (((((nl_nz (x1 - ((((nl_nz (nl_nz x1 / 2 ^ (nl_nz 1).toNat)).toNat &&& (nl_nz 1431655765).toNat : Nat) : Int)))).toNat &&& (nl_nz 858993459).toNat : Nat) : Int)) + ((((nl_nz (nl_nz (x1 - ((((nl_nz (nl_nz x1 / 2 ^ (nl_nz 1).toNat)).toNat &&& (nl_nz 1431655765).toNat : Nat) : Int))) / 2 ^ (nl_nz 2).toNat)).toNat &&& (nl_nz 858993459).toNat : Nat) : Int))) / 2 ^ (nl_nz 4).toNat))).toNat &&& (nl_nz 252645135).toNat : Nat) : Int)) + (nl_nz ((((nl_nz ((((((nl_nz (x1 - ((((nl_nz (nl_nz x1 / 2 ^ (nl_nz 1).toNat)).toNat &&& (nl_nz 1431655765).toNat : Nat) : Int)))).toNat &&& (nl_nz 858993459).toNat : Nat) : Int)) + ((((nl_nz (nl_nz (x1 - ((((nl_nz (nl_nz x1 / 2 ^ (nl_nz 1).toNat)).toNat &&& (nl_nz 1431655765).toNat : Nat) : Int))) / 2 ^ (nl_nz 2).toNat)).toNat &&& (nl_nz 858993459).toNat : Nat) : Int))) + (nl_nz (((((nl_nz (x1 - ((((nl_nz (nl_nz x1 / 2 ^ (nl_nz 1).toNat)).toNat &&& (nl_nz 1431655765).toNat : Nat) : Int)))).toNat &&& (nl_nz 858993459).toNat : Nat) : Int)) + ((((nl_nz (nl_nz (x1 - ((((nl_nz (nl_nz x1 / 2 ^ (nl_nz 1).toNat)).toNat &&& (nl_nz 1431655765).toNat : Nat) : Int))) / 2 ^ (nl_nz 2).toNat)).toNat &&& (nl_nz 858993459).toNat : Nat) : Int))) / 2 ^ (nl_nz 4).toNat))).toNat &&& (nl_nz 252645135).toNat : Nat) : Int)) / 2 ^ (nl_nz 8).toNat)) / 2 ^ (nl_nz 16).toNat))).toNat &&& (nl_nz 63).toNat : Nat) : Int), h)) else none else none else none else none else none else none else none else none else none else none) := rfl
end
section
/-! Equations of the abstract machine, cut to cut. -/
set_option maxRecDepth 20000 in
theorem sg_X5_write_0 (LS : Int) (den : nl_D) (h : nl_H) (x1 : Int) : nl_ex LS cd_X5_write den ct_X5_write 1 400 0 [some (vO 5 0), some (vI x1)] [] h =
  ((den m_X5_isWithin [vI x1, vI 32, vI 126] h).bind fun r1 =>
    if nl_nz r1.1 = 0 then
      some (.inr ((-1), r1.2))
    else
      if nl_nz (r1.2 5 0 1 0) < nl_nz 200 then
        if 0 ≤ nl_nz (r1.2 5 0 1 0) ∧ nl_nz (r1.2 5 0 1 0) < 200 then some (.inr ((nl_up (nl_up r1.2 5 0 0 (nl_nz (r1.2 5 0 1 0)).toNat x1) 5 0 1 0 (((nl_up r1.2 5 0 0 (nl_nz (r1.2 5 0 1 0)).toNat x1) 5 0 1 0) + 1)) 5 0 1 0, nl_up (nl_up r1.2 5 0 0 (nl_nz (r1.2 5 0 1 0)).toNat x1) 5 0 1 0 (((nl_up r1.2 5 0 0 (nl_nz (r1.2 5 0 1 0)).toNat x1) 5 0 1 0) + 1))) else none
      else
        some (.inr ((-3), r1.2))) := rfl
set_option maxRecDepth 20000 in
theorem sg_X5_wipe_0 (LS : Int) (den : nl_D) (h : nl_H)  : nl_ex LS cd_X5_wipe den ct_X5_wipe 1 400 0 [some (vO 5 0), none] [] h =
  (some (.inr (h 5 0 1 0, nl_up h 5 0 1 0 0))) := rfl
set_option maxRecDepth 20000 in
theorem sg_X5_fault_0 (LS : Int) (den : nl_D) (h : nl_H)  : nl_ex LS cd_X5_fault den ct_X5_fault 1 400 0 [some (vO 5 0)] [] h =
  ((den m_X1_read [vO 1 0, vA 5 0 0, vI (h 5 0 1 0)] h).bind fun r1 =>
    if nl_nz (r1.2 1 0 7 0) = nl_nz ((-1)) then
      some (.inr ((-4), r1.2))
    else
      some (.inr (r1.2 1 0 7 0, r1.2))) := rfl
set_option maxRecDepth 20000 in
theorem sg_X5_lay_0 (LS : Int) (den : nl_D) (h : nl_H)  : nl_ex LS cd_X5_lay den ct_X5_lay 1 400 0 [some (vO 5 0)] [] h =
  ((den m_X1_read [vO 1 0, vA 5 0 0, vI (h 5 0 1 0)] h).bind fun r1 =>
    (den m_X1_canBeLaid [vO 1 0] r1.2).bind fun r2 =>
      if nl_nz r2.1 = 0 then
        some (.inr ((-2), r2.2))
      else
        (den m_X4_settle [vO 4 0, vO 1 0] r2.2).bind fun r3 =>
          (den m_X2_clear [vO 2 0] r3.2).bind fun r4 =>
            (den m_X2_clear [vO 2 1] r4.2).bind fun r5 =>
              (den m_X3_clear [vO 3 0] r5.2).bind fun r6 =>
                some (.inr (r6.2 4 0 0 0, r6.2))) := rfl
set_option maxRecDepth 20000 in
theorem sg_X5_house_0 (LS : Int) (den : nl_D) (h : nl_H) (x1 : Int) (x2 : Int) : nl_ex LS cd_X5_house den ct_X5_house 1 400 0 [some (vO 5 0), some (vI x1), some (vI x2)] [] h =
  ((den m_X4_isHouse [vO 4 0, vI x1] h).bind fun r1 =>
    if nl_nz r1.1 = 0 then
      some (.inr ((-1), r1.2))
    else
      if nl_nz x2 = 0 then
        if 0 ≤ nl_nz x1 ∧ nl_nz x1 < 7 then some (.inr (r1.2 4 0 4 (nl_nz x1).toNat, r1.2)) else none
      else
        if nl_nz x2 = 0 + 1 then
          if 0 ≤ nl_nz x1 ∧ nl_nz x1 < 7 then some (.inr (r1.2 4 0 5 (nl_nz x1).toNat, r1.2)) else none
        else
          if nl_nz x2 = 0 + 1 + 1 then
            if 0 ≤ nl_nz x1 ∧ nl_nz x1 < 7 then some (.inr (r1.2 4 0 6 (nl_nz x1).toNat, r1.2)) else none
          else
            if nl_nz x2 = 0 + 1 + 1 + 1 then
              if 0 ≤ nl_nz x1 ∧ nl_nz x1 < 7 then some (.inr (r1.2 4 0 7 (nl_nz x1).toNat, r1.2)) else none
            else
              if nl_nz x2 = 0 + 1 + 1 + 1 + 1 then
                if 0 ≤ nl_nz x1 ∧ nl_nz x1 < 7 then some (.inr (r1.2 4 0 8 (nl_nz x1).toNat, r1.2)) else none
              else
                if nl_nz x2 = 0 + 1 + 1 + 1 + 1 + 1 then
                  if 0 ≤ nl_nz x1 ∧ nl_nz x1 < 7 then some (.inr (r1.2 4 0 9 (nl_nz x1).toNat, r1.2)) else none
                else
                  some (.inr ((-1), r1.2))) := rfl
set_option maxRecDepth 20000 in
theorem sg_X5_hour_0 (LS : Int) (den : nl_D) (h : nl_H) (x1 : Int) (x2 : Int) : nl_ex LS cd_X5_hour den ct_X5_hour 1 400 0 [some (vO 5 0), some (vI x1), some (vI x2)] [] h =
  ((den m_X4_isHour [vO 4 0, vI x1] h).bind fun r1 =>
    if nl_nz r1.1 = 0 then
      some (.inr ((-1), r1.2))
    else
      (den m_X5_isWithin [vI x2, vI 0, vI 1] r1.2).bind fun r2 =>
        if nl_nz r2.1 = 0 then
          some (.inr ((-1), r2.2))
        else
          if nl_nz x2 = 0 then
            if 0 ≤ nl_nz x1 ∧ nl_nz x1 < 7 then some (.inr (r2.2 4 0 3 (nl_nz x1).toNat, r2.2)) else none
          else
            (den m_X4_houseWith [vO 4 0, vI x1] r2.2).bind fun r3 =>
              some (.inr (r3.1, r3.2))) := rfl
set_option maxRecDepth 20000 in
theorem sg_X5_heavy_0 (LS : Int) (den : nl_D) (h : nl_H) (x1 : Int) (x2 : Int) : nl_ex LS cd_X5_heavy den ct_X5_heavy 1 400 0 [some (vO 5 0), some (vI x1), some (vI x2)] [] h =
  ((den m_X4_isHouse [vO 4 0, vI x1] h).bind fun r1 =>
    if nl_nz r1.1 = 0 then
      some (.inr ((-1), r1.2))
    else
      (den m_X4_isHour [vO 4 0, vI x2] r1.2).bind fun r2 =>
        if nl_nz r2.1 = 0 then
          some (.inr ((-1), r2.2))
        else
          (den m_X4_heaviness [vO 4 0, vI x1, vI x2] r2.2).bind fun r3 =>
            some (.inr (r3.1, r3.2))) := rfl
set_option maxRecDepth 20000 in
theorem sg_X5_had_0 (LS : Int) (den : nl_D) (h : nl_H) (x1 : Int) (x2 : Int) : nl_ex LS cd_X5_had den ct_X5_had 1 400 0 [some (vO 5 0), some (vI x1), some (vI x2)] [] h =
  ((den m_X4_isHouse [vO 4 0, vI x1] h).bind fun r1 =>
    if nl_nz r1.1 = 0 then
      some (.inr ((-1), r1.2))
    else
      (den m_X4_isHour [vO 4 0, vI x2] r1.2).bind fun r2 =>
        if nl_nz r2.1 = 0 then
          some (.inr ((-1), r2.2))
        else
          (den m_X4_timesHad [vO 4 0, vI x1, vI x2] r2.2).bind fun r3 =>
            some (.inr (r3.1, r3.2))) := rfl
set_option maxRecDepth 20000 in
theorem sg_X5_pass_0 (LS : Int) (den : nl_D) (h : nl_H) (x1 : Int) : nl_ex LS cd_X5_pass den ct_X5_pass 1 400 0 [some (vO 5 0), some (vI x1)] [] h =
  ((den m_X5_isWithin [vI x1, vI 1, vI 20] h).bind fun r1 =>
    if nl_nz r1.1 = 0 then
      some (.inr ((-1), r1.2))
    else
      if nl_nz ((r1.2 4 0 1 0) + x1) ≤ nl_nz 999 then
        (den m_X2_put [vO 2 0, vO 4 0] r1.2).bind fun r2 =>
          (den m_X4_letNightsPass [vO 4 0, vI x1] r2.2).bind fun r3 =>
            some (.inr (r3.1, r3.2))
      else
        some (.inr ((-2), r1.2))) := rfl
set_option maxRecDepth 20000 in
theorem sg_X5_swap_0 (LS : Int) (den : nl_D) (h : nl_H) (x1 : Int) (x2 : Int) : nl_ex LS cd_X5_swap den ct_X5_swap 1 400 0 [some (vO 5 0), some (vI x1), some (vI x2)] [] h =
  ((den m_X4_isHouse [vO 4 0, vI x1] h).bind fun r1 =>
    if nl_nz r1.1 = 0 then
      some (.inr ((-1), r1.2))
    else
      (den m_X4_isHouse [vO 4 0, vI x2] r1.2).bind fun r2 =>
        if nl_nz r2.1 = 0 then
          some (.inr ((-1), r2.2))
        else
          if nl_nz x1 = nl_nz x2 then
            some (.inr ((-1), r2.2))
          else
            (den m_X2_put [vO 2 0, vO 4 0] r2.2).bind fun r3 =>
              (den m_X4_trade [vO 4 0, vI x1, vI x2] r3.2).bind fun r4 =>
                if 0 ≤ nl_nz x1 ∧ nl_nz x1 < 7 then some (.inr (r4.2 4 0 8 (nl_nz x1).toNat, r4.2)) else none) := rfl
set_option maxRecDepth 20000 in
theorem sg_X5_rest_0 (LS : Int) (den : nl_D) (h : nl_H) (x1 : Int) : nl_ex LS cd_X5_rest den ct_X5_rest 1 400 0 [some (vO 5 0), some (vI x1)] [] h =
  ((den m_X4_isHouse [vO 4 0, vI x1] h).bind fun r1 =>
    if nl_nz r1.1 = 0 then
      some (.inr ((-1), r1.2))
    else
      if 0 ≤ nl_nz x1 ∧ nl_nz x1 < 7 then
        if nl_nz (r1.2 4 0 7 (nl_nz x1).toNat) = 0 then
          some (.inr ((-2), r1.2))
        else
          (den m_X2_put [vO 2 0, vO 4 0] r1.2).bind fun r2 =>
            (den m_X4_giveRest [vO 4 0, vI x1] r2.2).bind fun r3 =>
              if 0 ≤ nl_nz x1 ∧ nl_nz x1 < 7 then some (.inr (r3.2 4 0 7 (nl_nz x1).toNat, r3.2)) else none
      else none) := rfl
set_option maxRecDepth 20000 in
theorem sg_X5_burden_0 (LS : Int) (den : nl_D) (h : nl_H) (x1 : Int) (x2 : Int) : nl_ex LS cd_X5_burden den ct_X5_burden 1 400 0 [some (vO 5 0), some (vI x1), some (vI x2), none] [] h =
  ((den m_X4_isHour [vO 4 0, vI x1] h).bind fun r1 =>
    if nl_nz r1.1 = 0 then
      some (.inr ((-1), r1.2))
    else
      (den m_X5_isWithin [vI x2, vI 0, vI 20] r1.2).bind fun r2 =>
        if nl_nz r2.1 = 0 then
          some (.inr ((-1), r2.2))
        else
          if 0 ≤ nl_nz x1 ∧ nl_nz x1 < 7 then
            if nl_nz (r2.2 4 0 3 (nl_nz x1).toNat) = nl_nz x2 then
              some (.inr ((-2), r2.2))
            else
              (den m_X2_put [vO 2 0, vO 4 0] r2.2).bind fun r3 =>
                (den m_X4_setBurden [vO 4 0, vI x1, vI x2] r3.2).bind fun r4 =>
                  some (.inr (r2.2 4 0 3 (nl_nz x1).toNat, r4.2))
          else none) := rfl
set_option maxRecDepth 20000 in
theorem sg_X5_undo_0 (LS : Int) (den : nl_D) (h : nl_H)  : nl_ex LS cd_X5_undo den ct_X5_undo 1 400 0 [some (vO 5 0)] [] h =
  ((den m_X2_takeInto [vO 2 0, vO 4 0] h).bind fun r1 =>
    if nl_nz r1.1 = 0 then
      some (.inr ((-2), r1.2))
    else
      some (.inr (r1.2 2 0 1 0, r1.2))) := rfl
set_option maxRecDepth 20000 in
theorem sg_X5_behind_0 (LS : Int) (den : nl_D) (h : nl_H) (x1 : Int) (x2 : Int) (x3 : Int) : nl_ex LS cd_X5_behind den ct_X5_behind 1 400 0 [some (vO 5 0), some (vI x1), some (vI x2), some (vI x3)] [] h =
  ((den m_X5_isWithin [vI x1, vI 0, vI 40] h).bind fun r1 =>
    if nl_nz r1.1 = 0 then
      some (.inr ((-1), r1.2))
    else
      (den m_X4_isHouse [vO 4 0, vI x2] r1.2).bind fun r2 =>
        if nl_nz r2.1 = 0 then
          some (.inr ((-1), r2.2))
        else
          (den m_X5_isWithin [vI x3, vI 0, vI 1] r2.2).bind fun r3 =>
            if nl_nz r3.1 = 0 then
              some (.inr ((-1), r3.2))
            else
              (den m_X4_copyFrom [vO 4 1, vO 4 0] r3.2).bind fun r4 =>
                (den m_X4_letNightsPass [vO 4 1, vI x1] r4.2).bind fun r5 =>
                  if nl_nz x3 = 0 then
                    if 0 ≤ nl_nz x2 ∧ nl_nz x2 < 7 then some (.inr (r5.2 4 1 7 (nl_nz x2).toNat, r5.2)) else none
                  else
                    if 0 ≤ nl_nz x2 ∧ nl_nz x2 < 7 then some (.inr (r5.2 4 1 8 (nl_nz x2).toNat, r5.2)) else none) := rfl
set_option maxRecDepth 20000 in
theorem sg_X5_gaps_0 (LS : Int) (den : nl_D) (h : nl_H)  : nl_ex LS cd_X5_gaps den ct_X5_gaps 1 400 0 [some (vO 5 0), none, none] [] h =
  (some (.inl (4, [some (vO 5 0), some (vI 0), some (vI 0)], h))) := rfl
set_option maxRecDepth 20000 in
theorem sg_X5_gaps_4 (LS : Int) (den : nl_D) (h : nl_H) (y1 : Int) (y2 : Int) : nl_ex LS cd_X5_gaps den ct_X5_gaps 1 400 4 [some (vO 5 0), some (vI y1), some (vI y2)] [] h =
  (if nl_nz (h 4 0 0 0) ≤ nl_nz y2 then
    some (.inr (y1, h))
  else
    (den m_X4_isGapAt [vO 4 0, vI y2] h).bind fun r1 =>
      if nl_nz r1.1 = 0 then
        some (.inl (4, [some (vO 5 0), some (vI y1), some (vI (y2 + 1))], r1.2))
      else
        if 0 ≤ nl_nz y2 ∧ nl_nz y2 < 32 then if 0 ≤ nl_nz y1 ∧ 0 ≤ nl_nz (1 * 2 ^ (nl_nz y2).toNat) then some (.inl (4, [some (vO 5 0), some (vI ((((nl_nz y1).toNat ||| (nl_nz (1 * 2 ^ (nl_nz y2).toNat)).toNat : Nat) : Int))), some (vI (y2 + 1))], r1.2)) else none else none) := rfl
set_option maxRecDepth 20000 in
theorem sg_X5_first_0 (LS : Int) (den : nl_D) (h : nl_H) (x1 : Int) : nl_ex LS cd_X5_first den ct_X5_first 1 400 0 [some (vO 5 0), some (vI x1), none] [] h =
  ((den m_X4_isHouse [vO 4 0, vI x1] h).bind fun r1 =>
    if nl_nz r1.1 = 0 then
      some (.inr ((-1), r1.2))
    else
      (den m_X4_copyFrom [vO 4 1, vO 4 0] r1.2).bind fun r2 =>
        (den m_X5_nextMissAhead [vO 5 0, vI x1, vI 40] r2.2).bind fun r3 =>
          if nl_nz r3.1 = nl_nz ((-1)) then
            some (.inr ((-4), r3.2))
          else
            some (.inr (r3.1, r3.2))) := rfl
set_option maxRecDepth 20000 in
theorem sg_X5_even_0 (LS : Int) (den : nl_D) (h : nl_H) (x1 : Int) : nl_ex LS cd_X5_even den ct_X5_even 1 400 0 [some (vO 5 0), some (vI x1)] [] h =
  (if nl_nz x1 = nl_nz ((-1)) then
    (den m_X0_choose [vO 0 0, vO 4 0] h).bind fun r1 =>
      if nl_nz x1 = nl_nz ((-1)) then
        some (.inr (r1.2 0 0 5 0, r1.2))
      else
        if 0 ≤ nl_nz x1 ∧ nl_nz x1 < 7 then some (.inr (r1.2 0 0 2 (nl_nz x1).toNat, r1.2)) else none
  else
    (den m_X4_isHouse [vO 4 0, vI x1] h).bind fun r2 =>
      if nl_nz r2.1 = 0 then
        some (.inr ((-1), r2.2))
      else
        (den m_X0_choose [vO 0 0, vO 4 0] r2.2).bind fun r3 =>
          if nl_nz x1 = nl_nz ((-1)) then
            some (.inr (r3.2 0 0 5 0, r3.2))
          else
            if 0 ≤ nl_nz x1 ∧ nl_nz x1 < 7 then some (.inr (r3.2 0 0 2 (nl_nz x1).toNat, r3.2)) else none) := rfl
set_option maxRecDepth 20000 in
theorem sg_X5_swaps_0 (LS : Int) (den : nl_D) (h : nl_H)  : nl_ex LS cd_X5_swaps den ct_X5_swaps 1 400 0 [some (vO 5 0)] [] h =
  ((den m_X0_choose [vO 0 0, vO 4 0] h).bind fun r1 =>
    if nl_nz (r1.2 0 0 5 0) ≤ 0 then
      (den m_X0_fewestSwaps [vO 0 0, vO 4 0] r1.2).bind fun r2 =>
        some (.inr (r2.1, r2.2))
    else
      some (.inr ((-4), r1.2))) := rfl
set_option maxRecDepth 20000 in
theorem sg_X5_far_0 (LS : Int) (den : nl_D) (h : nl_H) (x1 : Int) : nl_ex LS cd_X5_far den ct_X5_far 1 400 0 [some (vO 5 0), some (vI x1)] [] h =
  ((den m_X5_isWithin [vI x1, vI 0, vI 1] h).bind fun r1 =>
    if nl_nz r1.1 = 0 then
      some (.inr ((-1), r1.2))
    else
      if nl_nz x1 = 0 then
        (den m_X4_handingOver [vO 4 0] r1.2).bind fun r2 =>
          some (.inr (r2.1, r2.2))
      else
        (den m_X4_lengthOfRoad [vO 4 0] r1.2).bind fun r3 =>
          some (.inr (r3.1, r3.2))) := rfl
set_option maxRecDepth 20000 in
theorem sg_X5_lamps_0 (LS : Int) (den : nl_D) (h : nl_H) (x1 : Int) (x2 : Int) : nl_ex LS cd_X5_lamps den ct_X5_lamps 1 400 0 [some (vO 5 0), some (vI x1), some (vI x2), none, none] [] h =
  ((den m_X5_isWithin [vI x1, vI 1, vI 40] h).bind fun r1 =>
    if nl_nz r1.1 = 0 then
      some (.inr ((-1), r1.2))
    else
      (den m_X5_isWithin [vI x2, vI 0, vI 1] r1.2).bind fun r2 =>
        if nl_nz r2.1 = 0 then
          some (.inr ((-1), r2.2))
        else
          some (.inl (26, [some (vO 5 0), some (vI x1), some (vI x2), some (vI 0), some (vI 0)], r2.2))) := rfl
set_option maxRecDepth 20000 in
theorem sg_X5_lamps_26 (LS : Int) (den : nl_D) (h : nl_H) (y1 : Int) (y2 : Int) (y3 : Int) (y4 : Int) : nl_ex LS cd_X5_lamps den ct_X5_lamps 1 400 26 [some (vO 5 0), some (vI y1), some (vI y2), some (vI y3), some (vI y4)] [] h =
  (if nl_nz (h 4 0 0 0) ≤ nl_nz y4 then
    if nl_nz y2 = 0 then
      (den m_J6_bitCount [vI y3] h).bind fun r1 =>
        some (.inr (r1.1, r1.2))
    else
      some (.inr (y3, h))
  else
    (den m_X4_copyFrom [vO 4 1, vO 4 0] h).bind fun r2 =>
      (den m_X5_nextMissAhead [vO 5 0, vI y4, vI y1] r2.2).bind fun r3 =>
        if nl_nz r3.1 = nl_nz ((-1)) then
          some (.inl (26, [some (vO 5 0), some (vI y1), some (vI y2), some (vI y3), some (vI (y4 + 1))], r3.2))
        else
          (den m_X4_copyFrom [vO 4 1, vO 4 0] r3.2).bind fun r4 =>
            (den m_X4_giveRest [vO 4 1, vI y4] r4.2).bind fun r5 =>
              (den m_X5_nextMissAhead [vO 5 0, vI y4, vI y1] r5.2).bind fun r6 =>
                if nl_nz r6.1 = nl_nz ((-1)) then
                  if 0 ≤ nl_nz y4 ∧ nl_nz y4 < 32 then if 0 ≤ nl_nz y3 ∧ 0 ≤ nl_nz (1 * 2 ^ (nl_nz y4).toNat) then some (.inl (26, [some (vO 5 0), some (vI y1), some (vI y2), some (vI ((((nl_nz y3).toNat ||| (nl_nz (1 * 2 ^ (nl_nz y4).toNat)).toNat : Nat) : Int))), some (vI (y4 + 1))], r6.2)) else none else none
                else
                  some (.inr ((-4), r6.2))) := rfl
set_option maxRecDepth 20000 in
theorem sg_X5_seen_0 (LS : Int) (den : nl_D) (h : nl_H) (x1 : Int) (x2 : Int) (x3 : Int) : nl_ex LS cd_X5_seen den ct_X5_seen 1 400 0 [some (vO 5 0), some (vI x1), some (vI x2), some (vI x3)] [] h =
  ((den m_X5_isWithin [vI x1, vI 0, vI 20] h).bind fun r1 =>
    if nl_nz r1.1 = 0 then
      some (.inr ((-1), r1.2))
    else
      (den m_X4_isHour [vO 4 0, vI x2] r1.2).bind fun r2 =>
        if nl_nz r2.1 = 0 then
          some (.inr ((-1), r2.2))
        else
          (den m_X5_isWithin [vI x3, vI 0, vI 1] r2.2).bind fun r3 =>
            if nl_nz r3.1 = 0 then
              some (.inr ((-1), r3.2))
            else
              if nl_nz (r3.2 3 0 3 0) < nl_nz 6 then
                if nl_nz x3 = nl_nz 1 then
                  (den m_X3_add [vO 3 0, vI x1, vI x2, vI 1] r3.2).bind fun r4 =>
                    some (.inr (r4.2 3 0 3 0, r4.2))
                else
                  (den m_X3_add [vO 3 0, vI x1, vI x2, vI 0] r3.2).bind fun r5 =>
                    some (.inr (r5.2 3 0 3 0, r5.2))
              else
                some (.inr ((-3), r3.2))) := rfl
set_option maxRecDepth 20000 in
theorem sg_X5_forget_0 (LS : Int) (den : nl_D) (h : nl_H)  : nl_ex LS cd_X5_forget den ct_X5_forget 1 400 0 [some (vO 5 0), none] [] h =
  ((den m_X3_clear [vO 3 0] h).bind fun r1 =>
    some (.inr (h 3 0 3 0, r1.2))) := rfl
set_option maxRecDepth 20000 in
theorem sg_X5_kinds_0 (LS : Int) (den : nl_D) (h : nl_H) (x1 : Int) : nl_ex LS cd_X5_kinds den ct_X5_kinds 1 400 0 [some (vO 5 0), some (vI x1), none, none] [] h =
  ((den m_X4_isHouse [vO 4 0, vI x1] h).bind fun r1 =>
    if nl_nz r1.1 = 0 then
      some (.inr ((-1), r1.2))
    else
      some (.inl (17, [some (vO 5 0), some (vI x1), some (vI 0), some (vI 0)], r1.2))) := rfl
set_option maxRecDepth 20000 in
theorem sg_X5_kinds_17 (LS : Int) (den : nl_D) (h : nl_H) (y1 : Int) (y2 : Int) (y3 : Int) : nl_ex LS cd_X5_kinds den ct_X5_kinds 1 400 17 [some (vO 5 0), some (vI y1), some (vI y2), some (vI y3)] [] h =
  (if nl_nz 3 < nl_nz y3 then
    some (.inr (y2, h))
  else
    if 0 ≤ nl_nz y1 ∧ nl_nz y1 < 7 then
      (den m_X5_fitsAllSeen [vO 5 0, vI y1, vI y3, vI (h 4 0 5 (nl_nz y1).toNat)] h).bind fun r1 =>
        if nl_nz r1.1 = 0 then
          some (.inl (17, [some (vO 5 0), some (vI y1), some (vI y2), some (vI (y3 + 1))], r1.2))
        else
          if 0 ≤ nl_nz y3 ∧ nl_nz y3 < 32 then if 0 ≤ nl_nz y2 ∧ 0 ≤ nl_nz (1 * 2 ^ (nl_nz y3).toNat) then some (.inl (17, [some (vO 5 0), some (vI y1), some (vI ((((nl_nz y2).toNat ||| (nl_nz (1 * 2 ^ (nl_nz y3).toNat)).toNat : Nat) : Int))), some (vI (y3 + 1))], r1.2)) else none else none
    else none) := rfl
set_option maxRecDepth 20000 in
theorem sg_X5_strengths_0 (LS : Int) (den : nl_D) (h : nl_H) (x1 : Int) (x2 : Int) : nl_ex LS cd_X5_strengths den ct_X5_strengths 1 400 0 [some (vO 5 0), some (vI x1), some (vI x2), none, none, none] [] h =
  ((den m_X4_isHouse [vO 4 0, vI x1] h).bind fun r1 =>
    if nl_nz r1.1 = 0 then
      some (.inr ((-1), r1.2))
    else
      (den m_X5_isWithin [vI x2, vI 0, vI 1] r1.2).bind fun r2 =>
        if nl_nz r2.1 = 0 then
          some (.inr ((-1), r2.2))
        else
          some (.inl (32, [some (vO 5 0), some (vI x1), some (vI x2), some (vI 0), some (vI ((-4))), some (vI 40)], r2.2))) := rfl
set_option maxRecDepth 20000 in
theorem sg_X5_strengths_32 (LS : Int) (den : nl_D) (h : nl_H) (y1 : Int) (y2 : Int) (y3 : Int) (y4 : Int) (y5 : Int) : nl_ex LS cd_X5_strengths den ct_X5_strengths 1 400 32 [some (vO 5 0), some (vI y1), some (vI y2), some (vI y3), some (vI y4), some (vI y5)] [] h =
  (if nl_nz y5 < 0 then
    if nl_nz y2 = 0 then
      some (.inr (y3, h))
    else
      some (.inr (y4, h))
  else
    if 0 ≤ nl_nz y1 ∧ nl_nz y1 < 7 then
      (den m_X5_fitsAllSeen [vO 5 0, vI y1, vI (h 4 0 4 (nl_nz y1).toNat), vI y5] h).bind fun r1 =>
        if nl_nz r1.1 = 0 then
          some (.inl (32, [some (vO 5 0), some (vI y1), some (vI y2), some (vI y3), some (vI y4), some (vI (y5 + (-1)))], r1.2))
        else
          some (.inl (32, [some (vO 5 0), some (vI y1), some (vI y2), some (vI (y3 + 1)), some (vI y5), some (vI (y5 + (-1)))], r1.2))
    else none) := rfl
set_option maxRecDepth 20000 in
theorem sg_X5_likely_0 (LS : Int) (den : nl_D) (h : nl_H) (x1 : Int) (x2 : Int) (x3 : Int) : nl_ex LS cd_X5_likely den ct_X5_likely 1 400 0 [some (vO 5 0), some (vI x1), some (vI x2), some (vI x3), none, none, none, none, none] [] h =
  ((den m_X4_isHouse [vO 4 0, vI x1] h).bind fun r1 =>
    if nl_nz r1.1 = 0 then
      some (.inr ((-1), r1.2))
    else
      (den m_X5_isWithin [vI x2, vI 0, vI 9] r1.2).bind fun r2 =>
        if nl_nz r2.1 = 0 then
          some (.inr ((-1), r2.2))
        else
          (den m_X5_isWithin [vI x3, vI 0, vI 1] r2.2).bind fun r3 =>
            if nl_nz r3.1 = 0 then
              some (.inr ((-1), r3.2))
            else
              if 0 ≤ nl_nz x1 ∧ nl_nz x1 < 7 then some (.inl (60, [some (vO 5 0), some (vI x1), some (vI x2), some (vI x3), some (vI (r3.2 4 0 7 (nl_nz x1).toNat)), some (vI (if nl_nz 40 < nl_nz ((r3.2 4 0 7 (nl_nz x1).toNat) + x2) then 40 else (r3.2 4 0 7 (nl_nz x1).toNat) + x2)), some (vI 0), some (vI 0), none], r3.2)) else none) := rfl
set_option maxRecDepth 20000 in
theorem sg_X5_likely_60 (LS : Int) (den : nl_D) (h : nl_H) (y1 : Int) (y2 : Int) (y3 : Int) (y4 : Int) (y5 : Int) (y6 : Int) (y7 : Int) : nl_ex LS cd_X5_likely den ct_X5_likely 1 400 60 [some (vO 5 0), some (vI y1), some (vI y2), some (vI y3), some (vI y4), some (vI y5), some (vI y6), some (vI y7), none] [] h =
  (if nl_nz (h 4 0 0 0) ≤ nl_nz y7 then
    (den m_X5_largestDivisor [vI y6, vI (10 * (h 4 0 0 0))] h).bind fun r1 =>
      if nl_nz y3 = 0 then
        if nl_nz r1.1 = 0 then none else
          some (.inr ((nl_nz y6).tdiv (nl_nz r1.1), r1.2))
      else
        if nl_nz r1.1 = 0 then none else
          some (.inr ((nl_nz (10 * (h 4 0 0 0))).tdiv (nl_nz r1.1), r1.2))
  else
    (den m_X4_wouldKeep [vO 4 0, vI y1, vI y7, vI y4] h).bind fun r2 =>
      if nl_nz r2.1 = 0 then
        (den m_X4_wouldKeep [vO 4 0, vI y1, vI y7, vI y5] r2.2).bind fun r3 =>
          if nl_nz r3.1 = 0 then
            some (.inl (60, [some (vO 5 0), some (vI y1), some (vI y2), some (vI y3), some (vI y4), some (vI y5), some (vI ((y6 + 0) + 0)), some (vI (y7 + 1)), none], r3.2))
          else
            some (.inl (60, [some (vO 5 0), some (vI y1), some (vI y2), some (vI y3), some (vI y4), some (vI y5), some (vI ((y6 + 0) + y2)), some (vI (y7 + 1)), none], r3.2))
      else
        (den m_X4_wouldKeep [vO 4 0, vI y1, vI y7, vI y5] r2.2).bind fun r4 =>
          if nl_nz r4.1 = 0 then
            some (.inl (60, [some (vO 5 0), some (vI y1), some (vI y2), some (vI y3), some (vI y4), some (vI y5), some (vI ((y6 + (10 - y2)) + 0)), some (vI (y7 + 1)), none], r4.2))
          else
            some (.inl (60, [some (vO 5 0), some (vI y1), some (vI y2), some (vI y3), some (vI y4), some (vI y5), some (vI ((y6 + (10 - y2)) + y2)), some (vI (y7 + 1)), none], r4.2))) := rfl
set_option maxRecDepth 20000 in
theorem sg_X5_winter_0 (LS : Int) (den : nl_D) (h : nl_H) (x1 : Int) (x2 : Int) (x3 : Int) : nl_ex LS cd_X5_winter den ct_X5_winter 1 400 0 [some (vO 5 0), some (vI x1), some (vI x2), some (vI x3), none, none] [] h =
  ((den m_X5_isWithin [vI x1, vI 0, vI 9999] h).bind fun r1 =>
    if nl_nz r1.1 = 0 then
      some (.inr ((-1), r1.2))
    else
      (den m_X5_isWithin [vI x2, vI 1, vI 60] r1.2).bind fun r2 =>
        if nl_nz r2.1 = 0 then
          some (.inr ((-1), r2.2))
        else
          (den m_X5_isWithin [vI x3, vI 0, vI 2] r2.2).bind fun r3 =>
            if nl_nz r3.1 = 0 then
              some (.inr ((-1), r3.2))
            else
              (den m_X4_copyFrom [vO 4 1, vO 4 0] r3.2).bind fun r4 =>
                some (.inl (49, [some (vO 5 0), some (vI x1), some (vI x2), some (vI x3), some (vI 0), some (vI 0)], r4.2))) := rfl
set_option maxRecDepth 20000 in
theorem sg_X5_winter_49 (LS : Int) (den : nl_D) (h : nl_H) (y1 : Int) (y2 : Int) (y3 : Int) (y4 : Int) (y5 : Int) : nl_ex LS cd_X5_winter den ct_X5_winter 1 400 49 [some (vO 5 0), some (vI y1), some (vI y2), some (vI y3), some (vI y4), some (vI y5)] [] h =
  (if nl_nz y2 ≤ nl_nz y5 then
    if nl_nz y3 = 0 then
      some (.inr (y4, h))
    else
      if nl_nz y3 = nl_nz 1 then
        (den m_X4_tiredTogether [vO 4 1] h).bind fun r1 =>
          some (.inr (r1.1, r1.2))
      else
        if 0 ≤ nl_nz 0 ∧ nl_nz 0 < 7 then some (.inr (h 4 1 8 (nl_nz 0).toNat, h)) else none
  else
    (den m_X5_drawFor [vI y1, vI y5] h).bind fun r2 =>
      (den m_X4_stir [vO 4 1, vI r2.1] r2.2).bind fun r3 =>
        (den m_X4_letNightsPass [vO 4 1, vI 1] r3.2).bind fun r4 =>
          some (.inl (49, [some (vO 5 0), some (vI y1), some (vI y2), some (vI y3), some (vI (y4 + r4.1)), some (vI (y5 + 1))], r4.2))) := rfl
set_option maxRecDepth 20000 in
theorem sg_X5_keep_0 (LS : Int) (den : nl_D) (h : nl_H)  : nl_ex LS cd_X5_keep den ct_X5_keep 1 400 0 [some (vO 5 0)] [] h =
  (if nl_nz (h 2 1 1 0) < nl_nz 2 then
    (den m_X2_put [vO 2 1, vO 4 0] h).bind fun r1 =>
      some (.inr (r1.2 2 1 1 0, r1.2))
  else
    some (.inr ((-3), h))) := rfl
set_option maxRecDepth 20000 in
theorem sg_X5_back_0 (LS : Int) (den : nl_D) (h : nl_H)  : nl_ex LS cd_X5_back den ct_X5_back 1 400 0 [some (vO 5 0)] [] h =
  ((den m_X2_takeInto [vO 2 1, vO 4 0] h).bind fun r1 =>
    if nl_nz r1.1 = 0 then
      some (.inr ((-2), r1.2))
    else
      (den m_X2_clear [vO 2 0] r1.2).bind fun r2 =>
        some (.inr (r2.2 2 1 1 0, r2.2))) := rfl
set_option maxRecDepth 20000 in
theorem sg_X5_count_0 (LS : Int) (den : nl_D) (h : nl_H) (x1 : Int) : nl_ex LS cd_X5_count den ct_X5_count 1 400 0 [some (vO 5 0), some (vI x1)] [] h =
  (if nl_nz x1 = 0 then
    some (.inr (h 4 0 0 0, h))
  else
    if nl_nz x1 = 0 + 1 then
      some (.inr (h 4 0 1 0, h))
    else
      if nl_nz x1 = 0 + 1 + 1 then
        some (.inr (h 4 0 2 0, h))
      else
        if nl_nz x1 = 0 + 1 + 1 + 1 then
          (den m_X4_tiredTogether [vO 4 0] h).bind fun r1 =>
            some (.inr (r1.1, r1.2))
        else
          if nl_nz x1 = 0 + 1 + 1 + 1 + 1 then
            some (.inr (h 3 0 3 0, h))
          else
            if nl_nz x1 = 0 + 1 + 1 + 1 + 1 + 1 then
              some (.inr (h 2 0 1 0, h))
            else
              if nl_nz x1 = 0 + 1 + 1 + 1 + 1 + 1 + 1 then
                some (.inr (h 2 1 1 0, h))
              else
                if nl_nz x1 = 0 + 1 + 1 + 1 + 1 + 1 + 1 + 1 then
                  some (.inr (h 5 0 1 0, h))
                else
                  some (.inr ((-1), h))) := rfl
set_option maxRecDepth 20000 in
theorem sg_X5_isWithin_0 (LS : Int) (den : nl_D) (h : nl_H) (x1 : Int) (x2 : Int) (x3 : Int) : nl_ex LS cd_X5_isWithin den ct_X5_isWithin 3 400 0 [some (vI x1), some (vI x2), some (vI x3)] [] h =
  (if nl_nz x1 < nl_nz x2 then
    some (.inr (0, h))
  else
    if nl_nz x3 < nl_nz x1 then
      some (.inr (0, h))
    else
      some (.inr (1, h))) := rfl
set_option maxRecDepth 20000 in
theorem sg_X5_largestDivisor_0 (LS : Int) (den : nl_D) (h : nl_H) (x1 : Int) (x2 : Int) : nl_ex LS cd_X5_largestDivisor den ct_X5_largestDivisor 1 400 0 [some (vI x1), some (vI x2), none] [] h =
  (some (.inl (2, [some (vI x1), some (vI x2), some (vI x2)], h))) := rfl
set_option maxRecDepth 20000 in
theorem sg_X5_largestDivisor_2 (LS : Int) (den : nl_D) (h : nl_H) (y0 : Int) (y1 : Int) (y2 : Int) : nl_ex LS cd_X5_largestDivisor den ct_X5_largestDivisor 1 400 2 [some (vI y0), some (vI y1), some (vI y2)] [] h =
  (if nl_nz y2 ≤ nl_nz 1 then
    some (.inr (1, h))
  else
    if nl_nz y2 = 0 then none else
      if nl_nz ((nl_nz y0).tmod (nl_nz y2)) = 0 then
        if nl_nz y2 = 0 then none else
          if nl_nz ((nl_nz y1).tmod (nl_nz y2)) = 0 then
            some (.inr (y2, h))
          else
            some (.inl (2, [some (vI y0), some (vI y1), some (vI (y2 + (-1)))], h))
      else
        some (.inl (2, [some (vI y0), some (vI y1), some (vI (y2 + (-1)))], h))) := rfl
set_option maxRecDepth 20000 in
theorem sg_X5_drawFor_0 (LS : Int) (den : nl_D) (h : nl_H) (x1 : Int) (x2 : Int) : nl_ex LS cd_X5_drawFor den ct_X5_drawFor 1 400 0 [some (vI x1), some (vI x2), none, none] [] h =
  (if nl_nl 65521 = 0 then none else
    if nl_nl 2 = 0 then none else
      some (.inr ((nl_nl ((nl_nl ((((7919 * (nl_nz x1)) + (6151 * (nl_nz x2))) + 1) * (((7919 * (nl_nz x1)) + (6151 * (nl_nz x2))) + 1))).tmod (nl_nl 65521))).tdiv (nl_nl 2), h))) := rfl
set_option maxRecDepth 20000 in
theorem sg_X5_nextMissAhead_0 (LS : Int) (den : nl_D) (h : nl_H) (x1 : Int) (x2 : Int) : nl_ex LS cd_X5_nextMissAhead den ct_X5_nextMissAhead 1 400 0 [some (vO 5 0), some (vI x1), some (vI x2), none] [] h =
  (some (.inl (2, [some (vO 5 0), some (vI x1), some (vI x2), some (vI 1)], h))) := rfl
set_option maxRecDepth 20000 in
theorem sg_X5_nextMissAhead_2 (LS : Int) (den : nl_D) (h : nl_H) (y1 : Int) (y2 : Int) (y3 : Int) : nl_ex LS cd_X5_nextMissAhead den ct_X5_nextMissAhead 1 400 2 [some (vO 5 0), some (vI y1), some (vI y2), some (vI y3)] [] h =
  (if nl_nz y2 < nl_nz y3 then
    some (.inr ((-1), h))
  else
    (den m_X4_seeThrough [vO 4 1, vI y1] h).bind fun r1 =>
      if nl_nz r1.1 = 0 then
        some (.inr (y3, r1.2))
      else
        some (.inl (2, [some (vO 5 0), some (vI y1), some (vI y2), some (vI (y3 + 1))], r1.2))) := rfl
set_option maxRecDepth 20000 in
theorem sg_X5_fitsAllSeen_0 (LS : Int) (den : nl_D) (h : nl_H) (x1 : Int) (x2 : Int) (x3 : Int) : nl_ex LS cd_X5_fitsAllSeen den ct_X5_fitsAllSeen 3 400 0 [some (vO 5 0), some (vI x1), some (vI x2), some (vI x3), none, none] [] h =
  ((den m_X4_copyFrom [vO 4 1, vO 4 0] h).bind fun r1 =>
    if 0 ≤ nl_nz x1 ∧ nl_nz x1 < 7 then
      if 0 ≤ nl_nz x1 ∧ nl_nz x1 < 7 then
        (den m_X3_lastNight [vO 3 0] (nl_up (nl_up r1.2 4 1 4 (nl_nz x1).toNat x2) 4 1 5 (nl_nz x1).toNat x3)).bind fun r2 =>
          some (.inl (43, [some (vO 5 0), some (vI x1), some (vI x2), some (vI x3), some (vI r2.1), some (vI 0)], r2.2))
      else none
    else none) := rfl
set_option maxRecDepth 20000 in
theorem sg_X5_fitsAllSeen_43 (LS : Int) (den : nl_D) (h : nl_H) (y1 : Int) (y2 : Int) (y3 : Int) (y4 : Int) (y5 : Int) : nl_ex LS cd_X5_fitsAllSeen den ct_X5_fitsAllSeen 3 400 43 [some (vO 5 0), some (vI y1), some (vI y2), some (vI y3), some (vI y4), some (vI y5)] [] h =
  (if nl_nz y4 < nl_nz y5 then
    some (.inr (1, h))
  else
    (den m_X3_fit [vO 3 0, vO 4 1, vI y5] h).bind fun r1 =>
      if nl_nz r1.1 = 0 then
        some (.inr (0, r1.2))
      else
        (den m_X4_letNightsPass [vO 4 1, vI 1] r1.2).bind fun r2 =>
          some (.inl (43, [some (vO 5 0), some (vI y1), some (vI y2), some (vI y3), some (vI y4), some (vI (y5 + 1))], r2.2))) := rfl
end
section
/-! Equations of the abstract machine, cut to cut. -/
set_option maxRecDepth 20000 in
theorem sg_X6_in_0 (LS : Int) (den : nl_D) (h : nl_H) (x1 : Int) (x2 : Int) (x3 : Int) : nl_ex LS cd_X6_in den ct_X6_in 3 400 0 [some (vI x1), some (vI x2), some (vI x3)] [] h =
  (if nl_nz x1 < nl_nz x2 then
    some (.inr (0, h))
  else
    if nl_nz x3 < nl_nz x1 then
      some (.inr (0, h))
    else
      some (.inr (1, h))) := rfl
set_option maxRecDepth 20000 in
theorem sg_X6_has_0 (LS : Int) (den : nl_D) (h : nl_H) (x1 : Int) (x2 : Int) : nl_ex LS cd_X6_has den ct_X6_has 3 400 0 [some (vI x1), some (vI x2)] [] h =
  (if 0 ≤ nl_nz x2 ∧ nl_nz x2 < 32 then
    if 0 ≤ nl_nz (nl_nz x1 / 2 ^ (nl_nz x2).toNat) ∧ 0 ≤ nl_nz 1 then
      if nl_nz ((((nl_nz (nl_nz x1 / 2 ^ (nl_nz x2).toNat)).toNat &&& (nl_nz 1).toNat : Nat) : Int)) = nl_nz 1 then
        some (.inr (1, h))
      else
        some (.inr (0, h))
    else none
  else none) := rfl
set_option maxRecDepth 20000 in
theorem sg_X6_bits_0 (LS : Int) (den : nl_D) (h : nl_H) (x1 : Int) : nl_ex LS cd_X6_bits den ct_X6_bits 1 400 0 [some (vI x1), none, none] [] h =
  (some (.inl (4, [some (vI x1), some (vI 0), some (vI 0)], h))) := rfl
set_option maxRecDepth 20000 in
theorem sg_X6_bits_4 (LS : Int) (den : nl_D) (h : nl_H) (y0 : Int) (y1 : Int) (y2 : Int) : nl_ex LS cd_X6_bits den ct_X6_bits 1 400 4 [some (vI y0), some (vI y1), some (vI y2)] [] h =
  (if nl_nz 7 ≤ nl_nz y2 then
    some (.inr (y1, h))
  else
    if 0 ≤ nl_nz y2 ∧ nl_nz y2 < 32 then if 0 ≤ nl_nz (nl_nz y0 / 2 ^ (nl_nz y2).toNat) ∧ 0 ≤ nl_nz 1 then some (.inl (4, [some (vI y0), some (vI (y1 + ((((nl_nz (nl_nz y0 / 2 ^ (nl_nz y2).toNat)).toNat &&& (nl_nz 1).toNat : Nat) : Int)))), some (vI (y2 + 1))], h)) else none else none) := rfl
set_option maxRecDepth 20000 in
theorem sg_X6_lesser_0 (LS : Int) (den : nl_D) (h : nl_H) (x1 : Int) (x2 : Int) : nl_ex LS cd_X6_lesser den ct_X6_lesser 1 400 0 [some (vI x1), some (vI x2)] [] h =
  (if nl_nz x2 ≤ nl_nz x1 then
    some (.inr (x2, h))
  else
    some (.inr (x1, h))) := rfl
set_option maxRecDepth 20000 in
theorem sg_X6_greater_0 (LS : Int) (den : nl_D) (h : nl_H) (x1 : Int) (x2 : Int) : nl_ex LS cd_X6_greater den ct_X6_greater 1 400 0 [some (vI x1), some (vI x2)] [] h =
  (if nl_nz x1 ≤ nl_nz x2 then
    some (.inr (x2, h))
  else
    some (.inr (x1, h))) := rfl
set_option maxRecDepth 20000 in
theorem sg_X6_firstHouse_0 (LS : Int) (den : nl_D) (h : nl_H) (x1 : Int) (x2 : Int) (x3 : Int) (x4 : Int) : nl_ex LS cd_X6_firstHouse den ct_X6_firstHouse 0 400 0 [some (vO 6 0), some (vI x1), some (vI x2), some (vI x3), some (vI x4)] [] h =
  (if 0 ≤ nl_nz (h 6 0 0 0) ∧ nl_nz (h 6 0 0 0) < 7 then if 0 ≤ nl_nz ((nl_up h 6 0 1 (nl_nz (h 6 0 0 0)).toNat x1) 6 0 0 0) ∧ nl_nz ((nl_up h 6 0 1 (nl_nz (h 6 0 0 0)).toNat x1) 6 0 0 0) < 7 then if 0 ≤ nl_nz ((nl_up (nl_up h 6 0 1 (nl_nz (h 6 0 0 0)).toNat x1) 6 0 2 (nl_nz ((nl_up h 6 0 1 (nl_nz (h 6 0 0 0)).toNat x1) 6 0 0 0)).toNat x2) 6 0 0 0) ∧ nl_nz ((nl_up (nl_up h 6 0 1 (nl_nz (h 6 0 0 0)).toNat x1) 6 0 2 (nl_nz ((nl_up h 6 0 1 (nl_nz (h 6 0 0 0)).toNat x1) 6 0 0 0)).toNat x2) 6 0 0 0) < 7 then if 0 ≤ nl_nz ((nl_up (nl_up (nl_up h 6 0 1 (nl_nz (h 6 0 0 0)).toNat x1) 6 0 2 (nl_nz ((nl_up h 6 0 1 (nl_nz (h 6 0 0 0)).toNat x1) 6 0 0 0)).toNat x2) 6 0 3 (nl_nz ((nl_up (nl_up h 6 0 1 (nl_nz (h 6 0 0 0)).toNat x1) 6 0 2 (nl_nz ((nl_up h 6 0 1 (nl_nz (h 6 0 0 0)).toNat x1) 6 0 0 0)).toNat x2) 6 0 0 0)).toNat x3) 6 0 0 0) ∧ nl_nz ((nl_up (nl_up (nl_up h 6 0 1 (nl_nz (h 6 0 0 0)).toNat x1) 6 0 2 (nl_nz ((nl_up h 6 0 1 (nl_nz (h 6 0 0 0)).toNat x1) 6 0 0 0)).toNat x2) 6 0 3 (nl_nz ((nl_up (nl_up h 6 0 1 (nl_nz (h 6 0 0 0)).toNat x1) 6 0 2 (nl_nz ((nl_up h 6 0 1 (nl_nz (h 6 0 0 0)).toNat x1) 6 0 0 0)).toNat x2) 6 0 0 0)).toNat x3) 6 0 0 0) < 7 then some (.inr (0, nl_up (nl_up (nl_up (nl_up (nl_up h 6 0 1 (nl_nz (h 6 0 0 0)).toNat x1) 6 0 2 (nl_nz ((nl_up h 6 0 1 (nl_nz (h 6 0 0 0)).toNat x1) 6 0 0 0)).toNat x2) 6 0 3 (nl_nz ((nl_up (nl_up h 6 0 1 (nl_nz (h 6 0 0 0)).toNat x1) 6 0 2 (nl_nz ((nl_up h 6 0 1 (nl_nz (h 6 0 0 0)).toNat x1) 6 0 0 0)).toNat x2) 6 0 0 0)).toNat x3) 6 0 10 (nl_nz ((nl_up (nl_up (nl_up h 6 0 1 (nl_nz (h 6 0 0 0)).toNat x1) 6 0 2 (nl_nz ((nl_up h 6 0 1 (nl_nz (h 6 0 0 0)).toNat x1) 6 0 0 0)).toNat x2) 6 0 3 (nl_nz ((nl_up (nl_up h 6 0 1 (nl_nz (h 6 0 0 0)).toNat x1) 6 0 2 (nl_nz ((nl_up h 6 0 1 (nl_nz (h 6 0 0 0)).toNat x1) 6 0 0 0)).toNat x2) 6 0 0 0)).toNat x3) 6 0 0 0)).toNat x4) 6 0 0 0 (((nl_up (nl_up (nl_up (nl_up h 6 0 1 (nl_nz (h 6 0 0 0)).toNat x1) 6 0 2 (nl_nz ((nl_up h 6 0 1 (nl_nz (h 6 0 0 0)).toNat x1) 6 0 0 0)).toNat x2) 6 0 3 (nl_nz ((nl_up (nl_up h 6 0 1 (nl_nz (h 6 0 0 0)).toNat x1) 6 0 2 (nl_nz ((nl_up h 6 0 1 (nl_nz (h 6 0 0 0)).toNat x1) 6 0 0 0)).toNat x2) 6 0 0 0)).toNat x3) 6 0 10 (nl_nz ((nl_up (nl_up (nl_up h 6 0 1 (nl_nz (h 6 0 0 0)).toNat x1) 6 0 2 (nl_nz ((nl_up h 6 0 1 (nl_nz (h 6 0 0 0)).toNat x1) 6 0 0 0)).toNat x2) 6 0 3 (nl_nz ((nl_up (nl_up h 6 0 1 (nl_nz (h 6 0 0 0)).toNat x1) 6 0 2 (nl_nz ((nl_up h 6 0 1 (nl_nz (h 6 0 0 0)).toNat x1) 6 0 0 0)).toNat x2) 6 0 0 0)).toNat x3) 6 0 0 0)).toNat x4) 6 0 0 0) + 1))) else none else none else none else none) := rfl
set_option maxRecDepth 20000 in
theorem sg_X6_begin_0 (LS : Int) (den : nl_D) (h : nl_H)  : nl_ex LS cd_X6_begin den ct_X6_begin 0 400 0 [some (vO 6 0), none] [] h =
  (some (.inl (12, [some (vO 6 0), some (vI 0)], nl_up (nl_up h 6 0 4 0 0) 6 0 5 0 0))) := rfl
set_option maxRecDepth 20000 in
theorem sg_X6_begin_12 (LS : Int) (den : nl_D) (h : nl_H) (y1 : Int) : nl_ex LS cd_X6_begin den ct_X6_begin 0 400 12 [some (vO 6 0), some (vI y1)] [] h =
  (if nl_nz 7 ≤ nl_nz y1 then
    some (.inl (47, [some (vO 6 0), some (vI 0)], h))
  else
    if 0 ≤ nl_nz y1 ∧ nl_nz y1 < 7 then if 0 ≤ nl_nz y1 ∧ nl_nz y1 < 7 then if 0 ≤ nl_nz y1 ∧ nl_nz y1 < 7 then some (.inl (12, [some (vO 6 0), some (vI (y1 + 1))], nl_up (nl_up (nl_up h 6 0 6 (nl_nz y1).toNat y1) 6 0 7 (nl_nz y1).toNat 0) 6 0 8 (nl_nz y1).toNat 0)) else none else none else none) := rfl
set_option maxRecDepth 20000 in
theorem sg_X6_begin_47 (LS : Int) (den : nl_D) (h : nl_H) (y1 : Int) : nl_ex LS cd_X6_begin den ct_X6_begin 0 400 47 [some (vO 6 0), some (vI y1)] [] h =
  (if nl_nz 49 ≤ nl_nz y1 then
    some (.inr (0, h))
  else
    if 0 ≤ nl_nz y1 ∧ nl_nz y1 < 49 then some (.inl (47, [some (vO 6 0), some (vI (y1 + 1))], nl_up h 6 0 9 (nl_nz y1).toNat 0)) else none) := rfl
set_option maxRecDepth 20000 in
theorem sg_X6_isOne_0 (LS : Int) (den : nl_D) (h : nl_H) (x1 : Int) : nl_ex LS cd_X6_isOne den ct_X6_isOne 3 400 0 [some (vO 6 0), some (vI x1)] [] h =
  ((den m_X6_in [vI x1, vI 0, vI ((h 6 0 0 0) - 1)] h).bind fun r1 =>
    if r1.1 = 0 ∨ r1.1 = 1 then some (.inr (r1.1, r1.2)) else none) := rfl
set_option maxRecDepth 20000 in
theorem sg_X6_write_0 (LS : Int) (den : nl_D) (h : nl_H) (x1 : Int) : nl_ex LS cd_X6_write den ct_X6_write 1 400 0 [some (vO 6 0), some (vI x1)] [] h =
  ((den m_X6_in [vI x1, vI 32, vI 126] h).bind fun r1 =>
    if nl_nz r1.1 = 0 then
      some (.inr ((-1), r1.2))
    else
      if nl_nz (r1.2 6 0 16 0) = nl_nz 200 then
        some (.inr ((-3), r1.2))
      else
        if 0 ≤ nl_nz (r1.2 6 0 16 0) ∧ nl_nz (r1.2 6 0 16 0) < 200 then some (.inr ((nl_up (nl_up r1.2 6 0 15 (nl_nz (r1.2 6 0 16 0)).toNat x1) 6 0 16 0 (((nl_up r1.2 6 0 15 (nl_nz (r1.2 6 0 16 0)).toNat x1) 6 0 16 0) + 1)) 6 0 16 0, nl_up (nl_up r1.2 6 0 15 (nl_nz (r1.2 6 0 16 0)).toNat x1) 6 0 16 0 (((nl_up r1.2 6 0 15 (nl_nz (r1.2 6 0 16 0)).toNat x1) 6 0 16 0) + 1))) else none) := rfl
set_option maxRecDepth 20000 in
theorem sg_X6_wipe_0 (LS : Int) (den : nl_D) (h : nl_H)  : nl_ex LS cd_X6_wipe den ct_X6_wipe 1 400 0 [some (vO 6 0), none] [] h =
  (some (.inr (h 6 0 16 0, nl_up h 6 0 16 0 0))) := rfl
set_option maxRecDepth 20000 in
theorem sg_X6_here_0 (LS : Int) (den : nl_D) (h : nl_H)  : nl_ex LS cd_X6_here den ct_X6_here 1 400 0 [some (vO 6 0)] [] h =
  (if nl_nz (h 6 0 16 0) ≤ nl_nz (h 6 0 17 0) then
    some (.inr (0, h))
  else
    if 0 ≤ nl_nz (h 6 0 17 0) ∧ nl_nz (h 6 0 17 0) < 200 then some (.inr (h 6 0 15 (nl_nz (h 6 0 17 0)).toNat, h)) else none) := rfl
set_option maxRecDepth 20000 in
theorem sg_X6_isFigure_0 (LS : Int) (den : nl_D) (h : nl_H)  : nl_ex LS cd_X6_isFigure den ct_X6_isFigure 3 400 0 [some (vO 6 0)] [] h =
  ((den m_X6_here [vO 6 0] h).bind fun r1 =>
    (den m_X6_in [vI r1.1, vI 48, vI 57] r1.2).bind fun r2 =>
      if r2.1 = 0 ∨ r2.1 = 1 then some (.inr (r2.1, r2.2)) else none) := rfl
set_option maxRecDepth 20000 in
theorem sg_X6_number_0 (LS : Int) (den : nl_D) (h : nl_H) (x1 : Int) (x2 : Int) (x3 : Int) : nl_ex LS cd_X6_number den ct_X6_number 3 400 0 [some (vO 6 0), some (vI x1), some (vI x2), some (vI x3), none] [] h =
  ((den m_X6_isFigure [vO 6 0] h).bind fun r1 =>
    if nl_nz r1.1 = 0 then
      some (.inr (0, r1.2))
    else
      (den m_X6_here [vO 6 0] r1.2).bind fun r2 =>
        (den m_X6_isFigure [vO 6 0] (nl_up r2.2 6 0 17 0 ((r2.2 6 0 17 0) + 1))).bind fun r3 =>
          if nl_nz r3.1 = 0 then
            (den m_X6_here [vO 6 0] (nl_up r3.2 6 0 22 0 (r2.1 - 48))).bind fun r4 =>
              if nl_nz r4.1 = nl_nz x3 then
                (den m_X6_in [vI (r2.1 - 48), vI x1, vI x2] r4.2).bind fun r5 =>
                  if nl_nz r5.1 = 0 then
                    some (.inr (0, r5.2))
                  else
                    some (.inr (1, nl_up r5.2 6 0 17 0 ((r5.2 6 0 17 0) + 1)))
              else
                some (.inr (0, r4.2))
          else
            (den m_X6_here [vO 6 0] r3.2).bind fun r6 =>
              (den m_X6_here [vO 6 0] (nl_up (nl_up r6.2 6 0 17 0 ((r6.2 6 0 17 0) + 1)) 6 0 22 0 (((10 * (r2.1 - 48)) + r6.1) - 48))).bind fun r7 =>
                if nl_nz r7.1 = nl_nz x3 then
                  (den m_X6_in [vI (((10 * (r2.1 - 48)) + r6.1) - 48), vI x1, vI x2] r7.2).bind fun r8 =>
                    if nl_nz r8.1 = 0 then
                      some (.inr (0, r8.2))
                    else
                      some (.inr (1, nl_up r8.2 6 0 17 0 ((r8.2 6 0 17 0) + 1)))
                else
                  some (.inr (0, r7.2))) := rfl
set_option maxRecDepth 20000 in
theorem sg_X6_readsHour_0 (LS : Int) (den : nl_D) (h : nl_H)  : nl_ex LS cd_X6_readsHour den ct_X6_readsHour 3 400 0 [some (vO 6 0)] [] h =
  (if nl_nz (h 6 0 18 0) = nl_nz 7 then
    some (.inr (0, h))
  else
    (den m_X6_number [vO 6 0, vI 0, vI 20, vI 59] h).bind fun r1 =>
      if nl_nz r1.1 = 0 then
        some (.inr (0, r1.2))
      else
        if 0 ≤ nl_nz (r1.2 6 0 18 0) ∧ nl_nz (r1.2 6 0 18 0) < 7 then some (.inr (1, nl_up (nl_up r1.2 6 0 20 (nl_nz (r1.2 6 0 18 0)).toNat (r1.2 6 0 22 0)) 6 0 18 0 (((nl_up r1.2 6 0 20 (nl_nz (r1.2 6 0 18 0)).toNat (r1.2 6 0 22 0)) 6 0 18 0) + 1))) else none) := rfl
set_option maxRecDepth 20000 in
theorem sg_X6_readsHouse_0 (LS : Int) (den : nl_D) (h : nl_H)  : nl_ex LS cd_X6_readsHouse den ct_X6_readsHouse 3 400 0 [some (vO 6 0), none] [] h =
  (if nl_nz (h 6 0 19 0) = nl_nz (h 6 0 18 0) then
    some (.inr (0, h))
  else
    (den m_X6_number [vO 6 0, vI 0, vI 3, vI 44] h).bind fun r1 =>
      if nl_nz r1.1 = 0 then
        some (.inr (0, r1.2))
      else
        if 0 ≤ nl_nz (3 * (r1.2 6 0 19 0)) ∧ nl_nz (3 * (r1.2 6 0 19 0)) < 21 then
          (den m_X6_number [vO 6 0, vI 0, vI 40, vI 44] (nl_up r1.2 6 0 21 (nl_nz (3 * (r1.2 6 0 19 0))).toNat (r1.2 6 0 22 0))).bind fun r2 =>
            if nl_nz r2.1 = 0 then
              some (.inr (0, r2.2))
            else
              if 0 ≤ nl_nz ((3 * (r1.2 6 0 19 0)) + 1) ∧ nl_nz ((3 * (r1.2 6 0 19 0)) + 1) < 21 then
                (den m_X6_number [vO 6 0, vI 0, vI 99, vI 59] (nl_up r2.2 6 0 21 (nl_nz ((3 * (r1.2 6 0 19 0)) + 1)).toNat (r2.2 6 0 22 0))).bind fun r3 =>
                  if nl_nz r3.1 = 0 then
                    some (.inr (0, r3.2))
                  else
                    if 0 ≤ nl_nz ((3 * (r1.2 6 0 19 0)) + 2) ∧ nl_nz ((3 * (r1.2 6 0 19 0)) + 2) < 21 then some (.inr (1, nl_up (nl_up r3.2 6 0 21 (nl_nz ((3 * (r1.2 6 0 19 0)) + 2)).toNat (r3.2 6 0 22 0)) 6 0 19 0 (((nl_up r3.2 6 0 21 (nl_nz ((3 * (r1.2 6 0 19 0)) + 2)).toNat (r3.2 6 0 22 0)) 6 0 19 0) + 1))) else none
              else none
        else none) := rfl
set_option maxRecDepth 20000 in
theorem sg_X6_readsItem_0 (LS : Int) (den : nl_D) (h : nl_H)  : nl_ex LS cd_X6_readsItem den ct_X6_readsItem 3 400 0 [some (vO 6 0), none] [] h =
  ((den m_X6_here [vO 6 0] h).bind fun r1 =>
    if nl_nz r1.1 = nl_nz 110 then
      (den m_X6_readsHour [vO 6 0] (nl_up r1.2 6 0 17 0 ((r1.2 6 0 17 0) + 1))).bind fun r2 =>
        if r2.1 = 0 ∨ r2.1 = 1 then some (.inr (r2.1, r2.2)) else none
    else
      if nl_nz r1.1 = nl_nz 104 then
        (den m_X6_readsHouse [vO 6 0] (nl_up r1.2 6 0 17 0 ((r1.2 6 0 17 0) + 1))).bind fun r3 =>
          if nl_nz r3.1 = 0 then
            some (.inr (0, r3.2))
          else
            some (.inr (1, r3.2))
      else
        some (.inr (0, nl_up r1.2 6 0 17 0 ((r1.2 6 0 17 0) + 1)))) := rfl
set_option maxRecDepth 20000 in
theorem sg_X6_fault_0 (LS : Int) (den : nl_D) (h : nl_H)  : nl_ex LS cd_X6_fault den ct_X6_fault 1 400 0 [some (vO 6 0), none] [] h =
  (some (.inl (15, [some (vO 6 0), none], nl_up (nl_up (nl_up h 6 0 17 0 0) 6 0 18 0 0) 6 0 19 0 0))) := rfl
set_option maxRecDepth 20000 in
theorem sg_X6_fault_15 (LS : Int) (den : nl_D) (h : nl_H) (w1 : Option nl_V) : nl_ex LS cd_X6_fault den ct_X6_fault 1 400 15 [some (vO 6 0), w1] [] h =
  (if nl_nz (h 6 0 16 0) ≤ nl_nz (h 6 0 17 0) then
    some (.inr ((-4), h))
  else
    (den m_X6_readsItem [vO 6 0] h).bind fun r1 =>
      if nl_nz r1.1 = 0 then
        some (.inr (h 6 0 17 0, r1.2))
      else
        some (.inl (15, [some (vO 6 0), some (vI (h 6 0 17 0))], r1.2))) := rfl
set_option maxRecDepth 20000 in
theorem sg_X6_lay_0 (LS : Int) (den : nl_D) (h : nl_H)  : nl_ex LS cd_X6_lay den ct_X6_lay 1 400 0 [some (vO 6 0), none] [] h =
  ((den m_X6_fault [vO 6 0] h).bind fun r1 =>
    if nl_nz r1.1 = nl_nz ((-4)) then
      if nl_nz (r1.2 6 0 18 0) < nl_nz 2 then
        some (.inr ((-2), r1.2))
      else
        if nl_nz (r1.2 6 0 19 0) = nl_nz (r1.2 6 0 18 0) then
          some (.inl (38, [some (vO 6 0), some (vI 0)], nl_up r1.2 6 0 0 0 0))
        else
          some (.inr ((-2), r1.2))
    else
      some (.inr ((-2), r1.2))) := rfl
set_option maxRecDepth 20000 in
theorem sg_X6_lay_38 (LS : Int) (den : nl_D) (h : nl_H) (y1 : Int) : nl_ex LS cd_X6_lay den ct_X6_lay 1 400 38 [some (vO 6 0), some (vI y1)] [] h =
  (if nl_nz (h 6 0 19 0) ≤ nl_nz y1 then
    (den m_X6_begin [vO 6 0] h).bind fun r1 =>
      some (.inr ((nl_up (nl_up (nl_up r1.2 6 0 11 0 0) 6 0 24 0 0) 6 0 29 0 0) 6 0 0 0, nl_up (nl_up (nl_up r1.2 6 0 11 0 0) 6 0 24 0 0) 6 0 29 0 0))
  else
    if 0 ≤ nl_nz (3 * y1) ∧ nl_nz (3 * y1) < 21 then
      if 0 ≤ nl_nz ((3 * y1) + 1) ∧ nl_nz ((3 * y1) + 1) < 21 then
        if 0 ≤ nl_nz ((3 * y1) + 2) ∧ nl_nz ((3 * y1) + 2) < 21 then
          if 0 ≤ nl_nz y1 ∧ nl_nz y1 < 7 then
            (den m_X6_firstHouse [vO 6 0, vI (h 6 0 21 (nl_nz (3 * y1)).toNat), vI (h 6 0 21 (nl_nz ((3 * y1) + 1)).toNat), vI (h 6 0 21 (nl_nz ((3 * y1) + 2)).toNat), vI (h 6 0 20 (nl_nz y1).toNat)] h).bind fun r2 =>
              some (.inl (38, [some (vO 6 0), some (vI (y1 + 1))], r2.2))
          else none
        else none
      else none
    else none) := rfl
set_option maxRecDepth 20000 in
theorem sg_X6_mostOften_0 (LS : Int) (den : nl_D) (h : nl_H) (x1 : Int) : nl_ex LS cd_X6_mostOften den ct_X6_mostOften 1 400 0 [some (vO 6 0), some (vI x1), none, none, none, none] [] h =
  (some (.inl (8, [some (vO 6 0), some (vI x1), some (vI ((-4))), some (vI 0), some (vI 0), none], h))) := rfl
set_option maxRecDepth 20000 in
theorem sg_X6_mostOften_8 (LS : Int) (den : nl_D) (h : nl_H) (y1 : Int) (y2 : Int) (y3 : Int) (y4 : Int) (w5 : Option nl_V) : nl_ex LS cd_X6_mostOften den ct_X6_mostOften 1 400 8 [some (vO 6 0), some (vI y1), some (vI y2), some (vI y3), some (vI y4), w5] [] h =
  (if nl_nz (h 6 0 0 0) ≤ nl_nz y4 then
    some (.inr (y2, h))
  else
    if 0 ≤ nl_nz ((7 * y1) + y4) ∧ nl_nz ((7 * y1) + y4) < 49 then
      if nl_nz (h 6 0 9 (nl_nz ((7 * y1) + y4)).toNat) ≤ nl_nz y3 then
        (den m_X6_greater [vI y3, vI (h 6 0 9 (nl_nz ((7 * y1) + y4)).toNat)] h).bind fun r1 =>
          some (.inl (8, [some (vO 6 0), some (vI y1), some (vI y2), some (vI r1.1), some (vI (y4 + 1)), some (vI (h 6 0 9 (nl_nz ((7 * y1) + y4)).toNat))], r1.2))
      else
        (den m_X6_greater [vI y3, vI (h 6 0 9 (nl_nz ((7 * y1) + y4)).toNat)] h).bind fun r2 =>
          some (.inl (8, [some (vO 6 0), some (vI y1), some (vI y4), some (vI r2.1), some (vI (y4 + 1)), some (vI (h 6 0 9 (nl_nz ((7 * y1) + y4)).toNat))], r2.2))
    else none) := rfl
set_option maxRecDepth 20000 in
theorem sg_X6_weight_0 (LS : Int) (den : nl_D) (h : nl_H) (x1 : Int) (x2 : Int) : nl_ex LS cd_X6_weight den ct_X6_weight 1 400 0 [some (vO 6 0), some (vI x1), some (vI x2), none] [] h =
  (if 0 ≤ nl_nz x2 ∧ nl_nz x2 < 7 then
    if 0 ≤ nl_nz x1 ∧ nl_nz x1 < 7 then
      if nl_nz (h 6 0 1 (nl_nz x1).toNat) = 1 then
        some (.inr (2 * (h 6 0 10 (nl_nz x2).toNat), h))
      else
        if nl_nz (h 6 0 1 (nl_nz x1).toNat) = 1 + 1 then
          (den m_X6_mostOften [vO 6 0, vI x1] h).bind fun r1 =>
            if nl_nz r1.1 = nl_nz x2 then
              if nl_nz 2 = 0 then none else
                some (.inr ((nl_nz (h 6 0 10 (nl_nz x2).toNat)).tdiv (nl_nz 2), r1.2))
            else
              some (.inr (h 6 0 10 (nl_nz x2).toNat, r1.2))
        else
          if nl_nz (h 6 0 1 (nl_nz x1).toNat) = 1 + 1 + 1 then
            if nl_nz x2 = 0 then
              (den m_X6_greater [vI 0, vI ((h 6 0 10 (nl_nz x2).toNat) - 3)] h).bind fun r2 =>
                some (.inr (r2.1, r2.2))
            else
              if nl_nz x2 = nl_nz ((h 6 0 0 0) - 1) then
                (den m_X6_greater [vI 0, vI ((h 6 0 10 (nl_nz x2).toNat) - 3)] h).bind fun r3 =>
                  some (.inr (r3.1, r3.2))
              else
                some (.inr (h 6 0 10 (nl_nz x2).toNat, h))
          else
            some (.inr (h 6 0 10 (nl_nz x2).toNat, h))
    else none
  else none) := rfl
set_option maxRecDepth 20000 in
theorem sg_X6_keeps_0 (LS : Int) (den : nl_D) (h : nl_H) (x1 : Int) (x2 : Int) : nl_ex LS cd_X6_keeps den ct_X6_keeps 3 400 0 [some (vO 6 0), some (vI x1), some (vI x2)] [] h =
  ((den m_X6_weight [vO 6 0, vI x1, vI x2] h).bind fun r1 =>
    if 0 ≤ nl_nz x1 ∧ nl_nz x1 < 7 then
      if 0 ≤ nl_nz x1 ∧ nl_nz x1 < 7 then
        if nl_nz ((r1.2 6 0 2 (nl_nz x1).toNat) - (r1.2 6 0 7 (nl_nz x1).toNat)) < nl_nz r1.1 then
          some (.inr (0, r1.2))
        else
          some (.inr (1, r1.2))
      else none
    else none) := rfl
set_option maxRecDepth 20000 in
theorem sg_X6_gapSet_0 (LS : Int) (den : nl_D) (h : nl_H)  : nl_ex LS cd_X6_gapSet den ct_X6_gapSet 1 400 0 [some (vO 6 0), none, none] [] h =
  (some (.inl (4, [some (vO 6 0), some (vI 0), some (vI 0)], h))) := rfl
set_option maxRecDepth 20000 in
theorem sg_X6_gapSet_4 (LS : Int) (den : nl_D) (h : nl_H) (y1 : Int) (y2 : Int) : nl_ex LS cd_X6_gapSet den ct_X6_gapSet 1 400 4 [some (vO 6 0), some (vI y1), some (vI y2)] [] h =
  (if nl_nz (h 6 0 0 0) ≤ nl_nz y2 then
    some (.inr (y1, h))
  else
    if 0 ≤ nl_nz y2 ∧ nl_nz y2 < 7 then
      (den m_X6_keeps [vO 6 0, vI y2, vI (h 6 0 6 (nl_nz y2).toNat)] h).bind fun r1 =>
        if nl_nz r1.1 = 0 then
          if 0 ≤ nl_nz y2 ∧ nl_nz y2 < 7 then if 0 ≤ nl_nz (r1.2 6 0 6 (nl_nz y2).toNat) ∧ nl_nz (r1.2 6 0 6 (nl_nz y2).toNat) < 32 then if 0 ≤ nl_nz y1 ∧ 0 ≤ nl_nz (1 * 2 ^ (nl_nz (r1.2 6 0 6 (nl_nz y2).toNat)).toNat) then some (.inl (4, [some (vO 6 0), some (vI ((((nl_nz y1).toNat ||| (nl_nz (1 * 2 ^ (nl_nz (r1.2 6 0 6 (nl_nz y2).toNat)).toNat)).toNat : Nat) : Int))), some (vI (y2 + 1))], r1.2)) else none else none else none
        else
          if 0 ≤ nl_nz y1 ∧ 0 ≤ nl_nz 0 then some (.inl (4, [some (vO 6 0), some (vI ((((nl_nz y1).toNat ||| (nl_nz 0).toNat : Nat) : Int))), some (vI (y2 + 1))], r1.2)) else none
    else none) := rfl
set_option maxRecDepth 20000 in
theorem sg_X6_passes_0 (LS : Int) (den : nl_D) (h : nl_H)  : nl_ex LS cd_X6_passes den ct_X6_passes 1 400 0 [some (vO 6 0), none, none, none] [] h =
  (some (.inl (4, [some (vO 6 0), some (vI 0), some (vI 0), none], h))) := rfl
set_option maxRecDepth 20000 in
theorem sg_X6_passes_4 (LS : Int) (den : nl_D) (h : nl_H) (y1 : Int) (y2 : Int) (w3 : Option nl_V) : nl_ex LS cd_X6_passes den ct_X6_passes 1 400 4 [some (vO 6 0), some (vI y1), some (vI y2), w3] [] h =
  (if nl_nz (h 6 0 0 0) ≤ nl_nz y2 then
    some (.inr (y1, nl_up (nl_up h 6 0 4 0 ((h 6 0 4 0) + 1)) 6 0 5 0 (((nl_up h 6 0 4 0 ((h 6 0 4 0) + 1)) 6 0 5 0) + y1)))
  else
    if 0 ≤ nl_nz y2 ∧ nl_nz y2 < 7 then
      (den m_X6_keeps [vO 6 0, vI y2, vI (h 6 0 6 (nl_nz y2).toNat)] h).bind fun r1 =>
        if nl_nz r1.1 = 0 then
          if 0 ≤ nl_nz y2 ∧ nl_nz y2 < 7 then
            (den m_X6_greater [vI 0, vI ((r1.2 6 0 7 (nl_nz y2).toNat) - 3)] r1.2).bind fun r2 =>
              if 0 ≤ nl_nz y2 ∧ nl_nz y2 < 7 then
                if 0 ≤ nl_nz y2 ∧ nl_nz y2 < 7 then
                  if 0 ≤ nl_nz y2 ∧ nl_nz y2 < 7 then
                    if 0 ≤ nl_nz ((7 * y2) + (h 6 0 6 (nl_nz y2).toNat)) ∧ nl_nz ((7 * y2) + (h 6 0 6 (nl_nz y2).toNat)) < 49 then
                      if 0 ≤ nl_nz ((7 * y2) + (h 6 0 6 (nl_nz y2).toNat)) ∧ nl_nz ((7 * y2) + (h 6 0 6 (nl_nz y2).toNat)) < 49 then
                        if nl_nz ((nl_up (nl_up (nl_up r2.2 6 0 7 (nl_nz y2).toNat r2.1) 6 0 8 (nl_nz y2).toNat (((nl_up r2.2 6 0 7 (nl_nz y2).toNat r2.1) 6 0 8 (nl_nz y2).toNat) + 1)) 6 0 9 (nl_nz ((7 * y2) + (h 6 0 6 (nl_nz y2).toNat))).toNat (((nl_up (nl_up r2.2 6 0 7 (nl_nz y2).toNat r2.1) 6 0 8 (nl_nz y2).toNat (((nl_up r2.2 6 0 7 (nl_nz y2).toNat r2.1) 6 0 8 (nl_nz y2).toNat) + 1)) 6 0 9 (nl_nz ((7 * y2) + (h 6 0 6 (nl_nz y2).toNat))).toNat) + 1)) 6 0 0 0) ≤ nl_nz ((h 6 0 6 (nl_nz y2).toNat) + 1) then
                          if 0 ≤ nl_nz y2 ∧ nl_nz y2 < 7 then some (.inl (4, [some (vO 6 0), some (vI (y1 + 1)), some (vI (y2 + 1)), some (vI (h 6 0 6 (nl_nz y2).toNat))], nl_up (nl_up (nl_up (nl_up r2.2 6 0 7 (nl_nz y2).toNat r2.1) 6 0 8 (nl_nz y2).toNat (((nl_up r2.2 6 0 7 (nl_nz y2).toNat r2.1) 6 0 8 (nl_nz y2).toNat) + 1)) 6 0 9 (nl_nz ((7 * y2) + (h 6 0 6 (nl_nz y2).toNat))).toNat (((nl_up (nl_up r2.2 6 0 7 (nl_nz y2).toNat r2.1) 6 0 8 (nl_nz y2).toNat (((nl_up r2.2 6 0 7 (nl_nz y2).toNat r2.1) 6 0 8 (nl_nz y2).toNat) + 1)) 6 0 9 (nl_nz ((7 * y2) + (h 6 0 6 (nl_nz y2).toNat))).toNat) + 1)) 6 0 6 (nl_nz y2).toNat 0)) else none
                        else
                          if 0 ≤ nl_nz y2 ∧ nl_nz y2 < 7 then some (.inl (4, [some (vO 6 0), some (vI (y1 + 1)), some (vI (y2 + 1)), some (vI (h 6 0 6 (nl_nz y2).toNat))], nl_up (nl_up (nl_up (nl_up r2.2 6 0 7 (nl_nz y2).toNat r2.1) 6 0 8 (nl_nz y2).toNat (((nl_up r2.2 6 0 7 (nl_nz y2).toNat r2.1) 6 0 8 (nl_nz y2).toNat) + 1)) 6 0 9 (nl_nz ((7 * y2) + (h 6 0 6 (nl_nz y2).toNat))).toNat (((nl_up (nl_up r2.2 6 0 7 (nl_nz y2).toNat r2.1) 6 0 8 (nl_nz y2).toNat (((nl_up r2.2 6 0 7 (nl_nz y2).toNat r2.1) 6 0 8 (nl_nz y2).toNat) + 1)) 6 0 9 (nl_nz ((7 * y2) + (h 6 0 6 (nl_nz y2).toNat))).toNat) + 1)) 6 0 6 (nl_nz y2).toNat ((h 6 0 6 (nl_nz y2).toNat) + 1))) else none
                      else none
                    else none
                  else none
                else none
              else none
          else none
        else
          if 0 ≤ nl_nz y2 ∧ nl_nz y2 < 7 then
            (den m_X6_lesser [vI 40, vI ((r1.2 6 0 7 (nl_nz y2).toNat) + 2)] r1.2).bind fun r3 =>
              if 0 ≤ nl_nz y2 ∧ nl_nz y2 < 7 then
                if 0 ≤ nl_nz ((7 * y2) + (h 6 0 6 (nl_nz y2).toNat)) ∧ nl_nz ((7 * y2) + (h 6 0 6 (nl_nz y2).toNat)) < 49 then
                  if 0 ≤ nl_nz ((7 * y2) + (h 6 0 6 (nl_nz y2).toNat)) ∧ nl_nz ((7 * y2) + (h 6 0 6 (nl_nz y2).toNat)) < 49 then
                    if nl_nz ((nl_up (nl_up r3.2 6 0 7 (nl_nz y2).toNat r3.1) 6 0 9 (nl_nz ((7 * y2) + (h 6 0 6 (nl_nz y2).toNat))).toNat (((nl_up r3.2 6 0 7 (nl_nz y2).toNat r3.1) 6 0 9 (nl_nz ((7 * y2) + (h 6 0 6 (nl_nz y2).toNat))).toNat) + 1)) 6 0 0 0) ≤ nl_nz ((h 6 0 6 (nl_nz y2).toNat) + 1) then
                      if 0 ≤ nl_nz y2 ∧ nl_nz y2 < 7 then some (.inl (4, [some (vO 6 0), some (vI y1), some (vI (y2 + 1)), some (vI (h 6 0 6 (nl_nz y2).toNat))], nl_up (nl_up (nl_up r3.2 6 0 7 (nl_nz y2).toNat r3.1) 6 0 9 (nl_nz ((7 * y2) + (h 6 0 6 (nl_nz y2).toNat))).toNat (((nl_up r3.2 6 0 7 (nl_nz y2).toNat r3.1) 6 0 9 (nl_nz ((7 * y2) + (h 6 0 6 (nl_nz y2).toNat))).toNat) + 1)) 6 0 6 (nl_nz y2).toNat 0)) else none
                    else
                      if 0 ≤ nl_nz y2 ∧ nl_nz y2 < 7 then some (.inl (4, [some (vO 6 0), some (vI y1), some (vI (y2 + 1)), some (vI (h 6 0 6 (nl_nz y2).toNat))], nl_up (nl_up (nl_up r3.2 6 0 7 (nl_nz y2).toNat r3.1) 6 0 9 (nl_nz ((7 * y2) + (h 6 0 6 (nl_nz y2).toNat))).toNat (((nl_up r3.2 6 0 7 (nl_nz y2).toNat r3.1) 6 0 9 (nl_nz ((7 * y2) + (h 6 0 6 (nl_nz y2).toNat))).toNat) + 1)) 6 0 6 (nl_nz y2).toNat ((h 6 0 6 (nl_nz y2).toNat) + 1))) else none
                  else none
                else none
              else none
          else none
    else none) := rfl
set_option maxRecDepth 20000 in
theorem sg_X6_goesOn_0 (LS : Int) (den : nl_D) (h : nl_H) (x1 : Int) : nl_ex LS cd_X6_goesOn den ct_X6_goesOn 1 400 0 [some (vO 6 0), some (vI x1), none, none] [] h =
  (some (.inl (4, [some (vO 6 0), some (vI x1), some (vI 0), some (vI 0)], h))) := rfl
set_option maxRecDepth 20000 in
theorem sg_X6_goesOn_4 (LS : Int) (den : nl_D) (h : nl_H) (y1 : Int) (y2 : Int) (y3 : Int) : nl_ex LS cd_X6_goesOn den ct_X6_goesOn 1 400 4 [some (vO 6 0), some (vI y1), some (vI y2), some (vI y3)] [] h =
  (if nl_nz y1 ≤ nl_nz y3 then
    some (.inr (y2, h))
  else
    (den m_X6_passes [vO 6 0] h).bind fun r1 =>
      some (.inl (4, [some (vO 6 0), some (vI y1), some (vI (y2 + r1.1)), some (vI (y3 + 1))], r1.2))) := rfl
set_option maxRecDepth 20000 in
theorem sg_X6_house_0 (LS : Int) (den : nl_D) (h : nl_H) (x1 : Int) (x2 : Int) : nl_ex LS cd_X6_house den ct_X6_house 1 400 0 [some (vO 6 0), some (vI x1), some (vI x2)] [] h =
  ((den m_X6_isOne [vO 6 0, vI x1] h).bind fun r1 =>
    if nl_nz r1.1 = 0 then
      some (.inr ((-1), r1.2))
    else
      (den m_X6_in [vI x2, vI 0, vI 5] r1.2).bind fun r2 =>
        if nl_nz r2.1 = 0 then
          some (.inr ((-1), r2.2))
        else
          if nl_nz x2 = 0 then
            if 0 ≤ nl_nz x1 ∧ nl_nz x1 < 7 then some (.inr (r2.2 6 0 1 (nl_nz x1).toNat, r2.2)) else none
          else
            if nl_nz x2 = 0 + 1 then
              if 0 ≤ nl_nz x1 ∧ nl_nz x1 < 7 then some (.inr (r2.2 6 0 2 (nl_nz x1).toNat, r2.2)) else none
            else
              if nl_nz x2 = 0 + 1 + 1 then
                if 0 ≤ nl_nz x1 ∧ nl_nz x1 < 7 then some (.inr (r2.2 6 0 3 (nl_nz x1).toNat, r2.2)) else none
              else
                if nl_nz x2 = 0 + 1 + 1 + 1 then
                  if 0 ≤ nl_nz x1 ∧ nl_nz x1 < 7 then some (.inr (r2.2 6 0 7 (nl_nz x1).toNat, r2.2)) else none
                else
                  if nl_nz x2 = 0 + 1 + 1 + 1 + 1 then
                    if 0 ≤ nl_nz x1 ∧ nl_nz x1 < 7 then some (.inr (r2.2 6 0 6 (nl_nz x1).toNat, r2.2)) else none
                  else
                    if 0 ≤ nl_nz x1 ∧ nl_nz x1 < 7 then some (.inr (r2.2 6 0 8 (nl_nz x1).toNat, r2.2)) else none) := rfl
set_option maxRecDepth 20000 in
theorem sg_X6_whoHas_0 (LS : Int) (den : nl_D) (h : nl_H) (x1 : Int) : nl_ex LS cd_X6_whoHas den ct_X6_whoHas 1 400 0 [some (vO 6 0), some (vI x1), none] [] h =
  (some (.inl (2, [some (vO 6 0), some (vI x1), some (vI 0)], h))) := rfl
set_option maxRecDepth 20000 in
theorem sg_X6_whoHas_2 (LS : Int) (den : nl_D) (h : nl_H) (y1 : Int) (y2 : Int) : nl_ex LS cd_X6_whoHas den ct_X6_whoHas 1 400 2 [some (vO 6 0), some (vI y1), some (vI y2)] [] h =
  (if 0 ≤ nl_nz y2 ∧ nl_nz y2 < 7 then
    if nl_nz (h 6 0 6 (nl_nz y2).toNat) = nl_nz y1 then
      some (.inr (y2, h))
    else
      some (.inl (2, [some (vO 6 0), some (vI y1), some (vI (y2 + 1))], h))
  else none) := rfl
set_option maxRecDepth 20000 in
theorem sg_X6_hour_0 (LS : Int) (den : nl_D) (h : nl_H) (x1 : Int) (x2 : Int) : nl_ex LS cd_X6_hour den ct_X6_hour 1 400 0 [some (vO 6 0), some (vI x1), some (vI x2)] [] h =
  ((den m_X6_isOne [vO 6 0, vI x1] h).bind fun r1 =>
    if nl_nz r1.1 = 0 then
      some (.inr ((-1), r1.2))
    else
      (den m_X6_in [vI x2, vI 0, vI 1] r1.2).bind fun r2 =>
        if nl_nz r2.1 = 0 then
          some (.inr ((-1), r2.2))
        else
          if nl_nz x2 = 0 then
            if 0 ≤ nl_nz x1 ∧ nl_nz x1 < 7 then some (.inr (r2.2 6 0 10 (nl_nz x1).toNat, r2.2)) else none
          else
            (den m_X6_whoHas [vO 6 0, vI x1] r2.2).bind fun r3 =>
              some (.inr (r3.1, r3.2))) := rfl
set_option maxRecDepth 20000 in
theorem sg_X6_heavy_0 (LS : Int) (den : nl_D) (h : nl_H) (x1 : Int) (x2 : Int) : nl_ex LS cd_X6_heavy den ct_X6_heavy 1 400 0 [some (vO 6 0), some (vI x1), some (vI x2)] [] h =
  ((den m_X6_isOne [vO 6 0, vI x1] h).bind fun r1 =>
    if nl_nz r1.1 = 0 then
      some (.inr ((-1), r1.2))
    else
      (den m_X6_isOne [vO 6 0, vI x2] r1.2).bind fun r2 =>
        if nl_nz r2.1 = 0 then
          some (.inr ((-1), r2.2))
        else
          (den m_X6_weight [vO 6 0, vI x1, vI x2] r2.2).bind fun r3 =>
            some (.inr (r3.1, r3.2))) := rfl
set_option maxRecDepth 20000 in
theorem sg_X6_had_0 (LS : Int) (den : nl_D) (h : nl_H) (x1 : Int) (x2 : Int) : nl_ex LS cd_X6_had den ct_X6_had 1 400 0 [some (vO 6 0), some (vI x1), some (vI x2)] [] h =
  ((den m_X6_isOne [vO 6 0, vI x1] h).bind fun r1 =>
    if nl_nz r1.1 = 0 then
      some (.inr ((-1), r1.2))
    else
      (den m_X6_isOne [vO 6 0, vI x2] r1.2).bind fun r2 =>
        if nl_nz r2.1 = 0 then
          some (.inr ((-1), r2.2))
        else
          if 0 ≤ nl_nz ((7 * x1) + x2) ∧ nl_nz ((7 * x1) + x2) < 49 then some (.inr (r2.2 6 0 9 (nl_nz ((7 * x1) + x2)).toNat, r2.2)) else none) := rfl
set_option maxRecDepth 20000 in
theorem sg_X6_lays_0 (LS : Int) (den : nl_D) (h : nl_H) (k : Nat) (x1 : Int) : nl_ex LS cd_X6_lays den ct_X6_lays 0 400 0 [some (vO 6 0), some (vA 6 0 k), some (vI x1), none] [] h =
  (if 0 ≤ nl_nz x1 ∧ nl_nz x1 < nl_al LS 6 0 k then if 0 ≤ nl_nz (x1 + 1) ∧ nl_nz (x1 + 1) < nl_al LS 6 0 k then some (.inl (18, [some (vO 6 0), some (vA 6 0 k), some (vI x1), some (vI 0)], nl_up (nl_up h 6 0 k (nl_nz x1).toNat (h 6 0 4 0)) 6 0 k (nl_nz (x1 + 1)).toNat ((nl_up h 6 0 k (nl_nz x1).toNat (h 6 0 4 0)) 6 0 5 0))) else none else none) := rfl
set_option maxRecDepth 20000 in
theorem sg_X6_lays_18 (LS : Int) (den : nl_D) (h : nl_H) (k : Nat) (y2 : Int) (y3 : Int) : nl_ex LS cd_X6_lays den ct_X6_lays 0 400 18 [some (vO 6 0), some (vA 6 0 k), some (vI y2), some (vI y3)] [] h =
  (if nl_nz 7 ≤ nl_nz y3 then
    some (.inl (87, [some (vO 6 0), some (vA 6 0 k), some (vI y2), some (vI 0)], h))
  else
    if 0 ≤ nl_nz y3 ∧ nl_nz y3 < 7 then if 0 ≤ nl_nz ((y2 + 2) + y3) ∧ nl_nz ((y2 + 2) + y3) < nl_al LS 6 0 k then if 0 ≤ nl_nz y3 ∧ nl_nz y3 < 7 then if 0 ≤ nl_nz ((y2 + 9) + y3) ∧ nl_nz ((y2 + 9) + y3) < nl_al LS 6 0 k then if 0 ≤ nl_nz y3 ∧ nl_nz y3 < 7 then if 0 ≤ nl_nz ((y2 + 16) + y3) ∧ nl_nz ((y2 + 16) + y3) < nl_al LS 6 0 k then if 0 ≤ nl_nz y3 ∧ nl_nz y3 < 7 then if 0 ≤ nl_nz ((y2 + 23) + y3) ∧ nl_nz ((y2 + 23) + y3) < nl_al LS 6 0 k then some (.inl (18, [some (vO 6 0), some (vA 6 0 k), some (vI y2), some (vI (y3 + 1))], nl_up (nl_up (nl_up (nl_up h 6 0 k (nl_nz ((y2 + 2) + y3)).toNat (h 6 0 6 (nl_nz y3).toNat)) 6 0 k (nl_nz ((y2 + 9) + y3)).toNat ((nl_up h 6 0 k (nl_nz ((y2 + 2) + y3)).toNat (h 6 0 6 (nl_nz y3).toNat)) 6 0 7 (nl_nz y3).toNat)) 6 0 k (nl_nz ((y2 + 16) + y3)).toNat ((nl_up (nl_up h 6 0 k (nl_nz ((y2 + 2) + y3)).toNat (h 6 0 6 (nl_nz y3).toNat)) 6 0 k (nl_nz ((y2 + 9) + y3)).toNat ((nl_up h 6 0 k (nl_nz ((y2 + 2) + y3)).toNat (h 6 0 6 (nl_nz y3).toNat)) 6 0 7 (nl_nz y3).toNat)) 6 0 8 (nl_nz y3).toNat)) 6 0 k (nl_nz ((y2 + 23) + y3)).toNat ((nl_up (nl_up (nl_up h 6 0 k (nl_nz ((y2 + 2) + y3)).toNat (h 6 0 6 (nl_nz y3).toNat)) 6 0 k (nl_nz ((y2 + 9) + y3)).toNat ((nl_up h 6 0 k (nl_nz ((y2 + 2) + y3)).toNat (h 6 0 6 (nl_nz y3).toNat)) 6 0 7 (nl_nz y3).toNat)) 6 0 k (nl_nz ((y2 + 16) + y3)).toNat ((nl_up (nl_up h 6 0 k (nl_nz ((y2 + 2) + y3)).toNat (h 6 0 6 (nl_nz y3).toNat)) 6 0 k (nl_nz ((y2 + 9) + y3)).toNat ((nl_up h 6 0 k (nl_nz ((y2 + 2) + y3)).toNat (h 6 0 6 (nl_nz y3).toNat)) 6 0 7 (nl_nz y3).toNat)) 6 0 8 (nl_nz y3).toNat)) 6 0 10 (nl_nz y3).toNat))) else none else none else none else none else none else none else none else none) := rfl
set_option maxRecDepth 20000 in
theorem sg_X6_lays_87 (LS : Int) (den : nl_D) (h : nl_H) (k : Nat) (y2 : Int) (y3 : Int) : nl_ex LS cd_X6_lays den ct_X6_lays 0 400 87 [some (vO 6 0), some (vA 6 0 k), some (vI y2), some (vI y3)] [] h =
  (if nl_nz 49 ≤ nl_nz y3 then
    some (.inr (0, h))
  else
    if 0 ≤ nl_nz y3 ∧ nl_nz y3 < 49 then if 0 ≤ nl_nz ((y2 + 30) + y3) ∧ nl_nz ((y2 + 30) + y3) < nl_al LS 6 0 k then some (.inl (87, [some (vO 6 0), some (vA 6 0 k), some (vI y2), some (vI (y3 + 1))], nl_up h 6 0 k (nl_nz ((y2 + 30) + y3)).toNat (h 6 0 9 (nl_nz y3).toNat))) else none else none) := rfl
set_option maxRecDepth 20000 in
theorem sg_X6_takes_0 (LS : Int) (den : nl_D) (h : nl_H) (k : Nat) (x1 : Int) : nl_ex LS cd_X6_takes den ct_X6_takes 0 400 0 [some (vO 6 0), some (vA 6 0 k), some (vI x1), none] [] h =
  (if 0 ≤ nl_nz x1 ∧ nl_nz x1 < nl_al LS 6 0 k then if 0 ≤ nl_nz (x1 + 1) ∧ nl_nz (x1 + 1) < nl_al LS 6 0 k then some (.inl (18, [some (vO 6 0), some (vA 6 0 k), some (vI x1), some (vI 0)], nl_up (nl_up h 6 0 4 0 (h 6 0 k (nl_nz x1).toNat)) 6 0 5 0 ((nl_up h 6 0 4 0 (h 6 0 k (nl_nz x1).toNat)) 6 0 k (nl_nz (x1 + 1)).toNat))) else none else none) := rfl
set_option maxRecDepth 20000 in
theorem sg_X6_takes_18 (LS : Int) (den : nl_D) (h : nl_H) (k : Nat) (y2 : Int) (y3 : Int) : nl_ex LS cd_X6_takes den ct_X6_takes 0 400 18 [some (vO 6 0), some (vA 6 0 k), some (vI y2), some (vI y3)] [] h =
  (if nl_nz 7 ≤ nl_nz y3 then
    some (.inl (87, [some (vO 6 0), some (vA 6 0 k), some (vI y2), some (vI 0)], h))
  else
    if 0 ≤ nl_nz ((y2 + 2) + y3) ∧ nl_nz ((y2 + 2) + y3) < nl_al LS 6 0 k then if 0 ≤ nl_nz y3 ∧ nl_nz y3 < 7 then if 0 ≤ nl_nz ((y2 + 9) + y3) ∧ nl_nz ((y2 + 9) + y3) < nl_al LS 6 0 k then if 0 ≤ nl_nz y3 ∧ nl_nz y3 < 7 then if 0 ≤ nl_nz ((y2 + 16) + y3) ∧ nl_nz ((y2 + 16) + y3) < nl_al LS 6 0 k then if 0 ≤ nl_nz y3 ∧ nl_nz y3 < 7 then if 0 ≤ nl_nz ((y2 + 23) + y3) ∧ nl_nz ((y2 + 23) + y3) < nl_al LS 6 0 k then if 0 ≤ nl_nz y3 ∧ nl_nz y3 < 7 then some (.inl (18, [some (vO 6 0), some (vA 6 0 k), some (vI y2), some (vI (y3 + 1))], nl_up (nl_up (nl_up (nl_up h 6 0 6 (nl_nz y3).toNat (h 6 0 k (nl_nz ((y2 + 2) + y3)).toNat)) 6 0 7 (nl_nz y3).toNat ((nl_up h 6 0 6 (nl_nz y3).toNat (h 6 0 k (nl_nz ((y2 + 2) + y3)).toNat)) 6 0 k (nl_nz ((y2 + 9) + y3)).toNat)) 6 0 8 (nl_nz y3).toNat ((nl_up (nl_up h 6 0 6 (nl_nz y3).toNat (h 6 0 k (nl_nz ((y2 + 2) + y3)).toNat)) 6 0 7 (nl_nz y3).toNat ((nl_up h 6 0 6 (nl_nz y3).toNat (h 6 0 k (nl_nz ((y2 + 2) + y3)).toNat)) 6 0 k (nl_nz ((y2 + 9) + y3)).toNat)) 6 0 k (nl_nz ((y2 + 16) + y3)).toNat)) 6 0 10 (nl_nz y3).toNat ((nl_up (nl_up (nl_up h 6 0 6 (nl_nz y3).toNat (h 6 0 k (nl_nz ((y2 + 2) + y3)).toNat)) 6 0 7 (nl_nz y3).toNat ((nl_up h 6 0 6 (nl_nz y3).toNat (h 6 0 k (nl_nz ((y2 + 2) + y3)).toNat)) 6 0 k (nl_nz ((y2 + 9) + y3)).toNat)) 6 0 8 (nl_nz y3).toNat ((nl_up (nl_up h 6 0 6 (nl_nz y3).toNat (h 6 0 k (nl_nz ((y2 + 2) + y3)).toNat)) 6 0 7 (nl_nz y3).toNat ((nl_up h 6 0 6 (nl_nz y3).toNat (h 6 0 k (nl_nz ((y2 + 2) + y3)).toNat)) 6 0 k (nl_nz ((y2 + 9) + y3)).toNat)) 6 0 k (nl_nz ((y2 + 16) + y3)).toNat)) 6 0 k (nl_nz ((y2 + 23) + y3)).toNat))) else none else none else none else none else none else none else none else none) := rfl
set_option maxRecDepth 20000 in
theorem sg_X6_takes_87 (LS : Int) (den : nl_D) (h : nl_H) (k : Nat) (y2 : Int) (y3 : Int) : nl_ex LS cd_X6_takes den ct_X6_takes 0 400 87 [some (vO 6 0), some (vA 6 0 k), some (vI y2), some (vI y3)] [] h =
  (if nl_nz 49 ≤ nl_nz y3 then
    some (.inr (0, h))
  else
    if 0 ≤ nl_nz ((y2 + 30) + y3) ∧ nl_nz ((y2 + 30) + y3) < nl_al LS 6 0 k then if 0 ≤ nl_nz y3 ∧ nl_nz y3 < 49 then some (.inl (87, [some (vO 6 0), some (vA 6 0 k), some (vI y2), some (vI (y3 + 1))], nl_up h 6 0 9 (nl_nz y3).toNat (h 6 0 k (nl_nz ((y2 + 30) + y3)).toNat))) else none else none) := rfl
set_option maxRecDepth 20000 in
theorem sg_X6_notes_0 (LS : Int) (den : nl_D) (h : nl_H)  : nl_ex LS cd_X6_notes den ct_X6_notes 0 400 0 [some (vO 6 0), none] [] h =
  (if nl_nz (h 6 0 24 0) = nl_nz 8 then
    some (.inl (11, [some (vO 6 0), some (vI 0)], h))
  else
    (den m_X6_lays [vO 6 0, vA 6 0 23, vI (79 * (h 6 0 24 0))] h).bind fun r1 =>
      some (.inr (0, nl_up r1.2 6 0 24 0 ((r1.2 6 0 24 0) + 1)))) := rfl
set_option maxRecDepth 20000 in
theorem sg_X6_notes_11 (LS : Int) (den : nl_D) (h : nl_H) (y1 : Int) : nl_ex LS cd_X6_notes den ct_X6_notes 0 400 11 [some (vO 6 0), some (vI y1)] [] h =
  (if nl_nz 553 ≤ nl_nz y1 then
    (den m_X6_lays [vO 6 0, vA 6 0 23, vI (79 * ((nl_up h 6 0 24 0 ((h 6 0 24 0) - 1)) 6 0 24 0))] (nl_up h 6 0 24 0 ((h 6 0 24 0) - 1))).bind fun r1 =>
      some (.inr (0, nl_up r1.2 6 0 24 0 ((r1.2 6 0 24 0) + 1)))
  else
    if 0 ≤ nl_nz (y1 + 79) ∧ nl_nz (y1 + 79) < 632 then if 0 ≤ nl_nz y1 ∧ nl_nz y1 < 632 then some (.inl (11, [some (vO 6 0), some (vI (y1 + 1))], nl_up h 6 0 23 (nl_nz y1).toNat (h 6 0 23 (nl_nz (y1 + 79)).toNat))) else none else none) := rfl
set_option maxRecDepth 20000 in
theorem sg_X6_pass_0 (LS : Int) (den : nl_D) (h : nl_H) (x1 : Int) : nl_ex LS cd_X6_pass den ct_X6_pass 1 400 0 [some (vO 6 0), some (vI x1)] [] h =
  ((den m_X6_in [vI x1, vI 1, vI 20] h).bind fun r1 =>
    if nl_nz r1.1 = 0 then
      some (.inr ((-1), r1.2))
    else
      if nl_nz ((r1.2 6 0 4 0) + x1) ≤ nl_nz 999 then
        (den m_X6_notes [vO 6 0] r1.2).bind fun r2 =>
          (den m_X6_goesOn [vO 6 0, vI x1] r2.2).bind fun r3 =>
            some (.inr (r3.1, r3.2))
      else
        some (.inr ((-2), r1.2))) := rfl
set_option maxRecDepth 20000 in
theorem sg_X6_trades_0 (LS : Int) (den : nl_D) (h : nl_H) (x1 : Int) (x2 : Int) : nl_ex LS cd_X6_trades den ct_X6_trades 0 400 0 [some (vO 6 0), some (vI x1), some (vI x2), none] [] h =
  (if 0 ≤ nl_nz x1 ∧ nl_nz x1 < 7 then if 0 ≤ nl_nz x2 ∧ nl_nz x2 < 7 then if 0 ≤ nl_nz x1 ∧ nl_nz x1 < 7 then if 0 ≤ nl_nz x2 ∧ nl_nz x2 < 7 then some (.inr (0, nl_up (nl_up h 6 0 6 (nl_nz x1).toNat (h 6 0 6 (nl_nz x2).toNat)) 6 0 6 (nl_nz x2).toNat (h 6 0 6 (nl_nz x1).toNat))) else none else none else none else none) := rfl
set_option maxRecDepth 20000 in
theorem sg_X6_swap_0 (LS : Int) (den : nl_D) (h : nl_H) (x1 : Int) (x2 : Int) : nl_ex LS cd_X6_swap den ct_X6_swap 1 400 0 [some (vO 6 0), some (vI x1), some (vI x2)] [] h =
  ((den m_X6_isOne [vO 6 0, vI x1] h).bind fun r1 =>
    if nl_nz r1.1 = 0 then
      some (.inr ((-1), r1.2))
    else
      (den m_X6_isOne [vO 6 0, vI x2] r1.2).bind fun r2 =>
        if nl_nz r2.1 = 0 then
          some (.inr ((-1), r2.2))
        else
          if nl_nz x1 = nl_nz x2 then
            some (.inr ((-1), r2.2))
          else
            (den m_X6_notes [vO 6 0] r2.2).bind fun r3 =>
              (den m_X6_trades [vO 6 0, vI x1, vI x2] r3.2).bind fun r4 =>
                if 0 ≤ nl_nz x1 ∧ nl_nz x1 < 7 then some (.inr (r4.2 6 0 6 (nl_nz x1).toNat, r4.2)) else none) := rfl
set_option maxRecDepth 20000 in
theorem sg_X6_rests_0 (LS : Int) (den : nl_D) (h : nl_H) (x1 : Int) : nl_ex LS cd_X6_rests den ct_X6_rests 0 400 0 [some (vO 6 0), some (vI x1)] [] h =
  (if 0 ≤ nl_nz x1 ∧ nl_nz x1 < 7 then
    (den m_X6_greater [vI 0, vI ((h 6 0 7 (nl_nz x1).toNat) - 5)] h).bind fun r1 =>
      if 0 ≤ nl_nz x1 ∧ nl_nz x1 < 7 then some (.inr (0, nl_up r1.2 6 0 7 (nl_nz x1).toNat r1.1)) else none
  else none) := rfl
set_option maxRecDepth 20000 in
theorem sg_X6_rest_0 (LS : Int) (den : nl_D) (h : nl_H) (x1 : Int) : nl_ex LS cd_X6_rest den ct_X6_rest 1 400 0 [some (vO 6 0), some (vI x1)] [] h =
  ((den m_X6_isOne [vO 6 0, vI x1] h).bind fun r1 =>
    if nl_nz r1.1 = 0 then
      some (.inr ((-1), r1.2))
    else
      if 0 ≤ nl_nz x1 ∧ nl_nz x1 < 7 then
        if nl_nz (r1.2 6 0 7 (nl_nz x1).toNat) = 0 then
          some (.inr ((-2), r1.2))
        else
          (den m_X6_notes [vO 6 0] r1.2).bind fun r2 =>
            (den m_X6_rests [vO 6 0, vI x1] r2.2).bind fun r3 =>
              if 0 ≤ nl_nz x1 ∧ nl_nz x1 < 7 then some (.inr (r3.2 6 0 7 (nl_nz x1).toNat, r3.2)) else none
      else none) := rfl
set_option maxRecDepth 20000 in
theorem sg_X6_burden_0 (LS : Int) (den : nl_D) (h : nl_H) (x1 : Int) (x2 : Int) : nl_ex LS cd_X6_burden den ct_X6_burden 1 400 0 [some (vO 6 0), some (vI x1), some (vI x2), none] [] h =
  ((den m_X6_isOne [vO 6 0, vI x1] h).bind fun r1 =>
    if nl_nz r1.1 = 0 then
      some (.inr ((-1), r1.2))
    else
      (den m_X6_in [vI x2, vI 0, vI 20] r1.2).bind fun r2 =>
        if nl_nz r2.1 = 0 then
          some (.inr ((-1), r2.2))
        else
          if 0 ≤ nl_nz x1 ∧ nl_nz x1 < 7 then
            if nl_nz (r2.2 6 0 10 (nl_nz x1).toNat) = nl_nz x2 then
              some (.inr ((-2), r2.2))
            else
              (den m_X6_notes [vO 6 0] r2.2).bind fun r3 =>
                if 0 ≤ nl_nz x1 ∧ nl_nz x1 < 7 then some (.inr (r2.2 6 0 10 (nl_nz x1).toNat, nl_up r3.2 6 0 10 (nl_nz x1).toNat x2)) else none
          else none) := rfl
set_option maxRecDepth 20000 in
theorem sg_X6_undo_0 (LS : Int) (den : nl_D) (h : nl_H)  : nl_ex LS cd_X6_undo den ct_X6_undo 1 400 0 [some (vO 6 0)] [] h =
  (if nl_nz (h 6 0 24 0) = 0 then
    some (.inr ((-2), h))
  else
    (den m_X6_takes [vO 6 0, vA 6 0 23, vI (79 * ((nl_up h 6 0 24 0 ((h 6 0 24 0) - 1)) 6 0 24 0))] (nl_up h 6 0 24 0 ((h 6 0 24 0) - 1))).bind fun r1 =>
      some (.inr (r1.2 6 0 24 0, r1.2))) := rfl
set_option maxRecDepth 20000 in
theorem sg_X6_start_0 (LS : Int) (den : nl_D) (h : nl_H)  : nl_ex LS cd_X6_start den ct_X6_start 0 400 0 [some (vO 6 0)] [] h =
  ((den m_X6_lays [vO 6 0, vA 6 0 25, vI 0] h).bind fun r1 =>
    some (.inr (0, r1.2))) := rfl
set_option maxRecDepth 20000 in
theorem sg_X6_putBack_0 (LS : Int) (den : nl_D) (h : nl_H)  : nl_ex LS cd_X6_putBack den ct_X6_putBack 0 400 0 [some (vO 6 0)] [] h =
  ((den m_X6_takes [vO 6 0, vA 6 0 25, vI 0] h).bind fun r1 =>
    some (.inr (0, r1.2))) := rfl
set_option maxRecDepth 20000 in
theorem sg_X6_behind_0 (LS : Int) (den : nl_D) (h : nl_H) (x1 : Int) (x2 : Int) (x3 : Int) : nl_ex LS cd_X6_behind den ct_X6_behind 1 400 0 [some (vO 6 0), some (vI x1), some (vI x2), some (vI x3), none] [] h =
  ((den m_X6_in [vI x1, vI 0, vI 40] h).bind fun r1 =>
    if nl_nz r1.1 = 0 then
      some (.inr ((-1), r1.2))
    else
      (den m_X6_isOne [vO 6 0, vI x2] r1.2).bind fun r2 =>
        if nl_nz r2.1 = 0 then
          some (.inr ((-1), r2.2))
        else
          (den m_X6_in [vI x3, vI 0, vI 1] r2.2).bind fun r3 =>
            if nl_nz r3.1 = 0 then
              some (.inr ((-1), r3.2))
            else
              (den m_X6_start [vO 6 0] r3.2).bind fun r4 =>
                (den m_X6_goesOn [vO 6 0, vI x1] r4.2).bind fun r5 =>
                  if nl_nz x3 = 0 then
                    if 0 ≤ nl_nz x2 ∧ nl_nz x2 < 7 then
                      (den m_X6_putBack [vO 6 0] r5.2).bind fun r6 =>
                        some (.inr (r5.2 6 0 7 (nl_nz x2).toNat, r6.2))
                    else none
                  else
                    if 0 ≤ nl_nz x2 ∧ nl_nz x2 < 7 then
                      (den m_X6_putBack [vO 6 0] r5.2).bind fun r7 =>
                        some (.inr (r5.2 6 0 6 (nl_nz x2).toNat, r7.2))
                    else none) := rfl
set_option maxRecDepth 20000 in
theorem sg_X6_gaps_0 (LS : Int) (den : nl_D) (h : nl_H)  : nl_ex LS cd_X6_gaps den ct_X6_gaps 1 400 0 [some (vO 6 0)] [] h =
  ((den m_X6_gapSet [vO 6 0] h).bind fun r1 =>
    some (.inr (r1.1, r1.2))) := rfl
set_option maxRecDepth 20000 in
theorem sg_X6_first_0 (LS : Int) (den : nl_D) (h : nl_H) (x1 : Int) : nl_ex LS cd_X6_first den ct_X6_first 1 400 0 [some (vO 6 0), some (vI x1), none, none, none] [] h =
  ((den m_X6_isOne [vO 6 0, vI x1] h).bind fun r1 =>
    if nl_nz r1.1 = 0 then
      some (.inr ((-1), r1.2))
    else
      (den m_X6_start [vO 6 0] r1.2).bind fun r2 =>
        if 0 ≤ nl_nz x1 ∧ nl_nz x1 < 7 then some (.inl (23, [some (vO 6 0), some (vI x1), some (vI (r2.2 6 0 8 (nl_nz x1).toNat)), some (vI 0), none], r2.2)) else none) := rfl
set_option maxRecDepth 20000 in
theorem sg_X6_first_23 (LS : Int) (den : nl_D) (h : nl_H) (y1 : Int) (y2 : Int) (y3 : Int) : nl_ex LS cd_X6_first den ct_X6_first 1 400 23 [some (vO 6 0), some (vI y1), some (vI y2), some (vI y3), none] [] h =
  (if nl_nz 40 ≤ nl_nz y3 then
    if 0 ≤ nl_nz y1 ∧ nl_nz y1 < 7 then
      if nl_nz (h 6 0 8 (nl_nz y1).toNat) ≤ nl_nz y2 then
        (den m_X6_putBack [vO 6 0] h).bind fun r1 =>
          if nl_nz 0 = 0 then
            some (.inr ((-4), r1.2))
          else
            some (.inr (y3, r1.2))
      else
        (den m_X6_putBack [vO 6 0] h).bind fun r2 =>
          if nl_nz 1 = 0 then
            some (.inr ((-4), r2.2))
          else
            some (.inr (y3, r2.2))
    else none
  else
    if 0 ≤ nl_nz y1 ∧ nl_nz y1 < 7 then
      if nl_nz (h 6 0 8 (nl_nz y1).toNat) = nl_nz y2 then
        (den m_X6_passes [vO 6 0] h).bind fun r3 =>
          some (.inl (23, [some (vO 6 0), some (vI y1), some (vI y2), some (vI (y3 + 1)), none], r3.2))
      else
        if 0 ≤ nl_nz y1 ∧ nl_nz y1 < 7 then
          if nl_nz (h 6 0 8 (nl_nz y1).toNat) ≤ nl_nz y2 then
            (den m_X6_putBack [vO 6 0] h).bind fun r4 =>
              if nl_nz 0 = 0 then
                some (.inr ((-4), r4.2))
              else
                some (.inr (y3, r4.2))
          else
            (den m_X6_putBack [vO 6 0] h).bind fun r5 =>
              if nl_nz 1 = 0 then
                some (.inr ((-4), r5.2))
              else
                some (.inr (y3, r5.2))
        else none
    else none) := rfl
set_option maxRecDepth 20000 in
theorem sg_X6_firstRow_0 (LS : Int) (den : nl_D) (h : nl_H)  : nl_ex LS cd_X6_firstRow den ct_X6_firstRow 0 400 0 [some (vO 6 0), none] [] h =
  (some (.inl (2, [some (vO 6 0), some (vI 0)], h))) := rfl
set_option maxRecDepth 20000 in
theorem sg_X6_firstRow_2 (LS : Int) (den : nl_D) (h : nl_H) (y1 : Int) : nl_ex LS cd_X6_firstRow den ct_X6_firstRow 0 400 2 [some (vO 6 0), some (vI y1)] [] h =
  (if nl_nz (h 6 0 0 0) ≤ nl_nz y1 then
    some (.inr (0, h))
  else
    if 0 ≤ nl_nz y1 ∧ nl_nz y1 < 7 then some (.inl (2, [some (vO 6 0), some (vI (y1 + 1))], nl_up h 6 0 26 (nl_nz y1).toNat y1)) else none) := rfl
set_option maxRecDepth 20000 in
theorem sg_X6_nextRow_0 (LS : Int) (den : nl_D) (h : nl_H)  : nl_ex LS cd_X6_nextRow den ct_X6_nextRow 3 400 0 [some (vO 6 0), none, none, none, none, none, none] [] h =
  (some (.inl (7, [some (vO 6 0), some (vI ((h 6 0 0 0) - 2)), none, none, none, none, none], h))) := rfl
set_option maxRecDepth 20000 in
theorem sg_X6_nextRow_7 (LS : Int) (den : nl_D) (h : nl_H) (y1 : Int) : nl_ex LS cd_X6_nextRow den ct_X6_nextRow 3 400 7 [some (vO 6 0), some (vI y1), none, none, none, none, none] [] h =
  (if nl_nz y1 < 0 then
    if 0 ≤ nl_nz y1 then
      some (.inl (47, [some (vO 6 0), some (vI y1), some (vI ((h 6 0 0 0) - 1)), none, none, none, none], h))
    else
      some (.inr (0, h))
  else
    if 0 ≤ nl_nz y1 ∧ nl_nz y1 < 7 then
      if 0 ≤ nl_nz (y1 + 1) ∧ nl_nz (y1 + 1) < 7 then
        if nl_nz (h 6 0 26 (nl_nz y1).toNat) ≤ nl_nz (h 6 0 26 (nl_nz (y1 + 1)).toNat) then
          if 0 ≤ nl_nz y1 then
            some (.inl (47, [some (vO 6 0), some (vI y1), some (vI ((h 6 0 0 0) - 1)), none, none, none, none], h))
          else
            some (.inr (0, h))
        else
          some (.inl (7, [some (vO 6 0), some (vI (y1 + (-1))), none, none, none, none, none], h))
      else none
    else none) := rfl
set_option maxRecDepth 20000 in
theorem sg_X6_nextRow_47 (LS : Int) (den : nl_D) (h : nl_H) (y1 : Int) (y2 : Int) : nl_ex LS cd_X6_nextRow den ct_X6_nextRow 3 400 47 [some (vO 6 0), some (vI y1), some (vI y2), none, none, none, none] [] h =
  (if 0 ≤ nl_nz y2 ∧ nl_nz y2 < 7 then
    if 0 ≤ nl_nz y1 ∧ nl_nz y1 < 7 then
      if nl_nz (h 6 0 26 (nl_nz y1).toNat) ≤ nl_nz (h 6 0 26 (nl_nz y2).toNat) then
        if 0 ≤ nl_nz y1 ∧ nl_nz y1 < 7 then if 0 ≤ nl_nz y2 ∧ nl_nz y2 < 7 then if 0 ≤ nl_nz y1 ∧ nl_nz y1 < 7 then if 0 ≤ nl_nz y2 ∧ nl_nz y2 < 7 then some (.inl (107, [some (vO 6 0), some (vI y1), some (vI y2), some (vI (h 6 0 26 (nl_nz y1).toNat)), some (vI (((nl_up (nl_up h 6 0 26 (nl_nz y1).toNat (h 6 0 26 (nl_nz y2).toNat)) 6 0 26 (nl_nz y2).toNat (h 6 0 26 (nl_nz y1).toNat)) 6 0 0 0) - 1)), some (vI (y1 + 1)), none], nl_up (nl_up h 6 0 26 (nl_nz y1).toNat (h 6 0 26 (nl_nz y2).toNat)) 6 0 26 (nl_nz y2).toNat (h 6 0 26 (nl_nz y1).toNat))) else none else none else none else none
      else
        some (.inl (47, [some (vO 6 0), some (vI y1), some (vI (y2 + (-1))), none, none, none, none], h))
    else none
  else none) := rfl
set_option maxRecDepth 20000 in
theorem sg_X6_nextRow_107 (LS : Int) (den : nl_D) (h : nl_H) (y1 : Int) (y2 : Int) (y3 : Int) (y4 : Int) (y5 : Int) (w6 : Option nl_V) : nl_ex LS cd_X6_nextRow den ct_X6_nextRow 3 400 107 [some (vO 6 0), some (vI y1), some (vI y2), some (vI y3), some (vI y4), some (vI y5), w6] [] h =
  (if nl_nz y4 ≤ nl_nz y5 then
    some (.inr (1, h))
  else
    if 0 ≤ nl_nz y5 ∧ nl_nz y5 < 7 then if 0 ≤ nl_nz y4 ∧ nl_nz y4 < 7 then if 0 ≤ nl_nz y5 ∧ nl_nz y5 < 7 then if 0 ≤ nl_nz y4 ∧ nl_nz y4 < 7 then some (.inl (107, [some (vO 6 0), some (vI y1), some (vI y2), some (vI y3), some (vI (y4 + (-1))), some (vI (y5 + 1)), some (vI (h 6 0 26 (nl_nz y5).toNat))], nl_up (nl_up h 6 0 26 (nl_nz y5).toNat (h 6 0 26 (nl_nz y4).toNat)) 6 0 26 (nl_nz y4).toNat (h 6 0 26 (nl_nz y5).toNat))) else none else none else none else none) := rfl
set_option maxRecDepth 20000 in
theorem sg_X6_gapsBy_0 (LS : Int) (den : nl_D) (h : nl_H)  : nl_ex LS cd_X6_gapsBy den ct_X6_gapsBy 1 400 0 [some (vO 6 0), none, none] [] h =
  (some (.inl (4, [some (vO 6 0), some (vI 0), some (vI 0)], h))) := rfl
set_option maxRecDepth 20000 in
theorem sg_X6_gapsBy_4 (LS : Int) (den : nl_D) (h : nl_H) (y1 : Int) (y2 : Int) : nl_ex LS cd_X6_gapsBy den ct_X6_gapsBy 1 400 4 [some (vO 6 0), some (vI y1), some (vI y2)] [] h =
  (if nl_nz (h 6 0 0 0) ≤ nl_nz y2 then
    some (.inr (y1, h))
  else
    if 0 ≤ nl_nz y2 ∧ nl_nz y2 < 7 then
      (den m_X6_keeps [vO 6 0, vI y2, vI (h 6 0 26 (nl_nz y2).toNat)] h).bind fun r1 =>
        if nl_nz r1.1 = 0 then
          some (.inl (4, [some (vO 6 0), some (vI (y1 + 1)), some (vI (y2 + 1))], r1.2))
        else
          some (.inl (4, [some (vO 6 0), some (vI (y1 + 0)), some (vI (y2 + 1))], r1.2))
    else none) := rfl
set_option maxRecDepth 20000 in
theorem sg_X6_keptWeight_0 (LS : Int) (den : nl_D) (h : nl_H)  : nl_ex LS cd_X6_keptWeight den ct_X6_keptWeight 1 400 0 [some (vO 6 0), none, none] [] h =
  (some (.inl (4, [some (vO 6 0), some (vI 0), some (vI 0)], h))) := rfl
set_option maxRecDepth 20000 in
theorem sg_X6_keptWeight_4 (LS : Int) (den : nl_D) (h : nl_H) (y1 : Int) (y2 : Int) : nl_ex LS cd_X6_keptWeight den ct_X6_keptWeight 1 400 4 [some (vO 6 0), some (vI y1), some (vI y2)] [] h =
  (if nl_nz (h 6 0 0 0) ≤ nl_nz y2 then
    some (.inr (y1, h))
  else
    if 0 ≤ nl_nz y2 ∧ nl_nz y2 < 7 then
      (den m_X6_keeps [vO 6 0, vI y2, vI (h 6 0 26 (nl_nz y2).toNat)] h).bind fun r1 =>
        if nl_nz r1.1 = 0 then
          some (.inl (4, [some (vO 6 0), some (vI (y1 + 0)), some (vI (y2 + 1))], r1.2))
        else
          if 0 ≤ nl_nz y2 ∧ nl_nz y2 < 7 then
            (den m_X6_weight [vO 6 0, vI y2, vI (r1.2 6 0 26 (nl_nz y2).toNat)] r1.2).bind fun r2 =>
              some (.inl (4, [some (vO 6 0), some (vI (y1 + r2.1)), some (vI (y2 + 1))], r2.2))
          else none
    else none) := rfl
set_option maxRecDepth 20000 in
theorem sg_X6_even_0 (LS : Int) (den : nl_D) (h : nl_H) (x1 : Int) : nl_ex LS cd_X6_even den ct_X6_even 1 400 0 [some (vO 6 0), some (vI x1), none, none, none, none, none, none] [] h =
  ((den m_X6_in [vI x1, vI ((-1)), vI ((h 6 0 0 0) - 1)] h).bind fun r1 =>
    if nl_nz r1.1 = 0 then
      some (.inr ((-1), r1.2))
    else
      (den m_X6_firstRow [vO 6 0] r1.2).bind fun r2 =>
        some (.inl (29, [some (vO 6 0), some (vI x1), some (vI 1048576), some (vI ((-4))), some (vI 1), none, none, none], r2.2))) := rfl
set_option maxRecDepth 20000 in
theorem sg_X6_even_29 (LS : Int) (den : nl_D) (h : nl_H) (y1 : Int) (y2 : Int) (y3 : Int) (y4 : Int) (w5 : Option nl_V) (w6 : Option nl_V) (w7 : Option nl_V) : nl_ex LS cd_X6_even den ct_X6_even 1 400 29 [some (vO 6 0), some (vI y1), some (vI y2), some (vI y3), some (vI y4), w5, w6, w7] [] h =
  (if nl_nz y4 = 0 then
    if 0 ≤ nl_nz y1 then
      if 0 ≤ nl_nz y1 ∧ nl_nz y1 < 7 then some (.inr (h 6 0 27 (nl_nz y1).toNat, h)) else none
    else
      some (.inr (y2, h))
  else
    (den m_X6_gapsBy [vO 6 0] h).bind fun r1 =>
      (den m_X6_keptWeight [vO 6 0] r1.2).bind fun r2 =>
        if nl_nz r1.1 < nl_nz y2 then
          some (.inl (73, [some (vO 6 0), some (vI y1), some (vI r1.1), some (vI r2.1), some (vI y4), some (vI r1.1), some (vI r2.1), some (vI 0)], r2.2))
        else
          if nl_nz r1.1 = nl_nz y2 then
            if nl_nz r2.1 ≤ nl_nz y3 then
              (den m_X6_nextRow [vO 6 0] r2.2).bind fun r3 =>
                some (.inl (29, [some (vO 6 0), some (vI y1), some (vI y2), some (vI y3), some (vI r3.1), some (vI r1.1), some (vI r2.1), w7], r3.2))
            else
              some (.inl (73, [some (vO 6 0), some (vI y1), some (vI r1.1), some (vI r2.1), some (vI y4), some (vI r1.1), some (vI r2.1), some (vI 0)], r2.2))
          else
            (den m_X6_nextRow [vO 6 0] r2.2).bind fun r4 =>
              some (.inl (29, [some (vO 6 0), some (vI y1), some (vI y2), some (vI y3), some (vI r4.1), some (vI r1.1), some (vI r2.1), w7], r4.2))) := rfl
set_option maxRecDepth 20000 in
theorem sg_X6_even_73 (LS : Int) (den : nl_D) (h : nl_H) (y1 : Int) (y2 : Int) (y3 : Int) (y4 : Int) (y5 : Int) (y6 : Int) (y7 : Int) : nl_ex LS cd_X6_even den ct_X6_even 1 400 73 [some (vO 6 0), some (vI y1), some (vI y2), some (vI y3), some (vI y4), some (vI y5), some (vI y6), some (vI y7)] [] h =
  (if nl_nz (h 6 0 0 0) ≤ nl_nz y7 then
    (den m_X6_nextRow [vO 6 0] h).bind fun r1 =>
      some (.inl (29, [some (vO 6 0), some (vI y1), some (vI y2), some (vI y3), some (vI r1.1), some (vI y5), some (vI y6), some (vI y7)], r1.2))
  else
    if 0 ≤ nl_nz y7 ∧ nl_nz y7 < 7 then if 0 ≤ nl_nz y7 ∧ nl_nz y7 < 7 then some (.inl (73, [some (vO 6 0), some (vI y1), some (vI y2), some (vI y3), some (vI y4), some (vI y5), some (vI y6), some (vI (y7 + 1))], nl_up h 6 0 27 (nl_nz y7).toNat (h 6 0 26 (nl_nz y7).toNat))) else none else none) := rfl
set_option maxRecDepth 20000 in
theorem sg_X6_swapsTo_0 (LS : Int) (den : nl_D) (h : nl_H)  : nl_ex LS cd_X6_swapsTo den ct_X6_swapsTo 1 400 0 [some (vO 6 0), none, none, none, none] [] h =
  (some (.inl (9, [some (vO 6 0), some (vI (h 6 0 0 0)), some (vI 0), some (vI 0), none], h))) := rfl
set_option maxRecDepth 20000 in
theorem sg_X6_swapsTo_9 (LS : Int) (den : nl_D) (h : nl_H) (y1 : Int) (y2 : Int) (y3 : Int) (w4 : Option nl_V) : nl_ex LS cd_X6_swapsTo den ct_X6_swapsTo 1 400 9 [some (vO 6 0), some (vI y1), some (vI y2), some (vI y3), w4] [] h =
  (if nl_nz (h 6 0 0 0) ≤ nl_nz y3 then
    some (.inr (y1, h))
  else
    (den m_X6_has [vI y2, vI y3] h).bind fun r1 =>
      if nl_nz r1.1 = 0 then
        some (.inl (36, [some (vO 6 0), some (vI (y1 - 1)), some (vI y2), some (vI y3), some (vI y3)], r1.2))
      else
        some (.inl (36, [some (vO 6 0), some (vI (y1 - 0)), some (vI y2), some (vI y3), some (vI y3)], r1.2))) := rfl
set_option maxRecDepth 20000 in
theorem sg_X6_swapsTo_36 (LS : Int) (den : nl_D) (h : nl_H) (y1 : Int) (y2 : Int) (y3 : Int) (y4 : Int) : nl_ex LS cd_X6_swapsTo den ct_X6_swapsTo 1 400 36 [some (vO 6 0), some (vI y1), some (vI y2), some (vI y3), some (vI y4)] [] h =
  ((den m_X6_has [vI y2, vI y4] h).bind fun r1 =>
    if nl_nz r1.1 = 0 then
      if 0 ≤ nl_nz y4 ∧ nl_nz y4 < 32 then
        if 0 ≤ nl_nz y2 ∧ 0 ≤ nl_nz (1 * 2 ^ (nl_nz y4).toNat) then
          if 0 ≤ nl_nz y4 ∧ nl_nz y4 < 7 then
            (den m_X6_whoHas [vO 6 0, vI (r1.2 6 0 26 (nl_nz y4).toNat)] r1.2).bind fun r2 =>
              some (.inl (36, [some (vO 6 0), some (vI y1), some (vI ((((nl_nz y2).toNat ||| (nl_nz (1 * 2 ^ (nl_nz y4).toNat)).toNat : Nat) : Int))), some (vI y3), some (vI r2.1)], r2.2))
          else none
        else none
      else none
    else
      some (.inl (9, [some (vO 6 0), some (vI y1), some (vI y2), some (vI (y3 + 1)), some (vI y4)], r1.2))) := rfl
set_option maxRecDepth 20000 in
theorem sg_X6_swaps_0 (LS : Int) (den : nl_D) (h : nl_H)  : nl_ex LS cd_X6_swaps den ct_X6_swaps 1 400 0 [some (vO 6 0), none, none] [] h =
  ((den m_X6_firstRow [vO 6 0] h).bind fun r1 =>
    some (.inl (9, [some (vO 6 0), some (vI 1048576), some (vI 1)], r1.2))) := rfl
set_option maxRecDepth 20000 in
theorem sg_X6_swaps_9 (LS : Int) (den : nl_D) (h : nl_H) (y1 : Int) (y2 : Int) : nl_ex LS cd_X6_swaps den ct_X6_swaps 1 400 9 [some (vO 6 0), some (vI y1), some (vI y2)] [] h =
  (if nl_nz y2 = 0 then
    if nl_nz y1 = nl_nz 1048576 then
      some (.inr ((-4), h))
    else
      some (.inr (y1, h))
  else
    (den m_X6_gapsBy [vO 6 0] h).bind fun r1 =>
      if nl_nz r1.1 = 0 then
        (den m_X6_swapsTo [vO 6 0] r1.2).bind fun r2 =>
          (den m_X6_lesser [vI y1, vI r2.1] r2.2).bind fun r3 =>
            (den m_X6_nextRow [vO 6 0] r3.2).bind fun r4 =>
              some (.inl (9, [some (vO 6 0), some (vI r3.1), some (vI r4.1)], r4.2))
      else
        (den m_X6_nextRow [vO 6 0] r1.2).bind fun r5 =>
          some (.inl (9, [some (vO 6 0), some (vI y1), some (vI r5.1)], r5.2))) := rfl
set_option maxRecDepth 20000 in
theorem sg_X6_off_0 (LS : Int) (den : nl_D) (h : nl_H) (x1 : Int) (x2 : Int) : nl_ex LS cd_X6_off den ct_X6_off 1 400 0 [some (vI x1), some (vI x2)] [] h =
  (if nl_nz x1 ≤ nl_nz x2 then
    some (.inr (x2 - x1, h))
  else
    some (.inr (x1 - x2, h))) := rfl
set_option maxRecDepth 20000 in
theorem sg_X6_far_0 (LS : Int) (den : nl_D) (h : nl_H) (x1 : Int) : nl_ex LS cd_X6_far den ct_X6_far 1 400 0 [some (vO 6 0), some (vI x1), none, none, none, none] [] h =
  ((den m_X6_in [vI x1, vI 0, vI 1] h).bind fun r1 =>
    if nl_nz r1.1 = 0 then
      some (.inr ((-1), r1.2))
    else
      if 0 ≤ nl_nz 0 ∧ nl_nz 0 < 7 then if 0 ≤ nl_nz 0 ∧ nl_nz 0 < 7 then some (.inl (31, [some (vO 6 0), some (vI x1), some (vI 0), some (vI (r1.2 6 0 3 (nl_nz 0).toNat)), some (vI (r1.2 6 0 3 (nl_nz 0).toNat)), some (vI 1)], r1.2)) else none else none) := rfl
set_option maxRecDepth 20000 in
theorem sg_X6_far_31 (LS : Int) (den : nl_D) (h : nl_H) (y1 : Int) (y2 : Int) (y3 : Int) (y4 : Int) (y5 : Int) : nl_ex LS cd_X6_far den ct_X6_far 1 400 31 [some (vO 6 0), some (vI y1), some (vI y2), some (vI y3), some (vI y4), some (vI y5)] [] h =
  (if nl_nz (h 6 0 0 0) ≤ nl_nz y5 then
    if nl_nz y1 = 0 then
      some (.inr (y2, h))
    else
      some (.inr (y4 - y3, h))
  else
    (den m_X6_whoHas [vO 6 0, vI (y5 - 1)] h).bind fun r1 =>
      if 0 ≤ nl_nz r1.1 ∧ nl_nz r1.1 < 7 then
        (den m_X6_whoHas [vO 6 0, vI y5] r1.2).bind fun r2 =>
          if 0 ≤ nl_nz r2.1 ∧ nl_nz r2.1 < 7 then
            (den m_X6_off [vI (r1.2 6 0 3 (nl_nz r1.1).toNat), vI (r2.2 6 0 3 (nl_nz r2.1).toNat)] r2.2).bind fun r3 =>
              if 0 ≤ nl_nz y5 ∧ nl_nz y5 < 7 then
                (den m_X6_lesser [vI y3, vI (r3.2 6 0 3 (nl_nz y5).toNat)] r3.2).bind fun r4 =>
                  if 0 ≤ nl_nz y5 ∧ nl_nz y5 < 7 then
                    (den m_X6_greater [vI y4, vI (r4.2 6 0 3 (nl_nz y5).toNat)] r4.2).bind fun r5 =>
                      some (.inl (31, [some (vO 6 0), some (vI y1), some (vI (y2 + r3.1)), some (vI r4.1), some (vI r5.1), some (vI (y5 + 1))], r5.2))
                  else none
              else none
          else none
      else none) := rfl
set_option maxRecDepth 20000 in
theorem sg_X6_lamps_0 (LS : Int) (den : nl_D) (h : nl_H) (x1 : Int) (x2 : Int) : nl_ex LS cd_X6_lamps den ct_X6_lamps 1 400 0 [some (vO 6 0), some (vI x1), some (vI x2), none, none, none, none] [] h =
  ((den m_X6_in [vI x1, vI 1, vI 40] h).bind fun r1 =>
    if nl_nz r1.1 = 0 then
      some (.inr ((-1), r1.2))
    else
      (den m_X6_in [vI x2, vI 0, vI 1] r1.2).bind fun r2 =>
        if nl_nz r2.1 = 0 then
          some (.inr ((-1), r2.2))
        else
          some (.inl (31, [some (vO 6 0), some (vI x1), some (vI x2), some (vI ((-4))), some (vI 1048576), some (vI 0), none], r2.2))) := rfl
set_option maxRecDepth 20000 in
theorem sg_X6_lamps_31 (LS : Int) (den : nl_D) (h : nl_H) (y1 : Int) (y2 : Int) (y3 : Int) (y4 : Int) (y5 : Int) (w6 : Option nl_V) : nl_ex LS cd_X6_lamps den ct_X6_lamps 1 400 31 [some (vO 6 0), some (vI y1), some (vI y2), some (vI y3), some (vI y4), some (vI y5), w6] [] h =
  (if 0 ≤ nl_nz (h 6 0 0 0) ∧ nl_nz (h 6 0 0 0) < 32 then
    if nl_nz (1 * 2 ^ (nl_nz (h 6 0 0 0)).toNat) ≤ nl_nz y5 then
      if nl_nz y3 = nl_nz ((-4)) then
        some (.inr (y3, h))
      else
        if nl_nz y2 = nl_nz 1 then
          some (.inr (y3, h))
        else
          some (.inr (y4, h))
    else
      (den m_X6_bits [vI y5] h).bind fun r1 =>
        if nl_nz y4 ≤ nl_nz r1.1 then
          some (.inl (31, [some (vO 6 0), some (vI y1), some (vI y2), some (vI y3), some (vI y4), some (vI (y5 + 1)), w6], r1.2))
        else
          (den m_X6_start [vO 6 0] r1.2).bind fun r2 =>
            some (.inl (59, [some (vO 6 0), some (vI y1), some (vI y2), some (vI y3), some (vI y4), some (vI y5), some (vI 0)], r2.2))
  else none) := rfl
set_option maxRecDepth 20000 in
theorem sg_X6_lamps_59 (LS : Int) (den : nl_D) (h : nl_H) (y1 : Int) (y2 : Int) (y3 : Int) (y4 : Int) (y5 : Int) (y6 : Int) : nl_ex LS cd_X6_lamps den ct_X6_lamps 1 400 59 [some (vO 6 0), some (vI y1), some (vI y2), some (vI y3), some (vI y4), some (vI y5), some (vI y6)] [] h =
  (if nl_nz (h 6 0 0 0) ≤ nl_nz y6 then
    (den m_X6_goesOn [vO 6 0, vI y1] h).bind fun r1 =>
      if nl_nz r1.1 = 0 then
        (den m_X6_bits [vI y5] r1.2).bind fun r2 =>
          (den m_X6_putBack [vO 6 0] r2.2).bind fun r3 =>
            some (.inl (31, [some (vO 6 0), some (vI y1), some (vI y2), some (vI y5), some (vI r2.1), some (vI (y5 + 1)), some (vI y6)], r3.2))
      else
        (den m_X6_putBack [vO 6 0] r1.2).bind fun r4 =>
          some (.inl (31, [some (vO 6 0), some (vI y1), some (vI y2), some (vI y3), some (vI y4), some (vI (y5 + 1)), some (vI y6)], r4.2))
  else
    (den m_X6_has [vI y5, vI y6] h).bind fun r5 =>
      if nl_nz r5.1 = 0 then
        some (.inl (59, [some (vO 6 0), some (vI y1), some (vI y2), some (vI y3), some (vI y4), some (vI y5), some (vI (y6 + 1))], r5.2))
      else
        (den m_X6_rests [vO 6 0, vI y6] r5.2).bind fun r6 =>
          some (.inl (59, [some (vO 6 0), some (vI y1), some (vI y2), some (vI y3), some (vI y4), some (vI y5), some (vI (y6 + 1))], r6.2))) := rfl
set_option maxRecDepth 20000 in
theorem sg_X6_seen_0 (LS : Int) (den : nl_D) (h : nl_H) (x1 : Int) (x2 : Int) (x3 : Int) : nl_ex LS cd_X6_seen den ct_X6_seen 1 400 0 [some (vO 6 0), some (vI x1), some (vI x2), some (vI x3)] [] h =
  ((den m_X6_in [vI x1, vI 0, vI 20] h).bind fun r1 =>
    if nl_nz r1.1 = 0 then
      some (.inr ((-1), r1.2))
    else
      (den m_X6_isOne [vO 6 0, vI x2] r1.2).bind fun r2 =>
        if nl_nz r2.1 = 0 then
          some (.inr ((-1), r2.2))
        else
          (den m_X6_in [vI x3, vI 0, vI 1] r2.2).bind fun r3 =>
            if nl_nz r3.1 = 0 then
              some (.inr ((-1), r3.2))
            else
              if nl_nz (r3.2 6 0 11 0) = nl_nz 6 then
                some (.inr ((-3), r3.2))
              else
                if 0 ≤ nl_nz (r3.2 6 0 11 0) ∧ nl_nz (r3.2 6 0 11 0) < 6 then if 0 ≤ nl_nz ((nl_up r3.2 6 0 12 (nl_nz (r3.2 6 0 11 0)).toNat x1) 6 0 11 0) ∧ nl_nz ((nl_up r3.2 6 0 12 (nl_nz (r3.2 6 0 11 0)).toNat x1) 6 0 11 0) < 6 then if 0 ≤ nl_nz ((nl_up (nl_up r3.2 6 0 12 (nl_nz (r3.2 6 0 11 0)).toNat x1) 6 0 13 (nl_nz ((nl_up r3.2 6 0 12 (nl_nz (r3.2 6 0 11 0)).toNat x1) 6 0 11 0)).toNat x2) 6 0 11 0) ∧ nl_nz ((nl_up (nl_up r3.2 6 0 12 (nl_nz (r3.2 6 0 11 0)).toNat x1) 6 0 13 (nl_nz ((nl_up r3.2 6 0 12 (nl_nz (r3.2 6 0 11 0)).toNat x1) 6 0 11 0)).toNat x2) 6 0 11 0) < 6 then some (.inr ((nl_up (nl_up (nl_up (nl_up r3.2 6 0 12 (nl_nz (r3.2 6 0 11 0)).toNat x1) 6 0 13 (nl_nz ((nl_up r3.2 6 0 12 (nl_nz (r3.2 6 0 11 0)).toNat x1) 6 0 11 0)).toNat x2) 6 0 14 (nl_nz ((nl_up (nl_up r3.2 6 0 12 (nl_nz (r3.2 6 0 11 0)).toNat x1) 6 0 13 (nl_nz ((nl_up r3.2 6 0 12 (nl_nz (r3.2 6 0 11 0)).toNat x1) 6 0 11 0)).toNat x2) 6 0 11 0)).toNat x3) 6 0 11 0 (((nl_up (nl_up (nl_up r3.2 6 0 12 (nl_nz (r3.2 6 0 11 0)).toNat x1) 6 0 13 (nl_nz ((nl_up r3.2 6 0 12 (nl_nz (r3.2 6 0 11 0)).toNat x1) 6 0 11 0)).toNat x2) 6 0 14 (nl_nz ((nl_up (nl_up r3.2 6 0 12 (nl_nz (r3.2 6 0 11 0)).toNat x1) 6 0 13 (nl_nz ((nl_up r3.2 6 0 12 (nl_nz (r3.2 6 0 11 0)).toNat x1) 6 0 11 0)).toNat x2) 6 0 11 0)).toNat x3) 6 0 11 0) + 1)) 6 0 11 0, nl_up (nl_up (nl_up (nl_up r3.2 6 0 12 (nl_nz (r3.2 6 0 11 0)).toNat x1) 6 0 13 (nl_nz ((nl_up r3.2 6 0 12 (nl_nz (r3.2 6 0 11 0)).toNat x1) 6 0 11 0)).toNat x2) 6 0 14 (nl_nz ((nl_up (nl_up r3.2 6 0 12 (nl_nz (r3.2 6 0 11 0)).toNat x1) 6 0 13 (nl_nz ((nl_up r3.2 6 0 12 (nl_nz (r3.2 6 0 11 0)).toNat x1) 6 0 11 0)).toNat x2) 6 0 11 0)).toNat x3) 6 0 11 0 (((nl_up (nl_up (nl_up r3.2 6 0 12 (nl_nz (r3.2 6 0 11 0)).toNat x1) 6 0 13 (nl_nz ((nl_up r3.2 6 0 12 (nl_nz (r3.2 6 0 11 0)).toNat x1) 6 0 11 0)).toNat x2) 6 0 14 (nl_nz ((nl_up (nl_up r3.2 6 0 12 (nl_nz (r3.2 6 0 11 0)).toNat x1) 6 0 13 (nl_nz ((nl_up r3.2 6 0 12 (nl_nz (r3.2 6 0 11 0)).toNat x1) 6 0 11 0)).toNat x2) 6 0 11 0)).toNat x3) 6 0 11 0) + 1))) else none else none else none) := rfl
set_option maxRecDepth 20000 in
theorem sg_X6_forget_0 (LS : Int) (den : nl_D) (h : nl_H)  : nl_ex LS cd_X6_forget den ct_X6_forget 1 400 0 [some (vO 6 0), none] [] h =
  (some (.inr (h 6 0 11 0, nl_up h 6 0 11 0 0))) := rfl
set_option maxRecDepth 20000 in
theorem sg_X6_isSo_0 (LS : Int) (den : nl_D) (h : nl_H)  : nl_ex LS cd_X6_isSo den ct_X6_isSo 3 400 0 [some (vO 6 0), none, none, none, none] [] h =
  ((den m_X6_start [vO 6 0] h).bind fun r1 =>
    some (.inl (8, [some (vO 6 0), some (vI 1), some (vI 0), none, none], r1.2))) := rfl
set_option maxRecDepth 20000 in
theorem sg_X6_isSo_8 (LS : Int) (den : nl_D) (h : nl_H) (y1 : Int) (y2 : Int) (w3 : Option nl_V) (w4 : Option nl_V) : nl_ex LS cd_X6_isSo den ct_X6_isSo 3 400 8 [some (vO 6 0), some (vI y1), some (vI y2), w3, w4] [] h =
  (if nl_nz 20 < nl_nz y2 then
    (den m_X6_putBack [vO 6 0] h).bind fun r1 =>
      if y1 = 0 ∨ y1 = 1 then some (.inr (y1, r1.2)) else none
  else
    (den m_X6_gapSet [vO 6 0] h).bind fun r2 =>
      some (.inl (22, [some (vO 6 0), some (vI y1), some (vI y2), some (vI r2.1), some (vI 0)], r2.2))) := rfl
set_option maxRecDepth 20000 in
theorem sg_X6_isSo_22 (LS : Int) (den : nl_D) (h : nl_H) (y1 : Int) (y2 : Int) (y3 : Int) (y4 : Int) : nl_ex LS cd_X6_isSo den ct_X6_isSo 3 400 22 [some (vO 6 0), some (vI y1), some (vI y2), some (vI y3), some (vI y4)] [] h =
  (if nl_nz (h 6 0 11 0) ≤ nl_nz y4 then
    (den m_X6_passes [vO 6 0] h).bind fun r1 =>
      some (.inl (8, [some (vO 6 0), some (vI y1), some (vI (y2 + 1)), some (vI y3), some (vI y4)], r1.2))
  else
    if nl_nz y1 = 0 then
      some (.inl (22, [some (vO 6 0), some (vI 0), some (vI y2), some (vI y3), some (vI (y4 + 1))], h))
    else
      if 0 ≤ nl_nz y4 ∧ nl_nz y4 < 6 then
        if nl_nz (h 6 0 12 (nl_nz y4).toNat) = nl_nz y2 then
          if 0 ≤ nl_nz y4 ∧ nl_nz y4 < 6 then
            if 0 ≤ nl_nz (h 6 0 13 (nl_nz y4).toNat) ∧ nl_nz (h 6 0 13 (nl_nz y4).toNat) < 32 then
              if 0 ≤ nl_nz (nl_nz y3 / 2 ^ (nl_nz (h 6 0 13 (nl_nz y4).toNat)).toNat) ∧ 0 ≤ nl_nz 1 then
                if 0 ≤ nl_nz y4 ∧ nl_nz y4 < 6 then
                  if nl_nz ((((nl_nz (nl_nz y3 / 2 ^ (nl_nz (h 6 0 13 (nl_nz y4).toNat)).toNat)).toNat &&& (nl_nz 1).toNat : Nat) : Int)) = nl_nz (h 6 0 14 (nl_nz y4).toNat) then
                    some (.inl (22, [some (vO 6 0), some (vI 1), some (vI y2), some (vI y3), some (vI (y4 + 1))], h))
                  else
                    some (.inl (22, [some (vO 6 0), some (vI 0), some (vI y2), some (vI y3), some (vI (y4 + 1))], h))
                else none
              else none
            else none
          else none
        else
          some (.inl (22, [some (vO 6 0), some (vI 1), some (vI y2), some (vI y3), some (vI (y4 + 1))], h))
      else none) := rfl
set_option maxRecDepth 20000 in
theorem sg_X6_kinds_0 (LS : Int) (den : nl_D) (h : nl_H) (x1 : Int) : nl_ex LS cd_X6_kinds den ct_X6_kinds 1 400 0 [some (vO 6 0), some (vI x1), none, none, none] [] h =
  ((den m_X6_isOne [vO 6 0, vI x1] h).bind fun r1 =>
    if nl_nz r1.1 = 0 then
      some (.inr ((-1), r1.2))
    else
      if 0 ≤ nl_nz x1 ∧ nl_nz x1 < 7 then some (.inl (22, [some (vO 6 0), some (vI x1), some (vI (r1.2 6 0 1 (nl_nz x1).toNat)), some (vI 0), some (vI 0)], r1.2)) else none) := rfl
set_option maxRecDepth 20000 in
theorem sg_X6_kinds_22 (LS : Int) (den : nl_D) (h : nl_H) (y1 : Int) (y2 : Int) (y3 : Int) (y4 : Int) : nl_ex LS cd_X6_kinds den ct_X6_kinds 1 400 22 [some (vO 6 0), some (vI y1), some (vI y2), some (vI y3), some (vI y4)] [] h =
  (if nl_nz 3 < nl_nz y4 then
    if 0 ≤ nl_nz y1 ∧ nl_nz y1 < 7 then some (.inr (y3, nl_up h 6 0 1 (nl_nz y1).toNat y2)) else none
  else
    if 0 ≤ nl_nz y1 ∧ nl_nz y1 < 7 then
      (den m_X6_isSo [vO 6 0] (nl_up h 6 0 1 (nl_nz y1).toNat y4)).bind fun r1 =>
        if nl_nz r1.1 = 0 then
          if 0 ≤ nl_nz y3 ∧ 0 ≤ nl_nz 0 then some (.inl (22, [some (vO 6 0), some (vI y1), some (vI y2), some (vI ((((nl_nz y3).toNat ||| (nl_nz 0).toNat : Nat) : Int))), some (vI (y4 + 1))], r1.2)) else none
        else
          if 0 ≤ nl_nz y4 ∧ nl_nz y4 < 32 then if 0 ≤ nl_nz y3 ∧ 0 ≤ nl_nz (1 * 2 ^ (nl_nz y4).toNat) then some (.inl (22, [some (vO 6 0), some (vI y1), some (vI y2), some (vI ((((nl_nz y3).toNat ||| (nl_nz (1 * 2 ^ (nl_nz y4).toNat)).toNat : Nat) : Int))), some (vI (y4 + 1))], r1.2)) else none else none
    else none) := rfl
set_option maxRecDepth 20000 in
theorem sg_X6_strengths_0 (LS : Int) (den : nl_D) (h : nl_H) (x1 : Int) (x2 : Int) : nl_ex LS cd_X6_strengths den ct_X6_strengths 1 400 0 [some (vO 6 0), some (vI x1), some (vI x2), none, none, none, none, none] [] h =
  ((den m_X6_isOne [vO 6 0, vI x1] h).bind fun r1 =>
    if nl_nz r1.1 = 0 then
      some (.inr ((-1), r1.2))
    else
      (den m_X6_in [vI x2, vI 0, vI 1] r1.2).bind fun r2 =>
        if nl_nz r2.1 = 0 then
          some (.inr ((-1), r2.2))
        else
          if 0 ≤ nl_nz x1 ∧ nl_nz x1 < 7 then some (.inl (37, [some (vO 6 0), some (vI x1), some (vI x2), some (vI (r2.2 6 0 2 (nl_nz x1).toNat)), some (vI 0), some (vI ((-4))), some (vI 40), none], r2.2)) else none) := rfl
set_option maxRecDepth 20000 in
theorem sg_X6_strengths_37 (LS : Int) (den : nl_D) (h : nl_H) (y1 : Int) (y2 : Int) (y3 : Int) (y4 : Int) (y5 : Int) (y6 : Int) (w7 : Option nl_V) : nl_ex LS cd_X6_strengths den ct_X6_strengths 1 400 37 [some (vO 6 0), some (vI y1), some (vI y2), some (vI y3), some (vI y4), some (vI y5), some (vI y6), w7] [] h =
  (if nl_nz y6 < 0 then
    if 0 ≤ nl_nz y1 ∧ nl_nz y1 < 7 then
      if nl_nz y2 = 0 then
        some (.inr (y4, nl_up h 6 0 2 (nl_nz y1).toNat y3))
      else
        some (.inr (y5, nl_up h 6 0 2 (nl_nz y1).toNat y3))
    else none
  else
    if 0 ≤ nl_nz y1 ∧ nl_nz y1 < 7 then
      (den m_X6_isSo [vO 6 0] (nl_up h 6 0 2 (nl_nz y1).toNat y6)).bind fun r1 =>
        if nl_nz r1.1 = 0 then
          if nl_nz r1.1 = 0 then
            some (.inl (37, [some (vO 6 0), some (vI y1), some (vI y2), some (vI y3), some (vI (y4 + 0)), some (vI y5), some (vI (y6 + (-1))), some (vI r1.1)], r1.2))
          else
            some (.inl (37, [some (vO 6 0), some (vI y1), some (vI y2), some (vI y3), some (vI (y4 + 0)), some (vI y6), some (vI (y6 + (-1))), some (vI r1.1)], r1.2))
        else
          if nl_nz r1.1 = 0 then
            some (.inl (37, [some (vO 6 0), some (vI y1), some (vI y2), some (vI y3), some (vI (y4 + 1)), some (vI y5), some (vI (y6 + (-1))), some (vI r1.1)], r1.2))
          else
            some (.inl (37, [some (vO 6 0), some (vI y1), some (vI y2), some (vI y3), some (vI (y4 + 1)), some (vI y6), some (vI (y6 + (-1))), some (vI r1.1)], r1.2))
    else none) := rfl
set_option maxRecDepth 20000 in
theorem sg_X6_common_0 (LS : Int) (den : nl_D) (h : nl_H) (x1 : Int) (x2 : Int) : nl_ex LS cd_X6_common den ct_X6_common 2 400 0 [some (vL x1), none, some (vL x2), none, none, none, none, none, none, none] [] h =
  (some (.inl (6, [some (vL x1), none, some (vL x2), none, some (vL x1), none, some (vL x2), none, none, none], h))) := rfl
set_option maxRecDepth 20000 in
theorem sg_X6_common_6 (LS : Int) (den : nl_D) (h : nl_H) (y0 : Int) (y2 : Int) (y4 : Int) (y6 : Int) (w8 : Option nl_V) : nl_ex LS cd_X6_common den ct_X6_common 2 400 6 [some (vL y0), none, some (vL y2), none, some (vL y4), none, some (vL y6), none, w8, none] [] h =
  (if nl_nz (nl_cmp (nl_nl y6) (nl_nl 0)) = 0 then
    some (.inr (y4, h))
  else
    if nl_nl y6 = 0 then none else
      some (.inl (6, [some (vL y0), none, some (vL y2), none, some (vL y6), none, some (vL ((nl_nl y4).tmod (nl_nl y6))), none, some (vL ((nl_nl y4).tmod (nl_nl y6))), none], h))) := rfl
set_option maxRecDepth 20000 in
theorem sg_X6_likely_0 (LS : Int) (den : nl_D) (h : nl_H) (x1 : Int) (x2 : Int) (x3 : Int) : nl_ex LS cd_X6_likely den ct_X6_likely 1 400 0 [some (vO 6 0), some (vI x1), some (vI x2), some (vI x3), none, none, none, none, none, none, none] [] h =
  ((den m_X6_isOne [vO 6 0, vI x1] h).bind fun r1 =>
    if nl_nz r1.1 = 0 then
      some (.inr ((-1), r1.2))
    else
      (den m_X6_in [vI x2, vI 0, vI 9] r1.2).bind fun r2 =>
        if nl_nz r2.1 = 0 then
          some (.inr ((-1), r2.2))
        else
          (den m_X6_in [vI x3, vI 0, vI 1] r2.2).bind fun r3 =>
            if nl_nz r3.1 = 0 then
              some (.inr ((-1), r3.2))
            else
              if 0 ≤ nl_nz x1 ∧ nl_nz x1 < 7 then some (.inl (43, [some (vO 6 0), some (vI x1), some (vI x2), some (vI x3), some (vI (r3.2 6 0 7 (nl_nz x1).toNat)), some (vL 0), none, some (vI 0), none, none, none], r3.2)) else none) := rfl
set_option maxRecDepth 20000 in
theorem sg_X6_likely_43 (LS : Int) (den : nl_D) (h : nl_H) (y1 : Int) (y2 : Int) (y3 : Int) (y4 : Int) (y5 : Int) (y7 : Int) : nl_ex LS cd_X6_likely den ct_X6_likely 1 400 43 [some (vO 6 0), some (vI y1), some (vI y2), some (vI y3), some (vI y4), some (vL y5), none, some (vI y7), none, none, none] [] h =
  (if nl_nz (h 6 0 0 0) ≤ nl_nz y7 then
    (den m_X6_common [vL y5, vL (10 * (nl_nz (h 6 0 0 0)))] h).bind fun r1 =>
      if nl_nz y3 = 0 then
        if nl_nl r1.1 = 0 then none else
          some (.inr ((nl_nl y5).tdiv (nl_nl r1.1), r1.2))
      else
        if nl_nl r1.1 = 0 then none else
          some (.inr ((nl_nl (10 * (nl_nz (h 6 0 0 0)))).tdiv (nl_nl r1.1), r1.2))
  else
    (den m_X6_lesser [vI 40, vI (y4 + y2)] h).bind fun r2 =>
      if 0 ≤ nl_nz y1 ∧ nl_nz y1 < 7 then
        (den m_X6_keeps [vO 6 0, vI y1, vI y7] (nl_up r2.2 6 0 7 (nl_nz y1).toNat r2.1)).bind fun r3 =>
          if nl_nz r3.1 = 0 then
            if 0 ≤ nl_nz y1 ∧ nl_nz y1 < 7 then
              (den m_X6_keeps [vO 6 0, vI y1, vI y7] (nl_up r3.2 6 0 7 (nl_nz y1).toNat y4)).bind fun r4 =>
                if nl_nz r4.1 = 0 then
                  some (.inl (43, [some (vO 6 0), some (vI y1), some (vI y2), some (vI y3), some (vI y4), some (vL ((y5 + 0) + 0)), none, some (vI (y7 + 1)), none, none, none], r4.2))
                else
                  some (.inl (43, [some (vO 6 0), some (vI y1), some (vI y2), some (vI y3), some (vI y4), some (vL ((y5 + 0) + (nl_nz (10 - y2)))), none, some (vI (y7 + 1)), none, none, none], r4.2))
            else none
          else
            if 0 ≤ nl_nz y1 ∧ nl_nz y1 < 7 then
              (den m_X6_keeps [vO 6 0, vI y1, vI y7] (nl_up r3.2 6 0 7 (nl_nz y1).toNat y4)).bind fun r5 =>
                if nl_nz r5.1 = 0 then
                  some (.inl (43, [some (vO 6 0), some (vI y1), some (vI y2), some (vI y3), some (vI y4), some (vL ((y5 + (nl_nz y2)) + 0)), none, some (vI (y7 + 1)), none, none, none], r5.2))
                else
                  some (.inl (43, [some (vO 6 0), some (vI y1), some (vI y2), some (vI y3), some (vI y4), some (vL ((y5 + (nl_nz y2)) + (nl_nz (10 - y2)))), none, some (vI (y7 + 1)), none, none, none], r5.2))
            else none
      else none) := rfl
set_option maxRecDepth 20000 in
theorem sg_X6_tiredAll_0 (LS : Int) (den : nl_D) (h : nl_H)  : nl_ex LS cd_X6_tiredAll den ct_X6_tiredAll 1 400 0 [some (vO 6 0), none, none] [] h =
  (some (.inl (4, [some (vO 6 0), some (vI 0), some (vI 0)], h))) := rfl
set_option maxRecDepth 20000 in
theorem sg_X6_tiredAll_4 (LS : Int) (den : nl_D) (h : nl_H) (y1 : Int) (y2 : Int) : nl_ex LS cd_X6_tiredAll den ct_X6_tiredAll 1 400 4 [some (vO 6 0), some (vI y1), some (vI y2)] [] h =
  (if nl_nz (h 6 0 0 0) ≤ nl_nz y2 then
    some (.inr (y1, h))
  else
    if 0 ≤ nl_nz y2 ∧ nl_nz y2 < 7 then some (.inl (4, [some (vO 6 0), some (vI (y1 + (h 6 0 7 (nl_nz y2).toNat))), some (vI (y2 + 1))], h)) else none) := rfl
set_option maxRecDepth 20000 in
theorem sg_X6_winter_0 (LS : Int) (den : nl_D) (h : nl_H) (x1 : Int) (x2 : Int) (x3 : Int) : nl_ex LS cd_X6_winter den ct_X6_winter 1 400 0 [some (vO 6 0), some (vI x1), some (vI x2), some (vI x3), none, none, none, none, none, none, none, none] [] h =
  ((den m_X6_in [vI x1, vI 0, vI 9999] h).bind fun r1 =>
    if nl_nz r1.1 = 0 then
      some (.inr ((-1), r1.2))
    else
      (den m_X6_in [vI x2, vI 1, vI 60] r1.2).bind fun r2 =>
        if nl_nz r2.1 = 0 then
          some (.inr ((-1), r2.2))
        else
          (den m_X6_in [vI x3, vI 0, vI 2] r2.2).bind fun r3 =>
            if nl_nz r3.1 = 0 then
              some (.inr ((-1), r3.2))
            else
              (den m_X6_start [vO 6 0] r3.2).bind fun r4 =>
                some (.inl (42, [some (vO 6 0), some (vI x1), some (vI x2), some (vI x3), some (vI 0), some (vI 0), none, none, none, none, none, none], r4.2))) := rfl
set_option maxRecDepth 20000 in
theorem sg_X6_winter_42 (LS : Int) (den : nl_D) (h : nl_H) (y1 : Int) (y2 : Int) (y3 : Int) (y4 : Int) (y5 : Int) (w6 : Option nl_V) (w8 : Option nl_V) (w9 : Option nl_V) (w10 : Option nl_V) (w11 : Option nl_V) : nl_ex LS cd_X6_winter den ct_X6_winter 1 400 42 [some (vO 6 0), some (vI y1), some (vI y2), some (vI y3), some (vI y4), some (vI y5), w6, none, w8, w9, w10, w11] [] h =
  (if nl_nz y2 ≤ nl_nz y5 then
    if nl_nz y3 = 0 then
      (den m_X6_putBack [vO 6 0] h).bind fun r1 =>
        some (.inr (y4, r1.2))
    else
      if nl_nz y3 = nl_nz 1 then
        (den m_X6_tiredAll [vO 6 0] h).bind fun r2 =>
          (den m_X6_putBack [vO 6 0] r2.2).bind fun r3 =>
            some (.inr (r2.1, r3.2))
      else
        if 0 ≤ nl_nz 0 ∧ nl_nz 0 < 7 then
          (den m_X6_putBack [vO 6 0] h).bind fun r4 =>
            some (.inr (h 6 0 6 (nl_nz 0).toNat, r4.2))
        else none
  else
    if nl_nl 65521 = 0 then none else
      if nl_nl 2 = 0 then none else
        if nl_nz (h 6 0 0 0) = 0 then none else
          if nl_nz 8 = 0 then none else
            if nl_nz (h 6 0 0 0) = 0 then none else
              if nl_nz 64 = 0 then none else
                if nl_nz 4 = 0 then none else
                  if nl_nz ((nl_nz ((nl_nz ((nl_nl ((nl_nl ((((7919 * (nl_nz y1)) + (6151 * (nl_nz y5))) + 1) * (((7919 * (nl_nz y1)) + (6151 * (nl_nz y5))) + 1))).tmod (nl_nl 65521))).tdiv (nl_nl 2))).tdiv (nl_nz 64))).tmod (nl_nz 4)) = 0 then
                    if nl_nz ((nl_nz ((nl_nl ((nl_nl ((((7919 * (nl_nz y1)) + (6151 * (nl_nz y5))) + 1) * (((7919 * (nl_nz y1)) + (6151 * (nl_nz y5))) + 1))).tmod (nl_nl 65521))).tdiv (nl_nl 2))).tmod (nl_nz (h 6 0 0 0))) = nl_nz ((nl_nz ((nl_nz ((nl_nl ((nl_nl ((((7919 * (nl_nz y1)) + (6151 * (nl_nz y5))) + 1) * (((7919 * (nl_nz y1)) + (6151 * (nl_nz y5))) + 1))).tmod (nl_nl 65521))).tdiv (nl_nl 2))).tdiv (nl_nz 8))).tmod (nl_nz (h 6 0 0 0))) then
                      if nl_nz ((nl_nz ((nl_nz ((nl_nl ((nl_nl ((((7919 * (nl_nz y1)) + (6151 * (nl_nz y5))) + 1) * (((7919 * (nl_nz y1)) + (6151 * (nl_nz y5))) + 1))).tmod (nl_nl 65521))).tdiv (nl_nl 2))).tdiv (nl_nz 64))).tmod (nl_nz 4)) = nl_nz 1 then
                        (den m_X6_rests [vO 6 0, vI ((nl_nz ((nl_nl ((nl_nl ((((7919 * (nl_nz y1)) + (6151 * (nl_nz y5))) + 1) * (((7919 * (nl_nz y1)) + (6151 * (nl_nz y5))) + 1))).tmod (nl_nl 65521))).tdiv (nl_nl 2))).tmod (nl_nz (h 6 0 0 0)))] h).bind fun r5 =>
                          (den m_X6_passes [vO 6 0] r5.2).bind fun r6 =>
                            some (.inl (42, [some (vO 6 0), some (vI y1), some (vI y2), some (vI y3), some (vI (y4 + r6.1)), some (vI (y5 + 1)), some (vL (((7919 * (nl_nz y1)) + (6151 * (nl_nz y5))) + 1)), none, some (vI ((nl_nl ((nl_nl ((((7919 * (nl_nz y1)) + (6151 * (nl_nz y5))) + 1) * (((7919 * (nl_nz y1)) + (6151 * (nl_nz y5))) + 1))).tmod (nl_nl 65521))).tdiv (nl_nl 2))), some (vI ((nl_nz ((nl_nl ((nl_nl ((((7919 * (nl_nz y1)) + (6151 * (nl_nz y5))) + 1) * (((7919 * (nl_nz y1)) + (6151 * (nl_nz y5))) + 1))).tmod (nl_nl 65521))).tdiv (nl_nl 2))).tmod (nl_nz (h 6 0 0 0)))), some (vI ((nl_nz ((nl_nz ((nl_nl ((nl_nl ((((7919 * (nl_nz y1)) + (6151 * (nl_nz y5))) + 1) * (((7919 * (nl_nz y1)) + (6151 * (nl_nz y5))) + 1))).tmod (nl_nl 65521))).tdiv (nl_nl 2))).tdiv (nl_nz 8))).tmod (nl_nz (h 6 0 0 0)))), some (vI ((nl_nz ((nl_nz ((nl_nl ((nl_nl ((((7919 * (nl_nz y1)) + (6151 * (nl_nz y5))) + 1) * (((7919 * (nl_nz y1)) + (6151 * (nl_nz y5))) + 1))).tmod (nl_nl 65521))).tdiv (nl_nl 2))).tdiv (nl_nz 64))).tmod (nl_nz 4)))], r6.2))
                      else
                        if nl_nz ((nl_nz ((nl_nz ((nl_nl ((nl_nl ((((7919 * (nl_nz y1)) + (6151 * (nl_nz y5))) + 1) * (((7919 * (nl_nz y1)) + (6151 * (nl_nz y5))) + 1))).tmod (nl_nl 65521))).tdiv (nl_nl 2))).tdiv (nl_nz 64))).tmod (nl_nz 4)) = nl_nz 2 then
                          if 0 ≤ nl_nz ((nl_nz ((nl_nl ((nl_nl ((((7919 * (nl_nz y1)) + (6151 * (nl_nz y5))) + 1) * (((7919 * (nl_nz y1)) + (6151 * (nl_nz y5))) + 1))).tmod (nl_nl 65521))).tdiv (nl_nl 2))).tmod (nl_nz (h 6 0 0 0))) ∧ nl_nz ((nl_nz ((nl_nl ((nl_nl ((((7919 * (nl_nz y1)) + (6151 * (nl_nz y5))) + 1) * (((7919 * (nl_nz y1)) + (6151 * (nl_nz y5))) + 1))).tmod (nl_nl 65521))).tdiv (nl_nl 2))).tmod (nl_nz (h 6 0 0 0))) < 7 then
                            if nl_nz 256 = 0 then none else
                              if nl_nz 21 = 0 then none else
                                if 0 ≤ nl_nz (h 6 0 6 (nl_nz ((nl_nz ((nl_nl ((nl_nl ((((7919 * (nl_nz y1)) + (6151 * (nl_nz y5))) + 1) * (((7919 * (nl_nz y1)) + (6151 * (nl_nz y5))) + 1))).tmod (nl_nl 65521))).tdiv (nl_nl 2))).tmod (nl_nz (h 6 0 0 0)))).toNat) ∧ nl_nz (h 6 0 6 (nl_nz ((nl_nz ((nl_nl ((nl_nl ((((7919 * (nl_nz y1)) + (6151 * (nl_nz y5))) + 1) * (((7919 * (nl_nz y1)) + (6151 * (nl_nz y5))) + 1))).tmod (nl_nl 65521))).tdiv (nl_nl 2))).tmod (nl_nz (h 6 0 0 0)))).toNat) < 7 then
                                  (den m_X6_passes [vO 6 0] (nl_up h 6 0 10 (nl_nz (h 6 0 6 (nl_nz ((nl_nz ((nl_nl ((nl_nl ((((7919 * (nl_nz y1)) + (6151 * (nl_nz y5))) + 1) * (((7919 * (nl_nz y1)) + (6151 * (nl_nz y5))) + 1))).tmod (nl_nl 65521))).tdiv (nl_nl 2))).tmod (nl_nz (h 6 0 0 0)))).toNat)).toNat ((nl_nz ((nl_nz ((nl_nl ((nl_nl ((((7919 * (nl_nz y1)) + (6151 * (nl_nz y5))) + 1) * (((7919 * (nl_nz y1)) + (6151 * (nl_nz y5))) + 1))).tmod (nl_nl 65521))).tdiv (nl_nl 2))).tdiv (nl_nz 256))).tmod (nl_nz 21)))).bind fun r7 =>
                                    some (.inl (42, [some (vO 6 0), some (vI y1), some (vI y2), some (vI y3), some (vI (y4 + r7.1)), some (vI (y5 + 1)), some (vL (((7919 * (nl_nz y1)) + (6151 * (nl_nz y5))) + 1)), none, some (vI ((nl_nl ((nl_nl ((((7919 * (nl_nz y1)) + (6151 * (nl_nz y5))) + 1) * (((7919 * (nl_nz y1)) + (6151 * (nl_nz y5))) + 1))).tmod (nl_nl 65521))).tdiv (nl_nl 2))), some (vI ((nl_nz ((nl_nl ((nl_nl ((((7919 * (nl_nz y1)) + (6151 * (nl_nz y5))) + 1) * (((7919 * (nl_nz y1)) + (6151 * (nl_nz y5))) + 1))).tmod (nl_nl 65521))).tdiv (nl_nl 2))).tmod (nl_nz (h 6 0 0 0)))), some (vI ((nl_nz ((nl_nz ((nl_nl ((nl_nl ((((7919 * (nl_nz y1)) + (6151 * (nl_nz y5))) + 1) * (((7919 * (nl_nz y1)) + (6151 * (nl_nz y5))) + 1))).tmod (nl_nl 65521))).tdiv (nl_nl 2))).tdiv (nl_nz 8))).tmod (nl_nz (h 6 0 0 0)))), some (vI ((nl_nz ((nl_nz ((nl_nl ((nl_nl ((((7919 * (nl_nz y1)) + (6151 * (nl_nz y5))) + 1) * (((7919 * (nl_nz y1)) + (6151 * (nl_nz y5))) + 1))).tmod (nl_nl 65521))).tdiv (nl_nl 2))).tdiv (nl_nz 64))).tmod (nl_nz 4)))], r7.2))
                                else none
                          else none
                        else
                          (den m_X6_passes [vO 6 0] h).bind fun r8 =>
                            some (.inl (42, [some (vO 6 0), some (vI y1), some (vI y2), some (vI y3), some (vI (y4 + r8.1)), some (vI (y5 + 1)), some (vL (((7919 * (nl_nz y1)) + (6151 * (nl_nz y5))) + 1)), none, some (vI ((nl_nl ((nl_nl ((((7919 * (nl_nz y1)) + (6151 * (nl_nz y5))) + 1) * (((7919 * (nl_nz y1)) + (6151 * (nl_nz y5))) + 1))).tmod (nl_nl 65521))).tdiv (nl_nl 2))), some (vI ((nl_nz ((nl_nl ((nl_nl ((((7919 * (nl_nz y1)) + (6151 * (nl_nz y5))) + 1) * (((7919 * (nl_nz y1)) + (6151 * (nl_nz y5))) + 1))).tmod (nl_nl 65521))).tdiv (nl_nl 2))).tmod (nl_nz (h 6 0 0 0)))), some (vI ((nl_nz ((nl_nz ((nl_nl ((nl_nl ((((7919 * (nl_nz y1)) + (6151 * (nl_nz y5))) + 1) * (((7919 * (nl_nz y1)) + (6151 * (nl_nz y5))) + 1))).tmod (nl_nl 65521))).tdiv (nl_nl 2))).tdiv (nl_nz 8))).tmod (nl_nz (h 6 0 0 0)))), some (vI ((nl_nz ((nl_nz ((nl_nl ((nl_nl ((((7919 * (nl_nz y1)) + (6151 * (nl_nz y5))) + 1) * (((7919 * (nl_nz y1)) + (6151 * (nl_nz y5))) + 1))).tmod (nl_nl 65521))).tdiv (nl_nl 2))).tdiv (nl_nz 64))).tmod (nl_nz 4)))], r8.2))
                    else
                      (den m_X6_trades [vO 6 0, vI ((nl_nz ((nl_nl ((nl_nl ((((7919 * (nl_nz y1)) + (6151 * (nl_nz y5))) + 1) * (((7919 * (nl_nz y1)) + (6151 * (nl_nz y5))) + 1))).tmod (nl_nl 65521))).tdiv (nl_nl 2))).tmod (nl_nz (h 6 0 0 0))), vI ((nl_nz ((nl_nz ((nl_nl ((nl_nl ((((7919 * (nl_nz y1)) + (6151 * (nl_nz y5))) + 1) * (((7919 * (nl_nz y1)) + (6151 * (nl_nz y5))) + 1))).tmod (nl_nl 65521))).tdiv (nl_nl 2))).tdiv (nl_nz 8))).tmod (nl_nz (h 6 0 0 0)))] h).bind fun r9 =>
                        (den m_X6_passes [vO 6 0] r9.2).bind fun r10 =>
                          some (.inl (42, [some (vO 6 0), some (vI y1), some (vI y2), some (vI y3), some (vI (y4 + r10.1)), some (vI (y5 + 1)), some (vL (((7919 * (nl_nz y1)) + (6151 * (nl_nz y5))) + 1)), none, some (vI ((nl_nl ((nl_nl ((((7919 * (nl_nz y1)) + (6151 * (nl_nz y5))) + 1) * (((7919 * (nl_nz y1)) + (6151 * (nl_nz y5))) + 1))).tmod (nl_nl 65521))).tdiv (nl_nl 2))), some (vI ((nl_nz ((nl_nl ((nl_nl ((((7919 * (nl_nz y1)) + (6151 * (nl_nz y5))) + 1) * (((7919 * (nl_nz y1)) + (6151 * (nl_nz y5))) + 1))).tmod (nl_nl 65521))).tdiv (nl_nl 2))).tmod (nl_nz (h 6 0 0 0)))), some (vI ((nl_nz ((nl_nz ((nl_nl ((nl_nl ((((7919 * (nl_nz y1)) + (6151 * (nl_nz y5))) + 1) * (((7919 * (nl_nz y1)) + (6151 * (nl_nz y5))) + 1))).tmod (nl_nl 65521))).tdiv (nl_nl 2))).tdiv (nl_nz 8))).tmod (nl_nz (h 6 0 0 0)))), some (vI ((nl_nz ((nl_nz ((nl_nl ((nl_nl ((((7919 * (nl_nz y1)) + (6151 * (nl_nz y5))) + 1) * (((7919 * (nl_nz y1)) + (6151 * (nl_nz y5))) + 1))).tmod (nl_nl 65521))).tdiv (nl_nl 2))).tdiv (nl_nz 64))).tmod (nl_nz 4)))], r10.2))
                  else
                    if nl_nz ((nl_nz ((nl_nz ((nl_nl ((nl_nl ((((7919 * (nl_nz y1)) + (6151 * (nl_nz y5))) + 1) * (((7919 * (nl_nz y1)) + (6151 * (nl_nz y5))) + 1))).tmod (nl_nl 65521))).tdiv (nl_nl 2))).tdiv (nl_nz 64))).tmod (nl_nz 4)) = nl_nz 1 then
                      (den m_X6_rests [vO 6 0, vI ((nl_nz ((nl_nl ((nl_nl ((((7919 * (nl_nz y1)) + (6151 * (nl_nz y5))) + 1) * (((7919 * (nl_nz y1)) + (6151 * (nl_nz y5))) + 1))).tmod (nl_nl 65521))).tdiv (nl_nl 2))).tmod (nl_nz (h 6 0 0 0)))] h).bind fun r11 =>
                        (den m_X6_passes [vO 6 0] r11.2).bind fun r12 =>
                          some (.inl (42, [some (vO 6 0), some (vI y1), some (vI y2), some (vI y3), some (vI (y4 + r12.1)), some (vI (y5 + 1)), some (vL (((7919 * (nl_nz y1)) + (6151 * (nl_nz y5))) + 1)), none, some (vI ((nl_nl ((nl_nl ((((7919 * (nl_nz y1)) + (6151 * (nl_nz y5))) + 1) * (((7919 * (nl_nz y1)) + (6151 * (nl_nz y5))) + 1))).tmod (nl_nl 65521))).tdiv (nl_nl 2))), some (vI ((nl_nz ((nl_nl ((nl_nl ((((7919 * (nl_nz y1)) + (6151 * (nl_nz y5))) + 1) * (((7919 * (nl_nz y1)) + (6151 * (nl_nz y5))) + 1))).tmod (nl_nl 65521))).tdiv (nl_nl 2))).tmod (nl_nz (h 6 0 0 0)))), some (vI ((nl_nz ((nl_nz ((nl_nl ((nl_nl ((((7919 * (nl_nz y1)) + (6151 * (nl_nz y5))) + 1) * (((7919 * (nl_nz y1)) + (6151 * (nl_nz y5))) + 1))).tmod (nl_nl 65521))).tdiv (nl_nl 2))).tdiv (nl_nz 8))).tmod (nl_nz (h 6 0 0 0)))), some (vI ((nl_nz ((nl_nz ((nl_nl ((nl_nl ((((7919 * (nl_nz y1)) + (6151 * (nl_nz y5))) + 1) * (((7919 * (nl_nz y1)) + (6151 * (nl_nz y5))) + 1))).tmod (nl_nl 65521))).tdiv (nl_nl 2))).tdiv (nl_nz 64))).tmod (nl_nz 4)))], r12.2))
                    else
                      if nl_nz ((nl_nz ((nl_nz ((nl_nl ((nl_nl ((((7919 * (nl_nz y1)) + (6151 * (nl_nz y5))) + 1) * (((7919 * (nl_nz y1)) + (6151 * (nl_nz y5))) + 1))).tmod (nl_nl 65521))).tdiv (nl_nl 2))).tdiv (nl_nz 64))).tmod (nl_nz 4)) = nl_nz 2 then
                        if 0 ≤ nl_nz ((nl_nz ((nl_nl ((nl_nl ((((7919 * (nl_nz y1)) + (6151 * (nl_nz y5))) + 1) * (((7919 * (nl_nz y1)) + (6151 * (nl_nz y5))) + 1))).tmod (nl_nl 65521))).tdiv (nl_nl 2))).tmod (nl_nz (h 6 0 0 0))) ∧ nl_nz ((nl_nz ((nl_nl ((nl_nl ((((7919 * (nl_nz y1)) + (6151 * (nl_nz y5))) + 1) * (((7919 * (nl_nz y1)) + (6151 * (nl_nz y5))) + 1))).tmod (nl_nl 65521))).tdiv (nl_nl 2))).tmod (nl_nz (h 6 0 0 0))) < 7 then
                          if nl_nz 256 = 0 then none else
                            if nl_nz 21 = 0 then none else
                              if 0 ≤ nl_nz (h 6 0 6 (nl_nz ((nl_nz ((nl_nl ((nl_nl ((((7919 * (nl_nz y1)) + (6151 * (nl_nz y5))) + 1) * (((7919 * (nl_nz y1)) + (6151 * (nl_nz y5))) + 1))).tmod (nl_nl 65521))).tdiv (nl_nl 2))).tmod (nl_nz (h 6 0 0 0)))).toNat) ∧ nl_nz (h 6 0 6 (nl_nz ((nl_nz ((nl_nl ((nl_nl ((((7919 * (nl_nz y1)) + (6151 * (nl_nz y5))) + 1) * (((7919 * (nl_nz y1)) + (6151 * (nl_nz y5))) + 1))).tmod (nl_nl 65521))).tdiv (nl_nl 2))).tmod (nl_nz (h 6 0 0 0)))).toNat) < 7 then
                                (den m_X6_passes [vO 6 0] (nl_up h 6 0 10 (nl_nz (h 6 0 6 (nl_nz ((nl_nz ((nl_nl ((nl_nl ((((7919 * (nl_nz y1)) + (6151 * (nl_nz y5))) + 1) * (((7919 * (nl_nz y1)) + (6151 * (nl_nz y5))) + 1))).tmod (nl_nl 65521))).tdiv (nl_nl 2))).tmod (nl_nz (h 6 0 0 0)))).toNat)).toNat ((nl_nz ((nl_nz ((nl_nl ((nl_nl ((((7919 * (nl_nz y1)) + (6151 * (nl_nz y5))) + 1) * (((7919 * (nl_nz y1)) + (6151 * (nl_nz y5))) + 1))).tmod (nl_nl 65521))).tdiv (nl_nl 2))).tdiv (nl_nz 256))).tmod (nl_nz 21)))).bind fun r13 =>
                                  some (.inl (42, [some (vO 6 0), some (vI y1), some (vI y2), some (vI y3), some (vI (y4 + r13.1)), some (vI (y5 + 1)), some (vL (((7919 * (nl_nz y1)) + (6151 * (nl_nz y5))) + 1)), none, some (vI ((nl_nl ((nl_nl ((((7919 * (nl_nz y1)) + (6151 * (nl_nz y5))) + 1) * (((7919 * (nl_nz y1)) + (6151 * (nl_nz y5))) + 1))).tmod (nl_nl 65521))).tdiv (nl_nl 2))), some (vI ((nl_nz ((nl_nl ((nl_nl ((((7919 * (nl_nz y1)) + (6151 * (nl_nz y5))) + 1) * (((7919 * (nl_nz y1)) + (6151 * (nl_nz y5))) + 1))).tmod (nl_nl 65521))).tdiv (nl_nl 2))).tmod (nl_nz (h 6 0 0 0)))), some (vI ((nl_nz ((nl_nz ((nl_nl ((nl_nl ((((7919 * (nl_nz y1)) + (6151 * (nl_nz y5))) + 1) * (((7919 * (nl_nz y1)) + (6151 * (nl_nz y5))) + 1))).tmod (nl_nl 65521))).tdiv (nl_nl 2))).tdiv (nl_nz 8))).tmod (nl_nz (h 6 0 0 0)))), some (vI ((nl_nz ((nl_nz ((nl_nl ((nl_nl ((((7919 * (nl_nz y1)) + (6151 * (nl_nz y5))) + 1) * (((7919 * (nl_nz y1)) + (6151 * (nl_nz y5))) + 1))).tmod (nl_nl 65521))).tdiv (nl_nl 2))).tdiv (nl_nz 64))).tmod (nl_nz 4)))], r13.2))
                              else none
                        else none
                      else
                        (den m_X6_passes [vO 6 0] h).bind fun r14 =>
                          some (.inl (42, [some (vO 6 0), some (vI y1), some (vI y2), some (vI y3), some (vI (y4 + r14.1)), some (vI (y5 + 1)), some (vL (((7919 * (nl_nz y1)) + (6151 * (nl_nz y5))) + 1)), none, some (vI ((nl_nl ((nl_nl ((((7919 * (nl_nz y1)) + (6151 * (nl_nz y5))) + 1) * (((7919 * (nl_nz y1)) + (6151 * (nl_nz y5))) + 1))).tmod (nl_nl 65521))).tdiv (nl_nl 2))), some (vI ((nl_nz ((nl_nl ((nl_nl ((((7919 * (nl_nz y1)) + (6151 * (nl_nz y5))) + 1) * (((7919 * (nl_nz y1)) + (6151 * (nl_nz y5))) + 1))).tmod (nl_nl 65521))).tdiv (nl_nl 2))).tmod (nl_nz (h 6 0 0 0)))), some (vI ((nl_nz ((nl_nz ((nl_nl ((nl_nl ((((7919 * (nl_nz y1)) + (6151 * (nl_nz y5))) + 1) * (((7919 * (nl_nz y1)) + (6151 * (nl_nz y5))) + 1))).tmod (nl_nl 65521))).tdiv (nl_nl 2))).tdiv (nl_nz 8))).tmod (nl_nz (h 6 0 0 0)))), some (vI ((nl_nz ((nl_nz ((nl_nl ((nl_nl ((((7919 * (nl_nz y1)) + (6151 * (nl_nz y5))) + 1) * (((7919 * (nl_nz y1)) + (6151 * (nl_nz y5))) + 1))).tmod (nl_nl 65521))).tdiv (nl_nl 2))).tdiv (nl_nz 64))).tmod (nl_nz 4)))], r14.2))) := rfl
set_option maxRecDepth 20000 in
theorem sg_X6_keep_0 (LS : Int) (den : nl_D) (h : nl_H)  : nl_ex LS cd_X6_keep den ct_X6_keep 1 400 0 [some (vO 6 0)] [] h =
  (if nl_nz (h 6 0 29 0) = nl_nz 2 then
    some (.inr ((-3), h))
  else
    (den m_X6_lays [vO 6 0, vA 6 0 28, vI (79 * (h 6 0 29 0))] h).bind fun r1 =>
      some (.inr ((nl_up r1.2 6 0 29 0 ((r1.2 6 0 29 0) + 1)) 6 0 29 0, nl_up r1.2 6 0 29 0 ((r1.2 6 0 29 0) + 1)))) := rfl
set_option maxRecDepth 20000 in
theorem sg_X6_back_0 (LS : Int) (den : nl_D) (h : nl_H)  : nl_ex LS cd_X6_back den ct_X6_back 1 400 0 [some (vO 6 0)] [] h =
  (if nl_nz (h 6 0 29 0) = 0 then
    some (.inr ((-2), h))
  else
    (den m_X6_takes [vO 6 0, vA 6 0 28, vI (79 * ((nl_up h 6 0 29 0 ((h 6 0 29 0) - 1)) 6 0 29 0))] (nl_up h 6 0 29 0 ((h 6 0 29 0) - 1))).bind fun r1 =>
      some (.inr ((nl_up r1.2 6 0 24 0 0) 6 0 29 0, nl_up r1.2 6 0 24 0 0))) := rfl
set_option maxRecDepth 20000 in
theorem sg_X6_count_0 (LS : Int) (den : nl_D) (h : nl_H) (x1 : Int) : nl_ex LS cd_X6_count den ct_X6_count 1 400 0 [some (vO 6 0), some (vI x1)] [] h =
  ((den m_X6_in [vI x1, vI 0, vI 7] h).bind fun r1 =>
    if nl_nz r1.1 = 0 then
      some (.inr ((-1), r1.2))
    else
      if nl_nz x1 = 0 then
        some (.inr (r1.2 6 0 0 0, r1.2))
      else
        if nl_nz x1 = 0 + 1 then
          some (.inr (r1.2 6 0 4 0, r1.2))
        else
          if nl_nz x1 = 0 + 1 + 1 then
            some (.inr (r1.2 6 0 5 0, r1.2))
          else
            if nl_nz x1 = 0 + 1 + 1 + 1 then
              (den m_X6_tiredAll [vO 6 0] r1.2).bind fun r2 =>
                some (.inr (r2.1, r2.2))
            else
              if nl_nz x1 = 0 + 1 + 1 + 1 + 1 then
                some (.inr (r1.2 6 0 11 0, r1.2))
              else
                if nl_nz x1 = 0 + 1 + 1 + 1 + 1 + 1 then
                  some (.inr (r1.2 6 0 24 0, r1.2))
                else
                  if nl_nz x1 = 0 + 1 + 1 + 1 + 1 + 1 + 1 then
                    some (.inr (r1.2 6 0 29 0, r1.2))
                  else
                    some (.inr (r1.2 6 0 16 0, r1.2))) := rfl
end
section
/-! A call is a run of its code. -/
noncomputable abbrev nl_c (LS : Int) (n : Nat) : nl_D := nl_cl nl_mts LS n
theorem cl_X0_choose {LS : Int} {n : Nat} {h : nl_H} {r : Int × nl_H} {v : Nat} (e : nl_Rn LS cd_X0_choose (nl_c LS n) ct_X0_choose 0 0 [some (vO 0 0), some (vO 4 v), none, none] h r) : nl_c LS (n + 1) m_X0_choose [vO 0 0, vO 4 v] h = some r := nl_cl_of rfl rfl e
theorem cl_X0_weigh {LS : Int} {n : Nat} {h : nl_H} {r : Int × nl_H} {v : Nat} (e : nl_Rn LS cd_X0_weigh (nl_c LS n) ct_X0_weigh 0 0 [some (vO 0 0), some (vO 4 v), none, none, none] h r) : nl_c LS (n + 1) m_X0_weigh [vO 0 0, vO 4 v] h = some r := nl_cl_of rfl rfl e
theorem cl_X0_leastOf {LS : Int} {n : Nat} {h : nl_H} {r : Int × nl_H} {x1 : Int} {x2 : Int} (e : nl_Rn LS cd_X0_leastOf (nl_c LS n) ct_X0_leastOf 1 0 [some (vO 0 0), some (vI x1), some (vI x2), none, none, none] h r) : nl_c LS (n + 1) m_X0_leastOf [vO 0 0, vI x1, vI x2] h = some r := nl_cl_of rfl rfl e
theorem cl_X0_priceWith {LS : Int} {n : Nat} {h : nl_H} {r : Int × nl_H} {x1 : Int} {x2 : Int} {x3 : Int} (e : nl_Rn LS cd_X0_priceWith (nl_c LS n) ct_X0_priceWith 1 0 [some (vO 0 0), some (vI x1), some (vI x2), some (vI x3)] h r) : nl_c LS (n + 1) m_X0_priceWith [vO 0 0, vI x1, vI x2, vI x3] h = some r := nl_cl_of rfl rfl e
theorem cl_X0_dealOut {LS : Int} {n : Nat} {h : nl_H} {r : Int × nl_H} {x1 : Int} (e : nl_Rn LS cd_X0_dealOut (nl_c LS n) ct_X0_dealOut 0 0 [some (vO 0 0), some (vI x1), none, none, none] h r) : nl_c LS (n + 1) m_X0_dealOut [vO 0 0, vI x1] h = some r := nl_cl_of rfl rfl e
theorem cl_X0_lowestOfLeast {LS : Int} {n : Nat} {h : nl_H} {r : Int × nl_H} {x1 : Int} {x2 : Int} {x3 : Int} (e : nl_Rn LS cd_X0_lowestOfLeast (nl_c LS n) ct_X0_lowestOfLeast 1 0 [some (vO 0 0), some (vI x1), some (vI x2), some (vI x3), none] h r) : nl_c LS (n + 1) m_X0_lowestOfLeast [vO 0 0, vI x1, vI x2, vI x3] h = some r := nl_cl_of rfl rfl e
theorem cl_X0_fewestSwaps {LS : Int} {n : Nat} {h : nl_H} {r : Int × nl_H} {v : Nat} (e : nl_Rn LS cd_X0_fewestSwaps (nl_c LS n) ct_X0_fewestSwaps 1 0 [some (vO 0 0), some (vO 4 v), none] h r) : nl_c LS (n + 1) m_X0_fewestSwaps [vO 0 0, vO 4 v] h = some r := nl_cl_of rfl rfl e
theorem cl_X0_canBridge {LS : Int} {n : Nat} {h : nl_H} {r : Int × nl_H} {x1 : Int} {x2 : Int} {x3 : Int} (e : nl_Rn LS cd_X0_canBridge (nl_c LS n) ct_X0_canBridge 3 0 [some (vA 0 0 4), some (vA 0 0 3), some (vI x1), some (vI x2), some (vI x3), none, none, none] h r) : nl_c LS (n + 1) m_X0_canBridge [vA 0 0 4, vA 0 0 3, vI x1, vI x2, vI x3] h = some r := nl_cl_of rfl rfl e
theorem cl_X0_exchange {LS : Int} {n : Nat} {h : nl_H} {r : Int × nl_H} {x1 : Int} {x2 : Int} (e : nl_Rn LS cd_X0_exchange (nl_c LS n) ct_X0_exchange 0 0 [some (vA 0 0 4), some (vI x1), some (vI x2), none] h r) : nl_c LS (n + 1) m_X0_exchange [vA 0 0 4, vI x1, vI x2] h = some r := nl_cl_of rfl rfl e
theorem cl_X1_read {LS : Int} {n : Nat} {h : nl_H} {r : Int × nl_H} {x1 : Int} (e : nl_Rn LS cd_X1_read (nl_c LS n) ct_X1_read 0 0 [some (vO 1 0), some (vA 5 0 0), some (vI x1), none, none] h r) : nl_c LS (n + 1) m_X1_read [vO 1 0, vA 5 0 0, vI x1] h = some r := nl_cl_of rfl rfl e
theorem cl_X1_canBeLaid {LS : Int} {n : Nat} {h : nl_H} {r : Int × nl_H} (e : nl_Rn LS cd_X1_canBeLaid (nl_c LS n) ct_X1_canBeLaid 3 0 [some (vO 1 0)] h r) : nl_c LS (n + 1) m_X1_canBeLaid [vO 1 0] h = some r := nl_cl_of rfl rfl e
theorem cl_X1_readItem {LS : Int} {n : Nat} {h : nl_H} {r : Int × nl_H} {x1 : Int} {x2 : Int} (e : nl_Rn LS cd_X1_readItem (nl_c LS n) ct_X1_readItem 1 0 [some (vO 1 0), some (vA 5 0 0), some (vI x1), some (vI x2), none, none, none, none, none, none] h r) : nl_c LS (n + 1) m_X1_readItem [vO 1 0, vA 5 0 0, vI x1, vI x2] h = some r := nl_cl_of rfl rfl e
theorem cl_X1_readNumber {LS : Int} {n : Nat} {h : nl_H} {r : Int × nl_H} {x1 : Int} {x2 : Int} {x3 : Int} (e : nl_Rn LS cd_X1_readNumber (nl_c LS n) ct_X1_readNumber 1 0 [some (vO 1 0), some (vA 5 0 0), some (vI x1), some (vI x2), some (vI x3), none, none] h r) : nl_c LS (n + 1) m_X1_readNumber [vO 1 0, vA 5 0 0, vI x1, vI x2, vI x3] h = some r := nl_cl_of rfl rfl e
theorem cl_X1_addHour {LS : Int} {n : Nat} {h : nl_H} {r : Int × nl_H} (e : nl_Rn LS cd_X1_addHour (nl_c LS n) ct_X1_addHour 3 0 [some (vO 1 0)] h r) : nl_c LS (n + 1) m_X1_addHour [vO 1 0] h = some r := nl_cl_of rfl rfl e
theorem cl_X1_addHouse {LS : Int} {n : Nat} {h : nl_H} {r : Int × nl_H} (e : nl_Rn LS cd_X1_addHouse (nl_c LS n) ct_X1_addHouse 3 0 [some (vO 1 0)] h r) : nl_c LS (n + 1) m_X1_addHouse [vO 1 0] h = some r := nl_cl_of rfl rfl e
theorem cl_X2_clear {LS : Int} {n : Nat} {h : nl_H} {r : Int × nl_H} {o : Nat} (e : nl_Rn LS cd_X2_clear (nl_c LS n) ct_X2_clear 0 0 [some (vO 2 o)] h r) : nl_c LS (n + 1) m_X2_clear [vO 2 o] h = some r := nl_cl_of rfl rfl e
theorem cl_X2_put {LS : Int} {n : Nat} {h : nl_H} {r : Int × nl_H} {o : Nat} {v : Nat} (e : nl_Rn LS cd_X2_put (nl_c LS n) ct_X2_put 0 0 [some (vO 2 o), some (vO 4 v)] h r) : nl_c LS (n + 1) m_X2_put [vO 2 o, vO 4 v] h = some r := nl_cl_of rfl rfl e
theorem cl_X2_dropOldest {LS : Int} {n : Nat} {h : nl_H} {r : Int × nl_H} {o : Nat} (e : nl_Rn LS cd_X2_dropOldest (nl_c LS n) ct_X2_dropOldest 0 0 [some (vO 2 o), none, none] h r) : nl_c LS (n + 1) m_X2_dropOldest [vO 2 o] h = some r := nl_cl_of rfl rfl e
theorem cl_X2_takeInto {LS : Int} {n : Nat} {h : nl_H} {r : Int × nl_H} {o : Nat} {v : Nat} (e : nl_Rn LS cd_X2_takeInto (nl_c LS n) ct_X2_takeInto 3 0 [some (vO 2 o), some (vO 4 v)] h r) : nl_c LS (n + 1) m_X2_takeInto [vO 2 o, vO 4 v] h = some r := nl_cl_of rfl rfl e
theorem cl_X3_clear {LS : Int} {n : Nat} {h : nl_H} {r : Int × nl_H} (e : nl_Rn LS cd_X3_clear (nl_c LS n) ct_X3_clear 0 0 [some (vO 3 0)] h r) : nl_c LS (n + 1) m_X3_clear [vO 3 0] h = some r := nl_cl_of rfl rfl e
theorem cl_X3_add {LS : Int} {n : Nat} {h : nl_H} {r : Int × nl_H} {x1 : Int} {x2 : Int} {x3 : Int} (e : nl_Rn LS cd_X3_add (nl_c LS n) ct_X3_add 0 0 [some (vO 3 0), some (vI x1), some (vI x2), some (vI x3)] h r) : nl_c LS (n + 1) m_X3_add [vO 3 0, vI x1, vI x2, vI x3] h = some r := nl_cl_of rfl rfl e
theorem cl_X3_lastNight {LS : Int} {n : Nat} {h : nl_H} {r : Int × nl_H} (e : nl_Rn LS cd_X3_lastNight (nl_c LS n) ct_X3_lastNight 1 0 [some (vO 3 0), none, none] h r) : nl_c LS (n + 1) m_X3_lastNight [vO 3 0] h = some r := nl_cl_of rfl rfl e
theorem cl_X3_fit {LS : Int} {n : Nat} {h : nl_H} {r : Int × nl_H} {v : Nat} {x1 : Int} (e : nl_Rn LS cd_X3_fit (nl_c LS n) ct_X3_fit 3 0 [some (vO 3 0), some (vO 4 v), some (vI x1), none] h r) : nl_c LS (n + 1) m_X3_fit [vO 3 0, vO 4 v, vI x1] h = some r := nl_cl_of rfl rfl e
theorem cl_X4_settle {LS : Int} {n : Nat} {h : nl_H} {r : Int × nl_H} {o : Nat} (e : nl_Rn LS cd_X4_settle (nl_c LS n) ct_X4_settle 0 0 [some (vO 4 o), some (vO 1 0), none] h r) : nl_c LS (n + 1) m_X4_settle [vO 4 o, vO 1 0] h = some r := nl_cl_of rfl rfl e
theorem cl_X4_copyFrom {LS : Int} {n : Nat} {h : nl_H} {r : Int × nl_H} {o : Nat} {v : Nat} (e : nl_Rn LS cd_X4_copyFrom (nl_c LS n) ct_X4_copyFrom 0 0 [some (vO 4 o), some (vO 4 v), none] h r) : nl_c LS (n + 1) m_X4_copyFrom [vO 4 o, vO 4 v] h = some r := nl_cl_of rfl rfl e
theorem cl_X4_isHouse {LS : Int} {n : Nat} {h : nl_H} {r : Int × nl_H} {o : Nat} {x1 : Int} (e : nl_Rn LS cd_X4_isHouse (nl_c LS n) ct_X4_isHouse 3 0 [some (vO 4 o), some (vI x1)] h r) : nl_c LS (n + 1) m_X4_isHouse [vO 4 o, vI x1] h = some r := nl_cl_of rfl rfl e
theorem cl_X4_isHour {LS : Int} {n : Nat} {h : nl_H} {r : Int × nl_H} {o : Nat} {x1 : Int} (e : nl_Rn LS cd_X4_isHour (nl_c LS n) ct_X4_isHour 3 0 [some (vO 4 o), some (vI x1)] h r) : nl_c LS (n + 1) m_X4_isHour [vO 4 o, vI x1] h = some r := nl_cl_of rfl rfl e
theorem cl_X4_houseWith {LS : Int} {n : Nat} {h : nl_H} {r : Int × nl_H} {o : Nat} {x1 : Int} (e : nl_Rn LS cd_X4_houseWith (nl_c LS n) ct_X4_houseWith 1 0 [some (vO 4 o), some (vI x1), none] h r) : nl_c LS (n + 1) m_X4_houseWith [vO 4 o, vI x1] h = some r := nl_cl_of rfl rfl e
theorem cl_X4_timesHad {LS : Int} {n : Nat} {h : nl_H} {r : Int × nl_H} {o : Nat} {x1 : Int} {x2 : Int} (e : nl_Rn LS cd_X4_timesHad (nl_c LS n) ct_X4_timesHad 1 0 [some (vO 4 o), some (vI x1), some (vI x2)] h r) : nl_c LS (n + 1) m_X4_timesHad [vO 4 o, vI x1, vI x2] h = some r := nl_cl_of rfl rfl e
theorem cl_X4_heaviness {LS : Int} {n : Nat} {h : nl_H} {r : Int × nl_H} {o : Nat} {x1 : Int} {x2 : Int} (e : nl_Rn LS cd_X4_heaviness (nl_c LS n) ct_X4_heaviness 1 0 [some (vO 4 o), some (vI x1), some (vI x2), none] h r) : nl_c LS (n + 1) m_X4_heaviness [vO 4 o, vI x1, vI x2] h = some r := nl_cl_of rfl rfl e
theorem cl_X4_hourHadMost {LS : Int} {n : Nat} {h : nl_H} {r : Int × nl_H} {o : Nat} {x1 : Int} (e : nl_Rn LS cd_X4_hourHadMost (nl_c LS n) ct_X4_hourHadMost 1 0 [some (vO 4 o), some (vI x1), none, none, none, none] h r) : nl_c LS (n + 1) m_X4_hourHadMost [vO 4 o, vI x1] h = some r := nl_cl_of rfl rfl e
theorem cl_X4_wouldKeep {LS : Int} {n : Nat} {h : nl_H} {r : Int × nl_H} {o : Nat} {x1 : Int} {x2 : Int} {x3 : Int} (e : nl_Rn LS cd_X4_wouldKeep (nl_c LS n) ct_X4_wouldKeep 3 0 [some (vO 4 o), some (vI x1), some (vI x2), some (vI x3)] h r) : nl_c LS (n + 1) m_X4_wouldKeep [vO 4 o, vI x1, vI x2, vI x3] h = some r := nl_cl_of rfl rfl e
theorem cl_X4_isGapAt {LS : Int} {n : Nat} {h : nl_H} {r : Int × nl_H} {o : Nat} {x1 : Int} (e : nl_Rn LS cd_X4_isGapAt (nl_c LS n) ct_X4_isGapAt 3 0 [some (vO 4 o), some (vI x1), none] h r) : nl_c LS (n + 1) m_X4_isGapAt [vO 4 o, vI x1] h = some r := nl_cl_of rfl rfl e
theorem cl_X4_seeThrough {LS : Int} {n : Nat} {h : nl_H} {r : Int × nl_H} {o : Nat} {x1 : Int} (e : nl_Rn LS cd_X4_seeThrough (nl_c LS n) ct_X4_seeThrough 3 0 [some (vO 4 o), some (vI x1), none, none] h r) : nl_c LS (n + 1) m_X4_seeThrough [vO 4 o, vI x1] h = some r := nl_cl_of rfl rfl e
theorem cl_X4_letNightsPass {LS : Int} {n : Nat} {h : nl_H} {r : Int × nl_H} {o : Nat} {x1 : Int} (e : nl_Rn LS cd_X4_letNightsPass (nl_c LS n) ct_X4_letNightsPass 1 0 [some (vO 4 o), some (vI x1), none, none, none] h r) : nl_c LS (n + 1) m_X4_letNightsPass [vO 4 o, vI x1] h = some r := nl_cl_of rfl rfl e
theorem cl_X4_trade {LS : Int} {n : Nat} {h : nl_H} {r : Int × nl_H} {o : Nat} {x1 : Int} {x2 : Int} (e : nl_Rn LS cd_X4_trade (nl_c LS n) ct_X4_trade 0 0 [some (vO 4 o), some (vI x1), some (vI x2), none] h r) : nl_c LS (n + 1) m_X4_trade [vO 4 o, vI x1, vI x2] h = some r := nl_cl_of rfl rfl e
theorem cl_X4_giveRest {LS : Int} {n : Nat} {h : nl_H} {r : Int × nl_H} {o : Nat} {x1 : Int} (e : nl_Rn LS cd_X4_giveRest (nl_c LS n) ct_X4_giveRest 0 0 [some (vO 4 o), some (vI x1)] h r) : nl_c LS (n + 1) m_X4_giveRest [vO 4 o, vI x1] h = some r := nl_cl_of rfl rfl e
theorem cl_X4_setBurden {LS : Int} {n : Nat} {h : nl_H} {r : Int × nl_H} {o : Nat} {x1 : Int} {x2 : Int} (e : nl_Rn LS cd_X4_setBurden (nl_c LS n) ct_X4_setBurden 0 0 [some (vO 4 o), some (vI x1), some (vI x2)] h r) : nl_c LS (n + 1) m_X4_setBurden [vO 4 o, vI x1, vI x2] h = some r := nl_cl_of rfl rfl e
theorem cl_X4_tiredTogether {LS : Int} {n : Nat} {h : nl_H} {r : Int × nl_H} {o : Nat} (e : nl_Rn LS cd_X4_tiredTogether (nl_c LS n) ct_X4_tiredTogether 1 0 [some (vO 4 o), none, none] h r) : nl_c LS (n + 1) m_X4_tiredTogether [vO 4 o] h = some r := nl_cl_of rfl rfl e
theorem cl_X4_handingOver {LS : Int} {n : Nat} {h : nl_H} {r : Int × nl_H} {o : Nat} (e : nl_Rn LS cd_X4_handingOver (nl_c LS n) ct_X4_handingOver 1 0 [some (vO 4 o), none, none, none, none] h r) : nl_c LS (n + 1) m_X4_handingOver [vO 4 o] h = some r := nl_cl_of rfl rfl e
theorem cl_X4_lengthOfRoad {LS : Int} {n : Nat} {h : nl_H} {r : Int × nl_H} {o : Nat} (e : nl_Rn LS cd_X4_lengthOfRoad (nl_c LS n) ct_X4_lengthOfRoad 1 0 [some (vO 4 o), none, none, none] h r) : nl_c LS (n + 1) m_X4_lengthOfRoad [vO 4 o] h = some r := nl_cl_of rfl rfl e
theorem cl_X4_stir {LS : Int} {n : Nat} {h : nl_H} {r : Int × nl_H} {o : Nat} {x1 : Int} (e : nl_Rn LS cd_X4_stir (nl_c LS n) ct_X4_stir 0 0 [some (vO 4 o), some (vI x1), none, none] h r) : nl_c LS (n + 1) m_X4_stir [vO 4 o, vI x1] h = some r := nl_cl_of rfl rfl e
theorem cl_X5_write {LS : Int} {n : Nat} {h : nl_H} {r : Int × nl_H} {x1 : Int} (e : nl_Rn LS cd_X5_write (nl_c LS n) ct_X5_write 1 0 [some (vO 5 0), some (vI x1)] h r) : nl_c LS (n + 1) m_X5_write [vO 5 0, vI x1] h = some r := nl_cl_of rfl rfl e
theorem cl_X5_wipe {LS : Int} {n : Nat} {h : nl_H} {r : Int × nl_H} (e : nl_Rn LS cd_X5_wipe (nl_c LS n) ct_X5_wipe 1 0 [some (vO 5 0), none] h r) : nl_c LS (n + 1) m_X5_wipe [vO 5 0] h = some r := nl_cl_of rfl rfl e
theorem cl_X5_fault {LS : Int} {n : Nat} {h : nl_H} {r : Int × nl_H} (e : nl_Rn LS cd_X5_fault (nl_c LS n) ct_X5_fault 1 0 [some (vO 5 0)] h r) : nl_c LS (n + 1) m_X5_fault [vO 5 0] h = some r := nl_cl_of rfl rfl e
theorem cl_X5_lay {LS : Int} {n : Nat} {h : nl_H} {r : Int × nl_H} (e : nl_Rn LS cd_X5_lay (nl_c LS n) ct_X5_lay 1 0 [some (vO 5 0)] h r) : nl_c LS (n + 1) m_X5_lay [vO 5 0] h = some r := nl_cl_of rfl rfl e
theorem cl_X5_house {LS : Int} {n : Nat} {h : nl_H} {r : Int × nl_H} {x1 : Int} {x2 : Int} (e : nl_Rn LS cd_X5_house (nl_c LS n) ct_X5_house 1 0 [some (vO 5 0), some (vI x1), some (vI x2)] h r) : nl_c LS (n + 1) m_X5_house [vO 5 0, vI x1, vI x2] h = some r := nl_cl_of rfl rfl e
theorem cl_X5_hour {LS : Int} {n : Nat} {h : nl_H} {r : Int × nl_H} {x1 : Int} {x2 : Int} (e : nl_Rn LS cd_X5_hour (nl_c LS n) ct_X5_hour 1 0 [some (vO 5 0), some (vI x1), some (vI x2)] h r) : nl_c LS (n + 1) m_X5_hour [vO 5 0, vI x1, vI x2] h = some r := nl_cl_of rfl rfl e
theorem cl_X5_heavy {LS : Int} {n : Nat} {h : nl_H} {r : Int × nl_H} {x1 : Int} {x2 : Int} (e : nl_Rn LS cd_X5_heavy (nl_c LS n) ct_X5_heavy 1 0 [some (vO 5 0), some (vI x1), some (vI x2)] h r) : nl_c LS (n + 1) m_X5_heavy [vO 5 0, vI x1, vI x2] h = some r := nl_cl_of rfl rfl e
theorem cl_X5_had {LS : Int} {n : Nat} {h : nl_H} {r : Int × nl_H} {x1 : Int} {x2 : Int} (e : nl_Rn LS cd_X5_had (nl_c LS n) ct_X5_had 1 0 [some (vO 5 0), some (vI x1), some (vI x2)] h r) : nl_c LS (n + 1) m_X5_had [vO 5 0, vI x1, vI x2] h = some r := nl_cl_of rfl rfl e
theorem cl_X5_pass {LS : Int} {n : Nat} {h : nl_H} {r : Int × nl_H} {x1 : Int} (e : nl_Rn LS cd_X5_pass (nl_c LS n) ct_X5_pass 1 0 [some (vO 5 0), some (vI x1)] h r) : nl_c LS (n + 1) m_X5_pass [vO 5 0, vI x1] h = some r := nl_cl_of rfl rfl e
theorem cl_X5_swap {LS : Int} {n : Nat} {h : nl_H} {r : Int × nl_H} {x1 : Int} {x2 : Int} (e : nl_Rn LS cd_X5_swap (nl_c LS n) ct_X5_swap 1 0 [some (vO 5 0), some (vI x1), some (vI x2)] h r) : nl_c LS (n + 1) m_X5_swap [vO 5 0, vI x1, vI x2] h = some r := nl_cl_of rfl rfl e
theorem cl_X5_rest {LS : Int} {n : Nat} {h : nl_H} {r : Int × nl_H} {x1 : Int} (e : nl_Rn LS cd_X5_rest (nl_c LS n) ct_X5_rest 1 0 [some (vO 5 0), some (vI x1)] h r) : nl_c LS (n + 1) m_X5_rest [vO 5 0, vI x1] h = some r := nl_cl_of rfl rfl e
theorem cl_X5_burden {LS : Int} {n : Nat} {h : nl_H} {r : Int × nl_H} {x1 : Int} {x2 : Int} (e : nl_Rn LS cd_X5_burden (nl_c LS n) ct_X5_burden 1 0 [some (vO 5 0), some (vI x1), some (vI x2), none] h r) : nl_c LS (n + 1) m_X5_burden [vO 5 0, vI x1, vI x2] h = some r := nl_cl_of rfl rfl e
theorem cl_X5_undo {LS : Int} {n : Nat} {h : nl_H} {r : Int × nl_H} (e : nl_Rn LS cd_X5_undo (nl_c LS n) ct_X5_undo 1 0 [some (vO 5 0)] h r) : nl_c LS (n + 1) m_X5_undo [vO 5 0] h = some r := nl_cl_of rfl rfl e
theorem cl_X5_behind {LS : Int} {n : Nat} {h : nl_H} {r : Int × nl_H} {x1 : Int} {x2 : Int} {x3 : Int} (e : nl_Rn LS cd_X5_behind (nl_c LS n) ct_X5_behind 1 0 [some (vO 5 0), some (vI x1), some (vI x2), some (vI x3)] h r) : nl_c LS (n + 1) m_X5_behind [vO 5 0, vI x1, vI x2, vI x3] h = some r := nl_cl_of rfl rfl e
theorem cl_X5_gaps {LS : Int} {n : Nat} {h : nl_H} {r : Int × nl_H} (e : nl_Rn LS cd_X5_gaps (nl_c LS n) ct_X5_gaps 1 0 [some (vO 5 0), none, none] h r) : nl_c LS (n + 1) m_X5_gaps [vO 5 0] h = some r := nl_cl_of rfl rfl e
theorem cl_X5_first {LS : Int} {n : Nat} {h : nl_H} {r : Int × nl_H} {x1 : Int} (e : nl_Rn LS cd_X5_first (nl_c LS n) ct_X5_first 1 0 [some (vO 5 0), some (vI x1), none] h r) : nl_c LS (n + 1) m_X5_first [vO 5 0, vI x1] h = some r := nl_cl_of rfl rfl e
theorem cl_X5_even {LS : Int} {n : Nat} {h : nl_H} {r : Int × nl_H} {x1 : Int} (e : nl_Rn LS cd_X5_even (nl_c LS n) ct_X5_even 1 0 [some (vO 5 0), some (vI x1)] h r) : nl_c LS (n + 1) m_X5_even [vO 5 0, vI x1] h = some r := nl_cl_of rfl rfl e
theorem cl_X5_swaps {LS : Int} {n : Nat} {h : nl_H} {r : Int × nl_H} (e : nl_Rn LS cd_X5_swaps (nl_c LS n) ct_X5_swaps 1 0 [some (vO 5 0)] h r) : nl_c LS (n + 1) m_X5_swaps [vO 5 0] h = some r := nl_cl_of rfl rfl e
theorem cl_X5_far {LS : Int} {n : Nat} {h : nl_H} {r : Int × nl_H} {x1 : Int} (e : nl_Rn LS cd_X5_far (nl_c LS n) ct_X5_far 1 0 [some (vO 5 0), some (vI x1)] h r) : nl_c LS (n + 1) m_X5_far [vO 5 0, vI x1] h = some r := nl_cl_of rfl rfl e
theorem cl_X5_lamps {LS : Int} {n : Nat} {h : nl_H} {r : Int × nl_H} {x1 : Int} {x2 : Int} (e : nl_Rn LS cd_X5_lamps (nl_c LS n) ct_X5_lamps 1 0 [some (vO 5 0), some (vI x1), some (vI x2), none, none] h r) : nl_c LS (n + 1) m_X5_lamps [vO 5 0, vI x1, vI x2] h = some r := nl_cl_of rfl rfl e
theorem cl_X5_seen {LS : Int} {n : Nat} {h : nl_H} {r : Int × nl_H} {x1 : Int} {x2 : Int} {x3 : Int} (e : nl_Rn LS cd_X5_seen (nl_c LS n) ct_X5_seen 1 0 [some (vO 5 0), some (vI x1), some (vI x2), some (vI x3)] h r) : nl_c LS (n + 1) m_X5_seen [vO 5 0, vI x1, vI x2, vI x3] h = some r := nl_cl_of rfl rfl e
theorem cl_X5_forget {LS : Int} {n : Nat} {h : nl_H} {r : Int × nl_H} (e : nl_Rn LS cd_X5_forget (nl_c LS n) ct_X5_forget 1 0 [some (vO 5 0), none] h r) : nl_c LS (n + 1) m_X5_forget [vO 5 0] h = some r := nl_cl_of rfl rfl e
theorem cl_X5_kinds {LS : Int} {n : Nat} {h : nl_H} {r : Int × nl_H} {x1 : Int} (e : nl_Rn LS cd_X5_kinds (nl_c LS n) ct_X5_kinds 1 0 [some (vO 5 0), some (vI x1), none, none] h r) : nl_c LS (n + 1) m_X5_kinds [vO 5 0, vI x1] h = some r := nl_cl_of rfl rfl e
theorem cl_X5_strengths {LS : Int} {n : Nat} {h : nl_H} {r : Int × nl_H} {x1 : Int} {x2 : Int} (e : nl_Rn LS cd_X5_strengths (nl_c LS n) ct_X5_strengths 1 0 [some (vO 5 0), some (vI x1), some (vI x2), none, none, none] h r) : nl_c LS (n + 1) m_X5_strengths [vO 5 0, vI x1, vI x2] h = some r := nl_cl_of rfl rfl e
theorem cl_X5_likely {LS : Int} {n : Nat} {h : nl_H} {r : Int × nl_H} {x1 : Int} {x2 : Int} {x3 : Int} (e : nl_Rn LS cd_X5_likely (nl_c LS n) ct_X5_likely 1 0 [some (vO 5 0), some (vI x1), some (vI x2), some (vI x3), none, none, none, none, none] h r) : nl_c LS (n + 1) m_X5_likely [vO 5 0, vI x1, vI x2, vI x3] h = some r := nl_cl_of rfl rfl e
theorem cl_X5_winter {LS : Int} {n : Nat} {h : nl_H} {r : Int × nl_H} {x1 : Int} {x2 : Int} {x3 : Int} (e : nl_Rn LS cd_X5_winter (nl_c LS n) ct_X5_winter 1 0 [some (vO 5 0), some (vI x1), some (vI x2), some (vI x3), none, none] h r) : nl_c LS (n + 1) m_X5_winter [vO 5 0, vI x1, vI x2, vI x3] h = some r := nl_cl_of rfl rfl e
theorem cl_X5_keep {LS : Int} {n : Nat} {h : nl_H} {r : Int × nl_H} (e : nl_Rn LS cd_X5_keep (nl_c LS n) ct_X5_keep 1 0 [some (vO 5 0)] h r) : nl_c LS (n + 1) m_X5_keep [vO 5 0] h = some r := nl_cl_of rfl rfl e
theorem cl_X5_back {LS : Int} {n : Nat} {h : nl_H} {r : Int × nl_H} (e : nl_Rn LS cd_X5_back (nl_c LS n) ct_X5_back 1 0 [some (vO 5 0)] h r) : nl_c LS (n + 1) m_X5_back [vO 5 0] h = some r := nl_cl_of rfl rfl e
theorem cl_X5_count {LS : Int} {n : Nat} {h : nl_H} {r : Int × nl_H} {x1 : Int} (e : nl_Rn LS cd_X5_count (nl_c LS n) ct_X5_count 1 0 [some (vO 5 0), some (vI x1)] h r) : nl_c LS (n + 1) m_X5_count [vO 5 0, vI x1] h = some r := nl_cl_of rfl rfl e
theorem cl_X5_isWithin {LS : Int} {n : Nat} {h : nl_H} {r : Int × nl_H} {x1 : Int} {x2 : Int} {x3 : Int} (e : nl_Rn LS cd_X5_isWithin (nl_c LS n) ct_X5_isWithin 3 0 [some (vI x1), some (vI x2), some (vI x3)] h r) : nl_c LS (n + 1) m_X5_isWithin [vI x1, vI x2, vI x3] h = some r := nl_cl_of rfl rfl e
theorem cl_X5_largestDivisor {LS : Int} {n : Nat} {h : nl_H} {r : Int × nl_H} {x1 : Int} {x2 : Int} (e : nl_Rn LS cd_X5_largestDivisor (nl_c LS n) ct_X5_largestDivisor 1 0 [some (vI x1), some (vI x2), none] h r) : nl_c LS (n + 1) m_X5_largestDivisor [vI x1, vI x2] h = some r := nl_cl_of rfl rfl e
theorem cl_X5_drawFor {LS : Int} {n : Nat} {h : nl_H} {r : Int × nl_H} {x1 : Int} {x2 : Int} (e : nl_Rn LS cd_X5_drawFor (nl_c LS n) ct_X5_drawFor 1 0 [some (vI x1), some (vI x2), none, none] h r) : nl_c LS (n + 1) m_X5_drawFor [vI x1, vI x2] h = some r := nl_cl_of rfl rfl e
theorem cl_X5_nextMissAhead {LS : Int} {n : Nat} {h : nl_H} {r : Int × nl_H} {x1 : Int} {x2 : Int} (e : nl_Rn LS cd_X5_nextMissAhead (nl_c LS n) ct_X5_nextMissAhead 1 0 [some (vO 5 0), some (vI x1), some (vI x2), none] h r) : nl_c LS (n + 1) m_X5_nextMissAhead [vO 5 0, vI x1, vI x2] h = some r := nl_cl_of rfl rfl e
theorem cl_X5_fitsAllSeen {LS : Int} {n : Nat} {h : nl_H} {r : Int × nl_H} {x1 : Int} {x2 : Int} {x3 : Int} (e : nl_Rn LS cd_X5_fitsAllSeen (nl_c LS n) ct_X5_fitsAllSeen 3 0 [some (vO 5 0), some (vI x1), some (vI x2), some (vI x3), none, none] h r) : nl_c LS (n + 1) m_X5_fitsAllSeen [vO 5 0, vI x1, vI x2, vI x3] h = some r := nl_cl_of rfl rfl e
theorem cl_X6_in {LS : Int} {n : Nat} {h : nl_H} {r : Int × nl_H} {x1 : Int} {x2 : Int} {x3 : Int} (e : nl_Rn LS cd_X6_in (nl_c LS n) ct_X6_in 3 0 [some (vI x1), some (vI x2), some (vI x3)] h r) : nl_c LS (n + 1) m_X6_in [vI x1, vI x2, vI x3] h = some r := nl_cl_of rfl rfl e
theorem cl_X6_has {LS : Int} {n : Nat} {h : nl_H} {r : Int × nl_H} {x1 : Int} {x2 : Int} (e : nl_Rn LS cd_X6_has (nl_c LS n) ct_X6_has 3 0 [some (vI x1), some (vI x2)] h r) : nl_c LS (n + 1) m_X6_has [vI x1, vI x2] h = some r := nl_cl_of rfl rfl e
theorem cl_X6_bits {LS : Int} {n : Nat} {h : nl_H} {r : Int × nl_H} {x1 : Int} (e : nl_Rn LS cd_X6_bits (nl_c LS n) ct_X6_bits 1 0 [some (vI x1), none, none] h r) : nl_c LS (n + 1) m_X6_bits [vI x1] h = some r := nl_cl_of rfl rfl e
theorem cl_X6_lesser {LS : Int} {n : Nat} {h : nl_H} {r : Int × nl_H} {x1 : Int} {x2 : Int} (e : nl_Rn LS cd_X6_lesser (nl_c LS n) ct_X6_lesser 1 0 [some (vI x1), some (vI x2)] h r) : nl_c LS (n + 1) m_X6_lesser [vI x1, vI x2] h = some r := nl_cl_of rfl rfl e
theorem cl_X6_greater {LS : Int} {n : Nat} {h : nl_H} {r : Int × nl_H} {x1 : Int} {x2 : Int} (e : nl_Rn LS cd_X6_greater (nl_c LS n) ct_X6_greater 1 0 [some (vI x1), some (vI x2)] h r) : nl_c LS (n + 1) m_X6_greater [vI x1, vI x2] h = some r := nl_cl_of rfl rfl e
theorem cl_X6_firstHouse {LS : Int} {n : Nat} {h : nl_H} {r : Int × nl_H} {x1 : Int} {x2 : Int} {x3 : Int} {x4 : Int} (e : nl_Rn LS cd_X6_firstHouse (nl_c LS n) ct_X6_firstHouse 0 0 [some (vO 6 0), some (vI x1), some (vI x2), some (vI x3), some (vI x4)] h r) : nl_c LS (n + 1) m_X6_firstHouse [vO 6 0, vI x1, vI x2, vI x3, vI x4] h = some r := nl_cl_of rfl rfl e
theorem cl_X6_begin {LS : Int} {n : Nat} {h : nl_H} {r : Int × nl_H} (e : nl_Rn LS cd_X6_begin (nl_c LS n) ct_X6_begin 0 0 [some (vO 6 0), none] h r) : nl_c LS (n + 1) m_X6_begin [vO 6 0] h = some r := nl_cl_of rfl rfl e
theorem cl_X6_isOne {LS : Int} {n : Nat} {h : nl_H} {r : Int × nl_H} {x1 : Int} (e : nl_Rn LS cd_X6_isOne (nl_c LS n) ct_X6_isOne 3 0 [some (vO 6 0), some (vI x1)] h r) : nl_c LS (n + 1) m_X6_isOne [vO 6 0, vI x1] h = some r := nl_cl_of rfl rfl e
theorem cl_X6_write {LS : Int} {n : Nat} {h : nl_H} {r : Int × nl_H} {x1 : Int} (e : nl_Rn LS cd_X6_write (nl_c LS n) ct_X6_write 1 0 [some (vO 6 0), some (vI x1)] h r) : nl_c LS (n + 1) m_X6_write [vO 6 0, vI x1] h = some r := nl_cl_of rfl rfl e
theorem cl_X6_wipe {LS : Int} {n : Nat} {h : nl_H} {r : Int × nl_H} (e : nl_Rn LS cd_X6_wipe (nl_c LS n) ct_X6_wipe 1 0 [some (vO 6 0), none] h r) : nl_c LS (n + 1) m_X6_wipe [vO 6 0] h = some r := nl_cl_of rfl rfl e
theorem cl_X6_here {LS : Int} {n : Nat} {h : nl_H} {r : Int × nl_H} (e : nl_Rn LS cd_X6_here (nl_c LS n) ct_X6_here 1 0 [some (vO 6 0)] h r) : nl_c LS (n + 1) m_X6_here [vO 6 0] h = some r := nl_cl_of rfl rfl e
theorem cl_X6_isFigure {LS : Int} {n : Nat} {h : nl_H} {r : Int × nl_H} (e : nl_Rn LS cd_X6_isFigure (nl_c LS n) ct_X6_isFigure 3 0 [some (vO 6 0)] h r) : nl_c LS (n + 1) m_X6_isFigure [vO 6 0] h = some r := nl_cl_of rfl rfl e
theorem cl_X6_number {LS : Int} {n : Nat} {h : nl_H} {r : Int × nl_H} {x1 : Int} {x2 : Int} {x3 : Int} (e : nl_Rn LS cd_X6_number (nl_c LS n) ct_X6_number 3 0 [some (vO 6 0), some (vI x1), some (vI x2), some (vI x3), none] h r) : nl_c LS (n + 1) m_X6_number [vO 6 0, vI x1, vI x2, vI x3] h = some r := nl_cl_of rfl rfl e
theorem cl_X6_readsHour {LS : Int} {n : Nat} {h : nl_H} {r : Int × nl_H} (e : nl_Rn LS cd_X6_readsHour (nl_c LS n) ct_X6_readsHour 3 0 [some (vO 6 0)] h r) : nl_c LS (n + 1) m_X6_readsHour [vO 6 0] h = some r := nl_cl_of rfl rfl e
theorem cl_X6_readsHouse {LS : Int} {n : Nat} {h : nl_H} {r : Int × nl_H} (e : nl_Rn LS cd_X6_readsHouse (nl_c LS n) ct_X6_readsHouse 3 0 [some (vO 6 0), none] h r) : nl_c LS (n + 1) m_X6_readsHouse [vO 6 0] h = some r := nl_cl_of rfl rfl e
theorem cl_X6_readsItem {LS : Int} {n : Nat} {h : nl_H} {r : Int × nl_H} (e : nl_Rn LS cd_X6_readsItem (nl_c LS n) ct_X6_readsItem 3 0 [some (vO 6 0), none] h r) : nl_c LS (n + 1) m_X6_readsItem [vO 6 0] h = some r := nl_cl_of rfl rfl e
theorem cl_X6_fault {LS : Int} {n : Nat} {h : nl_H} {r : Int × nl_H} (e : nl_Rn LS cd_X6_fault (nl_c LS n) ct_X6_fault 1 0 [some (vO 6 0), none] h r) : nl_c LS (n + 1) m_X6_fault [vO 6 0] h = some r := nl_cl_of rfl rfl e
theorem cl_X6_lay {LS : Int} {n : Nat} {h : nl_H} {r : Int × nl_H} (e : nl_Rn LS cd_X6_lay (nl_c LS n) ct_X6_lay 1 0 [some (vO 6 0), none] h r) : nl_c LS (n + 1) m_X6_lay [vO 6 0] h = some r := nl_cl_of rfl rfl e
theorem cl_X6_mostOften {LS : Int} {n : Nat} {h : nl_H} {r : Int × nl_H} {x1 : Int} (e : nl_Rn LS cd_X6_mostOften (nl_c LS n) ct_X6_mostOften 1 0 [some (vO 6 0), some (vI x1), none, none, none, none] h r) : nl_c LS (n + 1) m_X6_mostOften [vO 6 0, vI x1] h = some r := nl_cl_of rfl rfl e
theorem cl_X6_weight {LS : Int} {n : Nat} {h : nl_H} {r : Int × nl_H} {x1 : Int} {x2 : Int} (e : nl_Rn LS cd_X6_weight (nl_c LS n) ct_X6_weight 1 0 [some (vO 6 0), some (vI x1), some (vI x2), none] h r) : nl_c LS (n + 1) m_X6_weight [vO 6 0, vI x1, vI x2] h = some r := nl_cl_of rfl rfl e
theorem cl_X6_keeps {LS : Int} {n : Nat} {h : nl_H} {r : Int × nl_H} {x1 : Int} {x2 : Int} (e : nl_Rn LS cd_X6_keeps (nl_c LS n) ct_X6_keeps 3 0 [some (vO 6 0), some (vI x1), some (vI x2)] h r) : nl_c LS (n + 1) m_X6_keeps [vO 6 0, vI x1, vI x2] h = some r := nl_cl_of rfl rfl e
theorem cl_X6_gapSet {LS : Int} {n : Nat} {h : nl_H} {r : Int × nl_H} (e : nl_Rn LS cd_X6_gapSet (nl_c LS n) ct_X6_gapSet 1 0 [some (vO 6 0), none, none] h r) : nl_c LS (n + 1) m_X6_gapSet [vO 6 0] h = some r := nl_cl_of rfl rfl e
theorem cl_X6_passes {LS : Int} {n : Nat} {h : nl_H} {r : Int × nl_H} (e : nl_Rn LS cd_X6_passes (nl_c LS n) ct_X6_passes 1 0 [some (vO 6 0), none, none, none] h r) : nl_c LS (n + 1) m_X6_passes [vO 6 0] h = some r := nl_cl_of rfl rfl e
theorem cl_X6_goesOn {LS : Int} {n : Nat} {h : nl_H} {r : Int × nl_H} {x1 : Int} (e : nl_Rn LS cd_X6_goesOn (nl_c LS n) ct_X6_goesOn 1 0 [some (vO 6 0), some (vI x1), none, none] h r) : nl_c LS (n + 1) m_X6_goesOn [vO 6 0, vI x1] h = some r := nl_cl_of rfl rfl e
theorem cl_X6_house {LS : Int} {n : Nat} {h : nl_H} {r : Int × nl_H} {x1 : Int} {x2 : Int} (e : nl_Rn LS cd_X6_house (nl_c LS n) ct_X6_house 1 0 [some (vO 6 0), some (vI x1), some (vI x2)] h r) : nl_c LS (n + 1) m_X6_house [vO 6 0, vI x1, vI x2] h = some r := nl_cl_of rfl rfl e
theorem cl_X6_whoHas {LS : Int} {n : Nat} {h : nl_H} {r : Int × nl_H} {x1 : Int} (e : nl_Rn LS cd_X6_whoHas (nl_c LS n) ct_X6_whoHas 1 0 [some (vO 6 0), some (vI x1), none] h r) : nl_c LS (n + 1) m_X6_whoHas [vO 6 0, vI x1] h = some r := nl_cl_of rfl rfl e
theorem cl_X6_hour {LS : Int} {n : Nat} {h : nl_H} {r : Int × nl_H} {x1 : Int} {x2 : Int} (e : nl_Rn LS cd_X6_hour (nl_c LS n) ct_X6_hour 1 0 [some (vO 6 0), some (vI x1), some (vI x2)] h r) : nl_c LS (n + 1) m_X6_hour [vO 6 0, vI x1, vI x2] h = some r := nl_cl_of rfl rfl e
theorem cl_X6_heavy {LS : Int} {n : Nat} {h : nl_H} {r : Int × nl_H} {x1 : Int} {x2 : Int} (e : nl_Rn LS cd_X6_heavy (nl_c LS n) ct_X6_heavy 1 0 [some (vO 6 0), some (vI x1), some (vI x2)] h r) : nl_c LS (n + 1) m_X6_heavy [vO 6 0, vI x1, vI x2] h = some r := nl_cl_of rfl rfl e
theorem cl_X6_had {LS : Int} {n : Nat} {h : nl_H} {r : Int × nl_H} {x1 : Int} {x2 : Int} (e : nl_Rn LS cd_X6_had (nl_c LS n) ct_X6_had 1 0 [some (vO 6 0), some (vI x1), some (vI x2)] h r) : nl_c LS (n + 1) m_X6_had [vO 6 0, vI x1, vI x2] h = some r := nl_cl_of rfl rfl e
theorem cl_X6_lays {LS : Int} {n : Nat} {h : nl_H} {r : Int × nl_H} {k : Nat} {x1 : Int} (e : nl_Rn LS cd_X6_lays (nl_c LS n) ct_X6_lays 0 0 [some (vO 6 0), some (vA 6 0 k), some (vI x1), none] h r) : nl_c LS (n + 1) m_X6_lays [vO 6 0, vA 6 0 k, vI x1] h = some r := nl_cl_of rfl rfl e
theorem cl_X6_takes {LS : Int} {n : Nat} {h : nl_H} {r : Int × nl_H} {k : Nat} {x1 : Int} (e : nl_Rn LS cd_X6_takes (nl_c LS n) ct_X6_takes 0 0 [some (vO 6 0), some (vA 6 0 k), some (vI x1), none] h r) : nl_c LS (n + 1) m_X6_takes [vO 6 0, vA 6 0 k, vI x1] h = some r := nl_cl_of rfl rfl e
theorem cl_X6_notes {LS : Int} {n : Nat} {h : nl_H} {r : Int × nl_H} (e : nl_Rn LS cd_X6_notes (nl_c LS n) ct_X6_notes 0 0 [some (vO 6 0), none] h r) : nl_c LS (n + 1) m_X6_notes [vO 6 0] h = some r := nl_cl_of rfl rfl e
theorem cl_X6_pass {LS : Int} {n : Nat} {h : nl_H} {r : Int × nl_H} {x1 : Int} (e : nl_Rn LS cd_X6_pass (nl_c LS n) ct_X6_pass 1 0 [some (vO 6 0), some (vI x1)] h r) : nl_c LS (n + 1) m_X6_pass [vO 6 0, vI x1] h = some r := nl_cl_of rfl rfl e
theorem cl_X6_trades {LS : Int} {n : Nat} {h : nl_H} {r : Int × nl_H} {x1 : Int} {x2 : Int} (e : nl_Rn LS cd_X6_trades (nl_c LS n) ct_X6_trades 0 0 [some (vO 6 0), some (vI x1), some (vI x2), none] h r) : nl_c LS (n + 1) m_X6_trades [vO 6 0, vI x1, vI x2] h = some r := nl_cl_of rfl rfl e
theorem cl_X6_swap {LS : Int} {n : Nat} {h : nl_H} {r : Int × nl_H} {x1 : Int} {x2 : Int} (e : nl_Rn LS cd_X6_swap (nl_c LS n) ct_X6_swap 1 0 [some (vO 6 0), some (vI x1), some (vI x2)] h r) : nl_c LS (n + 1) m_X6_swap [vO 6 0, vI x1, vI x2] h = some r := nl_cl_of rfl rfl e
theorem cl_X6_rests {LS : Int} {n : Nat} {h : nl_H} {r : Int × nl_H} {x1 : Int} (e : nl_Rn LS cd_X6_rests (nl_c LS n) ct_X6_rests 0 0 [some (vO 6 0), some (vI x1)] h r) : nl_c LS (n + 1) m_X6_rests [vO 6 0, vI x1] h = some r := nl_cl_of rfl rfl e
theorem cl_X6_rest {LS : Int} {n : Nat} {h : nl_H} {r : Int × nl_H} {x1 : Int} (e : nl_Rn LS cd_X6_rest (nl_c LS n) ct_X6_rest 1 0 [some (vO 6 0), some (vI x1)] h r) : nl_c LS (n + 1) m_X6_rest [vO 6 0, vI x1] h = some r := nl_cl_of rfl rfl e
theorem cl_X6_burden {LS : Int} {n : Nat} {h : nl_H} {r : Int × nl_H} {x1 : Int} {x2 : Int} (e : nl_Rn LS cd_X6_burden (nl_c LS n) ct_X6_burden 1 0 [some (vO 6 0), some (vI x1), some (vI x2), none] h r) : nl_c LS (n + 1) m_X6_burden [vO 6 0, vI x1, vI x2] h = some r := nl_cl_of rfl rfl e
theorem cl_X6_undo {LS : Int} {n : Nat} {h : nl_H} {r : Int × nl_H} (e : nl_Rn LS cd_X6_undo (nl_c LS n) ct_X6_undo 1 0 [some (vO 6 0)] h r) : nl_c LS (n + 1) m_X6_undo [vO 6 0] h = some r := nl_cl_of rfl rfl e
theorem cl_X6_start {LS : Int} {n : Nat} {h : nl_H} {r : Int × nl_H} (e : nl_Rn LS cd_X6_start (nl_c LS n) ct_X6_start 0 0 [some (vO 6 0)] h r) : nl_c LS (n + 1) m_X6_start [vO 6 0] h = some r := nl_cl_of rfl rfl e
theorem cl_X6_putBack {LS : Int} {n : Nat} {h : nl_H} {r : Int × nl_H} (e : nl_Rn LS cd_X6_putBack (nl_c LS n) ct_X6_putBack 0 0 [some (vO 6 0)] h r) : nl_c LS (n + 1) m_X6_putBack [vO 6 0] h = some r := nl_cl_of rfl rfl e
theorem cl_X6_behind {LS : Int} {n : Nat} {h : nl_H} {r : Int × nl_H} {x1 : Int} {x2 : Int} {x3 : Int} (e : nl_Rn LS cd_X6_behind (nl_c LS n) ct_X6_behind 1 0 [some (vO 6 0), some (vI x1), some (vI x2), some (vI x3), none] h r) : nl_c LS (n + 1) m_X6_behind [vO 6 0, vI x1, vI x2, vI x3] h = some r := nl_cl_of rfl rfl e
theorem cl_X6_gaps {LS : Int} {n : Nat} {h : nl_H} {r : Int × nl_H} (e : nl_Rn LS cd_X6_gaps (nl_c LS n) ct_X6_gaps 1 0 [some (vO 6 0)] h r) : nl_c LS (n + 1) m_X6_gaps [vO 6 0] h = some r := nl_cl_of rfl rfl e
theorem cl_X6_first {LS : Int} {n : Nat} {h : nl_H} {r : Int × nl_H} {x1 : Int} (e : nl_Rn LS cd_X6_first (nl_c LS n) ct_X6_first 1 0 [some (vO 6 0), some (vI x1), none, none, none] h r) : nl_c LS (n + 1) m_X6_first [vO 6 0, vI x1] h = some r := nl_cl_of rfl rfl e
theorem cl_X6_firstRow {LS : Int} {n : Nat} {h : nl_H} {r : Int × nl_H} (e : nl_Rn LS cd_X6_firstRow (nl_c LS n) ct_X6_firstRow 0 0 [some (vO 6 0), none] h r) : nl_c LS (n + 1) m_X6_firstRow [vO 6 0] h = some r := nl_cl_of rfl rfl e
theorem cl_X6_nextRow {LS : Int} {n : Nat} {h : nl_H} {r : Int × nl_H} (e : nl_Rn LS cd_X6_nextRow (nl_c LS n) ct_X6_nextRow 3 0 [some (vO 6 0), none, none, none, none, none, none] h r) : nl_c LS (n + 1) m_X6_nextRow [vO 6 0] h = some r := nl_cl_of rfl rfl e
theorem cl_X6_gapsBy {LS : Int} {n : Nat} {h : nl_H} {r : Int × nl_H} (e : nl_Rn LS cd_X6_gapsBy (nl_c LS n) ct_X6_gapsBy 1 0 [some (vO 6 0), none, none] h r) : nl_c LS (n + 1) m_X6_gapsBy [vO 6 0] h = some r := nl_cl_of rfl rfl e
theorem cl_X6_keptWeight {LS : Int} {n : Nat} {h : nl_H} {r : Int × nl_H} (e : nl_Rn LS cd_X6_keptWeight (nl_c LS n) ct_X6_keptWeight 1 0 [some (vO 6 0), none, none] h r) : nl_c LS (n + 1) m_X6_keptWeight [vO 6 0] h = some r := nl_cl_of rfl rfl e
theorem cl_X6_even {LS : Int} {n : Nat} {h : nl_H} {r : Int × nl_H} {x1 : Int} (e : nl_Rn LS cd_X6_even (nl_c LS n) ct_X6_even 1 0 [some (vO 6 0), some (vI x1), none, none, none, none, none, none] h r) : nl_c LS (n + 1) m_X6_even [vO 6 0, vI x1] h = some r := nl_cl_of rfl rfl e
theorem cl_X6_swapsTo {LS : Int} {n : Nat} {h : nl_H} {r : Int × nl_H} (e : nl_Rn LS cd_X6_swapsTo (nl_c LS n) ct_X6_swapsTo 1 0 [some (vO 6 0), none, none, none, none] h r) : nl_c LS (n + 1) m_X6_swapsTo [vO 6 0] h = some r := nl_cl_of rfl rfl e
theorem cl_X6_swaps {LS : Int} {n : Nat} {h : nl_H} {r : Int × nl_H} (e : nl_Rn LS cd_X6_swaps (nl_c LS n) ct_X6_swaps 1 0 [some (vO 6 0), none, none] h r) : nl_c LS (n + 1) m_X6_swaps [vO 6 0] h = some r := nl_cl_of rfl rfl e
theorem cl_X6_off {LS : Int} {n : Nat} {h : nl_H} {r : Int × nl_H} {x1 : Int} {x2 : Int} (e : nl_Rn LS cd_X6_off (nl_c LS n) ct_X6_off 1 0 [some (vI x1), some (vI x2)] h r) : nl_c LS (n + 1) m_X6_off [vI x1, vI x2] h = some r := nl_cl_of rfl rfl e
theorem cl_X6_far {LS : Int} {n : Nat} {h : nl_H} {r : Int × nl_H} {x1 : Int} (e : nl_Rn LS cd_X6_far (nl_c LS n) ct_X6_far 1 0 [some (vO 6 0), some (vI x1), none, none, none, none] h r) : nl_c LS (n + 1) m_X6_far [vO 6 0, vI x1] h = some r := nl_cl_of rfl rfl e
theorem cl_X6_lamps {LS : Int} {n : Nat} {h : nl_H} {r : Int × nl_H} {x1 : Int} {x2 : Int} (e : nl_Rn LS cd_X6_lamps (nl_c LS n) ct_X6_lamps 1 0 [some (vO 6 0), some (vI x1), some (vI x2), none, none, none, none] h r) : nl_c LS (n + 1) m_X6_lamps [vO 6 0, vI x1, vI x2] h = some r := nl_cl_of rfl rfl e
theorem cl_X6_seen {LS : Int} {n : Nat} {h : nl_H} {r : Int × nl_H} {x1 : Int} {x2 : Int} {x3 : Int} (e : nl_Rn LS cd_X6_seen (nl_c LS n) ct_X6_seen 1 0 [some (vO 6 0), some (vI x1), some (vI x2), some (vI x3)] h r) : nl_c LS (n + 1) m_X6_seen [vO 6 0, vI x1, vI x2, vI x3] h = some r := nl_cl_of rfl rfl e
theorem cl_X6_forget {LS : Int} {n : Nat} {h : nl_H} {r : Int × nl_H} (e : nl_Rn LS cd_X6_forget (nl_c LS n) ct_X6_forget 1 0 [some (vO 6 0), none] h r) : nl_c LS (n + 1) m_X6_forget [vO 6 0] h = some r := nl_cl_of rfl rfl e
theorem cl_X6_isSo {LS : Int} {n : Nat} {h : nl_H} {r : Int × nl_H} (e : nl_Rn LS cd_X6_isSo (nl_c LS n) ct_X6_isSo 3 0 [some (vO 6 0), none, none, none, none] h r) : nl_c LS (n + 1) m_X6_isSo [vO 6 0] h = some r := nl_cl_of rfl rfl e
theorem cl_X6_kinds {LS : Int} {n : Nat} {h : nl_H} {r : Int × nl_H} {x1 : Int} (e : nl_Rn LS cd_X6_kinds (nl_c LS n) ct_X6_kinds 1 0 [some (vO 6 0), some (vI x1), none, none, none] h r) : nl_c LS (n + 1) m_X6_kinds [vO 6 0, vI x1] h = some r := nl_cl_of rfl rfl e
theorem cl_X6_strengths {LS : Int} {n : Nat} {h : nl_H} {r : Int × nl_H} {x1 : Int} {x2 : Int} (e : nl_Rn LS cd_X6_strengths (nl_c LS n) ct_X6_strengths 1 0 [some (vO 6 0), some (vI x1), some (vI x2), none, none, none, none, none] h r) : nl_c LS (n + 1) m_X6_strengths [vO 6 0, vI x1, vI x2] h = some r := nl_cl_of rfl rfl e
theorem cl_X6_common {LS : Int} {n : Nat} {h : nl_H} {r : Int × nl_H} {x1 : Int} {x2 : Int} (e : nl_Rn LS cd_X6_common (nl_c LS n) ct_X6_common 2 0 [some (vL x1), none, some (vL x2), none, none, none, none, none, none, none] h r) : nl_c LS (n + 1) m_X6_common [vL x1, vL x2] h = some r := nl_cl_of rfl rfl e
theorem cl_X6_likely {LS : Int} {n : Nat} {h : nl_H} {r : Int × nl_H} {x1 : Int} {x2 : Int} {x3 : Int} (e : nl_Rn LS cd_X6_likely (nl_c LS n) ct_X6_likely 1 0 [some (vO 6 0), some (vI x1), some (vI x2), some (vI x3), none, none, none, none, none, none, none] h r) : nl_c LS (n + 1) m_X6_likely [vO 6 0, vI x1, vI x2, vI x3] h = some r := nl_cl_of rfl rfl e
theorem cl_X6_tiredAll {LS : Int} {n : Nat} {h : nl_H} {r : Int × nl_H} (e : nl_Rn LS cd_X6_tiredAll (nl_c LS n) ct_X6_tiredAll 1 0 [some (vO 6 0), none, none] h r) : nl_c LS (n + 1) m_X6_tiredAll [vO 6 0] h = some r := nl_cl_of rfl rfl e
theorem cl_X6_winter {LS : Int} {n : Nat} {h : nl_H} {r : Int × nl_H} {x1 : Int} {x2 : Int} {x3 : Int} (e : nl_Rn LS cd_X6_winter (nl_c LS n) ct_X6_winter 1 0 [some (vO 6 0), some (vI x1), some (vI x2), some (vI x3), none, none, none, none, none, none, none, none] h r) : nl_c LS (n + 1) m_X6_winter [vO 6 0, vI x1, vI x2, vI x3] h = some r := nl_cl_of rfl rfl e
theorem cl_X6_keep {LS : Int} {n : Nat} {h : nl_H} {r : Int × nl_H} (e : nl_Rn LS cd_X6_keep (nl_c LS n) ct_X6_keep 1 0 [some (vO 6 0)] h r) : nl_c LS (n + 1) m_X6_keep [vO 6 0] h = some r := nl_cl_of rfl rfl e
theorem cl_X6_back {LS : Int} {n : Nat} {h : nl_H} {r : Int × nl_H} (e : nl_Rn LS cd_X6_back (nl_c LS n) ct_X6_back 1 0 [some (vO 6 0)] h r) : nl_c LS (n + 1) m_X6_back [vO 6 0] h = some r := nl_cl_of rfl rfl e
theorem cl_X6_count {LS : Int} {n : Nat} {h : nl_H} {r : Int × nl_H} {x1 : Int} (e : nl_Rn LS cd_X6_count (nl_c LS n) ct_X6_count 1 0 [some (vO 6 0), some (vI x1)] h r) : nl_c LS (n + 1) m_X6_count [vO 6 0, vI x1] h = some r := nl_cl_of rfl rfl e
theorem cl_J6_bitCount {LS : Int} {n : Nat} {h : nl_H} {r : Int × nl_H} {x1 : Int} (e : nl_Rn LS cd_J6_bitCount_0f7a4 (nl_c LS n) ct_J6_bitCount_0f7a4 1 0 [some (vI x1)] h r) : nl_c LS (n + 1) m_J6_bitCount [vI x1] h = some r := nl_cl_of rfl rfl e
end
section
/-! Heaps by objects; what every spec uses. -/
abbrev nl_O : Type := Nat → Nat → Int
def so (h : nl_H) (c o : Nat) (V : nl_O) : nl_H := fun c' o' => if c' = c ∧ o' = o then V else h c' o'
def vu (V : nl_O) (k i : Nat) (x : Int) : nl_O := fun k' i' => if k' = k ∧ i' = i then x else V k' i'
theorem so_at {h : nl_H} {c o : Nat} {V : nl_O} : so h c o V c o = V := by
  unfold so; rw [if_pos ⟨rfl, rfl⟩]
theorem so_ne {h : nl_H} {c o : Nat} {V : nl_O} {c' o' : Nat} (n : ¬ (c' = c ∧ o' = o)) : so h c o V c' o' = h c' o' := by
  unfold so; rw [if_neg n]
theorem so_so {h : nl_H} {c o : Nat} {V W : nl_O} : so (so h c o V) c o W = so h c o W := by
  funext c' o'
  unfold so
  split <;> rfl
theorem so_self {h : nl_H} {c o : Nat} : so h c o (h c o) = h := by
  funext c' o'
  unfold so
  split
  · rename_i q; rw [q.1, q.2]
  · rfl
theorem up_so {h : nl_H} {c o k i : Nat} {x : Int} : nl_up h c o k i x = so h c o (vu (h c o) k i x) := by
  funext c' o' k' i'
  unfold nl_up so vu
  by_cases q : c' = c ∧ o' = o
  · rw [if_pos q]
    obtain ⟨rfl, rfl⟩ := q
    by_cases z : k' = k ∧ i' = i
    · rw [if_pos z, if_pos ⟨rfl, rfl, z⟩]
    · rw [if_neg z, if_neg (fun y => z ⟨y.2.2.1, y.2.2.2⟩)]
  · rw [if_neg q, if_neg (fun y => q ⟨y.1, y.2.1⟩)]
theorem vu_at {V : nl_O} {k i : Nat} {x : Int} : vu V k i x k i = x := by
  unfold vu; rw [if_pos ⟨rfl, rfl⟩]
theorem vu_ne {V : nl_O} {k i : Nat} {x : Int} {k' i' : Nat} (n : ¬ (k' = k ∧ i' = i)) : vu V k i x k' i' = V k' i' := by
  unfold vu; rw [if_neg n]
theorem vu_k {V : nl_O} {k i : Nat} {x : Int} {k' i' : Nat} (n : k' ≠ k) : vu V k i x k' i' = V k' i' := vu_ne fun q => n q.1
theorem nz_nat {i : Nat} (h : i < 2147483648) : nl_nz (i : Int) = i := nx_of (by omega) (by omega)
def nl_inR (x : Int) : Prop := -2147483648 ≤ x ∧ x < 2147483648
theorem nl_suc {n d : Nat} (h : d + 1 ≤ n) : ∃ k, n = k + 1 ∧ d ≤ k := ⟨n - 1, by omega, by omega⟩
/-- a valley that stands: N bounds the nights -/
def vok (N : Int) (V : nl_O) : Prop :=
  (2 ≤ V 0 0 ∧ V 0 0 ≤ 7) ∧ (0 ≤ V 1 0 ∧ V 1 0 ≤ N) ∧ (0 ≤ V 2 0 ∧ V 2 0 ≤ 7 * N) ∧
  (∀ i : Nat, (i : Int) < V 0 0 → (0 ≤ V 3 i ∧ V 3 i ≤ 20) ∧ (0 ≤ V 4 i ∧ V 4 i ≤ 3) ∧ (0 ≤ V 5 i ∧ V 5 i ≤ 40) ∧ (0 ≤ V 6 i ∧ V 6 i ≤ 99) ∧ (0 ≤ V 7 i ∧ V 7 i ≤ 40) ∧ (0 ≤ V 8 i ∧ V 8 i < V 0 0) ∧ (0 ≤ V 9 i ∧ V 9 i ≤ N)) ∧
  (∀ i k : Nat, (i : Int) < V 0 0 → (k : Int) < V 0 0 → 0 ≤ V 10 (i * 7 + k) ∧ V 10 (i * 7 + k) ≤ N)
/-- no two houses have one hour -/
def vinj (V : nl_O) : Prop := ∀ i j : Nat, (i : Int) < V 0 0 → (j : Int) < V 0 0 → V 8 i = V 8 j → i = j
end
section
/-! The valley's methods: reads. -/
theorem sp_isWithin {LS : Int} {n : Nat} (hn : 1 ≤ n) {h : nl_H} {x a b : Int} (hx : nl_inR x) (ha : nl_inR a) (hb : nl_inR b) : nl_c LS n m_X5_isWithin [vI x, vI a, vI b] h = some (if a ≤ x ∧ x ≤ b then 1 else 0, h) := by
  obtain ⟨n, rfl, -⟩ := nl_suc hn
  obtain ⟨hx1, hx2⟩ := hx
  obtain ⟨ha1, ha2⟩ := ha
  obtain ⟨hb1, hb2⟩ := hb
  refine cl_X5_isWithin (.ret ?_)
  rw [sg_X5_isWithin_0]
  simp (disch := omega) only [nx_of]
  by_cases h1 : a ≤ x <;> by_cases h2 : x ≤ b <;> simp (disch := omega) only [if_pos, if_neg]
theorem sp_isHouse {LS : Int} {n : Nat} (hn : 1 ≤ n) {h : nl_H} {o : Nat} {x : Int} (hx : nl_inR x) (hh : 0 ≤ h 4 o 0 0 ∧ h 4 o 0 0 ≤ 7) : nl_c LS n m_X4_isHouse [vO 4 o, vI x] h = some (if 0 ≤ x ∧ x < h 4 o 0 0 then 1 else 0, h) := by
  obtain ⟨n, rfl, -⟩ := nl_suc hn
  obtain ⟨hx1, hx2⟩ := hx
  refine cl_X4_isHouse (.ret ?_)
  rw [sg_X4_isHouse_0]
  simp (disch := omega) only [nx_of]
  by_cases h1 : 0 ≤ x <;> by_cases h2 : x < h 4 o 0 0 <;> first | (exfalso; omega) | simp (disch := omega) only [if_pos, if_neg]
theorem sp_isHour {LS : Int} {n : Nat} (hn : 1 ≤ n) {h : nl_H} {o : Nat} {x : Int} (hx : nl_inR x) (hh : 0 ≤ h 4 o 0 0 ∧ h 4 o 0 0 ≤ 7) : nl_c LS n m_X4_isHour [vO 4 o, vI x] h = some (if 0 ≤ x ∧ x < h 4 o 0 0 then 1 else 0, h) := by
  obtain ⟨n, rfl, -⟩ := nl_suc hn
  obtain ⟨hx1, hx2⟩ := hx
  refine cl_X4_isHour (.ret ?_)
  rw [sg_X4_isHour_0]
  simp (disch := omega) only [nx_of]
  by_cases h1 : 0 ≤ x <;> by_cases h2 : x < h 4 o 0 0 <;> first | (exfalso; omega) | simp (disch := omega) only [if_pos, if_neg]
/-- the house that has an hour, from house i on; -1 -/
def vWho (V : nl_O) (k : Int) : Nat → Nat → Int
  | 0, _ => -1
  | d + 1, i => if V 8 i = k then i else vWho V k d (i + 1)
def vN (V : nl_O) : Nat := (V 0 0).toNat
theorem lp_houseWith {LS : Int} {den : nl_D} {h : nl_H} {o : Nat} {x N : Int} (hx : nl_inR x) (hV : vok N (h 4 o)) : ∀ (d i : Nat), (i : Int) + d = h 4 o 0 0 → nl_Rn LS cd_X4_houseWith den ct_X4_houseWith 1 2 [some (vO 4 o), some (vI x), some (vI (i : Int))] h (vWho (h 4 o) x d i, h) := by
  obtain ⟨⟨hn1, hn2⟩, -, -, hb, -⟩ := hV
  obtain ⟨hx1, hx2⟩ := hx
  intro d
  induction d with
  | zero =>
    intro i hi
    refine .ret ?_
    rw [sg_X4_houseWith_2]
    simp (disch := omega) only [nx_of, if_pos]
    rfl
  | succ d ih =>
    intro i hi
    have h1 := (hb i (by omega)).2.2.2.2.2.1
    by_cases hk : h 4 o 8 i = x
    · refine .ret ?_
      rw [sg_X4_houseWith_2]
      simp (disch := omega) only [nx_of, if_pos, if_neg, Int.toNat_natCast, vWho]
    · have e : vWho (h 4 o) x (d + 1) i = vWho (h 4 o) x d (i + 1) := by simp only [vWho]; rw [if_neg hk]
      rw [e]
      refine .go (pc' := 2) ?_ (ih (i + 1) (by omega))
      rw [sg_X4_houseWith_2]
      simp (disch := omega) only [nx_of, if_pos, if_neg, Int.toNat_natCast]
      rfl
theorem sp_houseWith {LS : Int} {n : Nat} (hn : 1 ≤ n) {h : nl_H} {o : Nat} {x N : Int} (hx : nl_inR x) (hV : vok N (h 4 o)) : nl_c LS n m_X4_houseWith [vO 4 o, vI x] h = some (vWho (h 4 o) x (vN (h 4 o)) 0, h) := by
  obtain ⟨n, rfl, -⟩ := nl_suc hn
  refine cl_X4_houseWith (.go (pc' := 2) ?_ (lp_houseWith hx hV (vN (h 4 o)) 0 ?_))
  · rw [sg_X4_houseWith_0]; rfl
  · have := hV.1
    unfold vN
    omega
/-- the hour that a house has had most often among the first k: (how often, which; -1) -/
def vMst (V : nl_O) (i : Nat) : Nat → Int × Int
  | 0 => (0, -1)
  | k + 1 => if V 10 (i * 7 + k) ≤ (vMst V i k).1 then vMst V i k else (V 10 (i * 7 + k), (k : Int))
theorem vMst_in {N : Int} {V : nl_O} (hV : vok N V) {i : Nat} (hi : (i : Int) < V 0 0) : ∀ k : Nat, (k : Int) ≤ V 0 0 → (0 ≤ (vMst V i k).1 ∧ (vMst V i k).1 ≤ N) ∧ -1 ≤ (vMst V i k).2 ∧ (vMst V i k).2 < k := by
  intro k
  induction k with
  | zero =>
    intro _
    have := hV.2.1
    simp only [vMst]
    omega
  | succ k ih =>
    intro hk
    have h1 := ih (by omega)
    have h2 := hV.2.2.2.2 i k hi (by omega)
    simp only [vMst]
    split
    · omega
    · dsimp only
      omega
theorem lp_hourHadMost {LS : Int} {den : nl_D} {h : nl_H} {o i : Nat} {N : Int} (hN : N ≤ 100000) (hV : vok N (h 4 o)) (hi : (i : Int) < h 4 o 0 0) : ∀ (d j : Nat) (w : Option nl_V), (j : Int) + d = h 4 o 0 0 → nl_Rn LS cd_X4_hourHadMost den ct_X4_hourHadMost 1 7 [some (vO 4 o), some (vI (i : Int)), some (vI (vMst (h 4 o) i j).1), some (vI (vMst (h 4 o) i j).2), some (vI (j : Int)), w] h ((vMst (h 4 o) i (j + d)).2, h) := by
  have hn := hV.1
  intro d
  induction d with
  | zero =>
    intro j w hj
    have h1 := vMst_in hV hi j (by omega)
    refine .ret ?_
    rw [sg_X4_hourHadMost_7]
    simp (disch := omega) only [nx_of, if_pos]
    rfl
  | succ d ih =>
    intro j w hj
    have h1 := vMst_in hV hi j (by omega)
    have h2 := hV.2.2.2.2 i j hi (by omega)
    have e : ((i : Int) * 7 + (j : Int)).toNat = i * 7 + j := by omega
    have e2 : j + (d + 1) = j + 1 + d := by omega
    rw [e2]
    by_cases hk : h 4 o 10 (i * 7 + j) ≤ (vMst (h 4 o) i j).1
    · have e3 : vMst (h 4 o) i (j + 1) = vMst (h 4 o) i j := by simp only [vMst]; rw [if_pos hk]
      have k9 := ih (j + 1) (some (vI (h 4 o 10 (i * 7 + j)))) (by omega)
      rw [e3] at k9
      refine .go ?_ k9
      rw [sg_X4_hourHadMost_7]
      simp (disch := omega) only [nx_of, if_pos, if_neg, e]
      rfl
    · have e3 : vMst (h 4 o) i (j + 1) = (h 4 o 10 (i * 7 + j), (j : Int)) := by simp only [vMst]; rw [if_neg hk]
      have k9 := ih (j + 1) (some (vI (h 4 o 10 (i * 7 + j)))) (by omega)
      rw [e3] at k9
      refine .go ?_ k9
      rw [sg_X4_hourHadMost_7]
      simp (disch := omega) only [nx_of, if_pos, if_neg, e]
      rfl
theorem sp_hourHadMost {LS : Int} {n : Nat} (hn : 1 ≤ n) {h : nl_H} {o i : Nat} {N : Int} (hN : N ≤ 100000) (hV : vok N (h 4 o)) (hi : (i : Int) < h 4 o 0 0) : nl_c LS n m_X4_hourHadMost [vO 4 o, vI (i : Int)] h = some ((vMst (h 4 o) i (vN (h 4 o))).2, h) := by
  obtain ⟨n, rfl, -⟩ := nl_suc hn
  have k9 := lp_hourHadMost (LS := LS) (den := nl_c LS n) hN hV hi (vN (h 4 o)) 0 none (by have := hV.1; unfold vN; omega)
  rw [Nat.zero_add] at k9
  refine cl_X4_hourHadMost (.go ?_ k9)
  rw [sg_X4_hourHadMost_0]; rfl
/-- how heavy hour k is for house i -/
def vHv (V : nl_O) (i k : Nat) : Int :=
  if V 4 i = 1 then 2 * V 3 k
  else if V 4 i = 2 then (if (k : Int) = (vMst V i (vN V)).2 then V 3 k / 2 else V 3 k)
  else if V 4 i = 3 then (if k = 0 ∨ (k : Int) = V 0 0 - 1 then (if V 3 k - 3 < 0 then 0 else V 3 k - 3) else V 3 k)
  else V 3 k
theorem vHv_in {N : Int} {V : nl_O} (hV : vok N V) {i k : Nat} (hk : (k : Int) < V 0 0) : 0 ≤ vHv V i k ∧ vHv V i k ≤ 40 := by
  have h1 := (hV.2.2.2.1 k hk).1
  unfold vHv
  repeat' split
  all_goals omega
theorem sp_heaviness {LS : Int} {n : Nat} (hn : 2 ≤ n) {h : nl_H} {o i k : Nat} {N : Int} (hN : N ≤ 100000) (hV : vok N (h 4 o)) (hi : (i : Int) < h 4 o 0 0) (hk : (k : Int) < h 4 o 0 0) : nl_c LS n m_X4_heaviness [vO 4 o, vI (i : Int), vI (k : Int)] h = some (vHv (h 4 o) i k, h) := by
  obtain ⟨n, rfl, hn1⟩ := nl_suc hn
  have hn9 := hV.1
  have b1 := (hV.2.2.2.1 k hk).1
  have b2 := (hV.2.2.2.1 i hi).2.1
  have b3 := vMst_in hV hi (vN (h 4 o)) (by unfold vN; omega)
  have hvn : (vN (h 4 o) : Int) = h 4 o 0 0 := by unfold vN; omega
  refine cl_X4_heaviness (.ret ?_)
  rw [sg_X4_heaviness_0]
  have hc := sp_hourHadMost (LS := LS) hn1 hN hV hi
  have e2 : (h 4 o 3 k).tdiv 2 = h 4 o 3 k / 2 := Int.tdiv_eq_ediv_of_nonneg b1.1
  unfold vHv
  have k9 : h 4 o 4 i = 0 ∨ h 4 o 4 i = 1 ∨ h 4 o 4 i = 2 ∨ h 4 o 4 i = 3 := by omega
  rcases k9 with k9 | k9 | k9 | k9
  · simp (disch := omega) only [nx_of, if_pos, if_neg, if_true, if_false, true_or, or_true, Int.toNat_natCast, Option.bind_some]
  · simp (disch := omega) only [nx_of, if_pos, if_neg, if_true, if_false, true_or, or_true, Int.toNat_natCast, Option.bind_some]
  · by_cases k8 : (k : Int) = (vMst (h 4 o) i (vN (h 4 o))).2
    · simp (disch := omega) only [nx_of, if_pos, if_neg, if_true, if_false, true_or, or_true, Int.toNat_natCast, Option.bind_some, hc, e2]
    · simp (disch := omega) only [nx_of, if_pos, if_neg, if_true, if_false, true_or, or_true, Int.toNat_natCast, Option.bind_some, hc]
  · by_cases k8 : (k : Int) = 0 <;> by_cases k7 : (k : Int) = h 4 o 0 0 - 1 <;> by_cases k6 : h 4 o 3 k - 3 < 0 <;>
      simp (disch := omega) only [nx_of, if_pos, if_neg, if_true, if_false, true_or, or_true, Int.toNat_natCast, Option.bind_some]
theorem sp_wouldKeep {LS : Int} {n : Nat} (hn : 3 ≤ n) {h : nl_H} {o i k : Nat} {N t : Int} (hN : N ≤ 100000) (hV : vok N (h 4 o)) (hi : (i : Int) < h 4 o 0 0) (hk : (k : Int) < h 4 o 0 0) (ht : 0 ≤ t ∧ t ≤ 100) : nl_c LS n m_X4_wouldKeep [vO 4 o, vI (i : Int), vI (k : Int), vI t] h = some (if vHv (h 4 o) i k ≤ h 4 o 5 i - t then 1 else 0, h) := by
  obtain ⟨n, rfl, hn1⟩ := nl_suc hn
  have hn9 := hV.1
  have b2 := (hV.2.2.2.1 i hi).2.2.1
  have b3 := vHv_in hV (i := i) hk
  refine cl_X4_wouldKeep (.ret ?_)
  rw [sg_X4_wouldKeep_0]
  have hc := sp_heaviness (LS := LS) hn1 hN hV hi hk
  by_cases k9 : vHv (h 4 o) i k ≤ h 4 o 5 i - t <;>
    simp (disch := omega) only [nx_of, if_pos, if_neg, if_true, if_false, true_or, or_true, Int.toNat_natCast, Option.bind_some, hc]
theorem vWho_in {V : nl_O} {k : Int} : ∀ (d i : Nat), (-1 ≤ vWho V k d i ∧ vWho V k d i < i + d) ∧ (vWho V k d i = -1 ∨ ∃ j : Nat, vWho V k d i = j ∧ i ≤ j ∧ j < i + d ∧ V 8 j = k) := by
  intro d
  induction d with
  | zero => intro i; simp only [vWho]; exact ⟨by omega, Or.inl trivial⟩
  | succ d ih =>
    intro i
    simp only [vWho]
    split
    · rename_i q
      exact ⟨by omega, Or.inr ⟨i, rfl, by omega, by omega, q⟩⟩
    · have := ih (i + 1)
      obtain ⟨a1, a2⟩ := this
      refine ⟨by omega, ?_⟩
      rcases a2 with a2 | ⟨j, j1, j2, j3, j4⟩
      · exact Or.inl a2
      · exact Or.inr ⟨j, j1, by omega, by omega, j4⟩
theorem vWho_none {V : nl_O} {k : Int} : ∀ (d i : Nat), vWho V k d i = -1 → ∀ j : Nat, i ≤ j → j < i + d → V 8 j ≠ k := by
  intro d
  induction d with
  | zero => intro i _ j h1 h2; omega
  | succ d ih =>
    intro i e j h1 h2
    simp only [vWho] at e
    split at e
    · omega
    · rename_i q
      by_cases hj : j = i
      · rw [hj]; exact q
      · exact ih (i + 1) e j (by omega) (by omega)
/-- is there a gap at hour k now -/
def vGap (V : nl_O) (k : Nat) : Int := if vWho V k (vN V) 0 = -1 then 0 else if vHv V (vWho V k (vN V) 0).toNat k ≤ V 5 (vWho V k (vN V) 0).toNat - V 7 (vWho V k (vN V) 0).toNat then 0 else 1
theorem sp_isGapAt {LS : Int} {n : Nat} (hn : 4 ≤ n) {h : nl_H} {o k : Nat} {N : Int} (hN : N ≤ 100000) (hV : vok N (h 4 o)) (hk : (k : Int) < h 4 o 0 0) : nl_c LS n m_X4_isGapAt [vO 4 o, vI (k : Int)] h = some (vGap (h 4 o) k, h) := by
  obtain ⟨n, rfl, hn1⟩ := nl_suc hn
  have hn9 := hV.1
  refine cl_X4_isGapAt (.ret ?_)
  rw [sg_X4_isGapAt_0]
  have hc1 := sp_houseWith (LS := LS) (n := n) (by omega) (x := (k : Int)) ⟨by omega, by omega⟩ hV
  have hw := vWho_in (V := h 4 o) (k := (k : Int)) (vN (h 4 o)) 0
  have hvn : (vN (h 4 o) : Int) = h 4 o 0 0 := by unfold vN; omega
  simp only [hc1, Option.bind_some]
  unfold vGap
  generalize vWho (h 4 o) (k : Int) (vN (h 4 o)) 0 = w at hw
  by_cases hw1 : w = -1
  · simp (disch := omega) only [nx_of, if_pos]
  · obtain ⟨i, rfl⟩ : ∃ i : Nat, w = i := ⟨w.toNat, by omega⟩
    have hi : (i : Int) < h 4 o 0 0 := by omega
    have b1 := (hV.2.2.2.1 i hi).2.2.2.2.1
    have hc2 := sp_wouldKeep (LS := LS) hn1 hN hV hi hk (t := h 4 o 7 i) (by omega)
    by_cases k9 : vHv (h 4 o) i k ≤ h 4 o 5 i - h 4 o 7 i <;>
      simp (disch := omega) only [nx_of, if_pos, if_neg, if_true, if_false, true_or, or_true, Int.toNat_natCast, Option.bind_some, hc2]
end
section
/-! The valley's methods: writes. -/
/-- one house's night -/
def vSee (V : nl_O) (i : Nat) : nl_O :=
  vu (vu (if vHv V i (V 8 i).toNat ≤ V 5 i - V 7 i then vu V 7 i (if 40 < V 7 i + 2 then 40 else V 7 i + 2) else vu (vu V 7 i (if V 7 i - 3 < 0 then 0 else V 7 i - 3)) 9 i (V 9 i + 1)) 10 (i * 7 + (V 8 i).toNat) (V 10 (i * 7 + (V 8 i).toNat) + 1)) 8 i (if V 8 i + 1 < V 0 0 then V 8 i + 1 else 0)
def vKeeps (V : nl_O) (i : Nat) : Int := if vHv V i (V 8 i).toNat ≤ V 5 i - V 7 i then 1 else 0
theorem sp_seeThrough {LS : Int} {n : Nat} (hn : 4 ≤ n) {h : nl_H} {o i : Nat} {N : Int} (hN : N ≤ 100000) (hV : vok N (h 4 o)) (hi : (i : Int) < h 4 o 0 0) : nl_c LS n m_X4_seeThrough [vO 4 o, vI (i : Int)] h = some (vKeeps (h 4 o) i, so h 4 o (vSee (h 4 o) i)) := by
  obtain ⟨n, rfl, hn1⟩ := nl_suc hn
  have hn9 := hV.1
  have b1 := hV.2.2.2.1 i hi
  obtain ⟨k, hk⟩ : ∃ k : Nat, h 4 o 8 i = k := ⟨(h 4 o 8 i).toNat, by omega⟩
  have hk1 : (k : Int) < h 4 o 0 0 := by omega
  have b2 := hV.2.2.2.2 i k hi hk1
  have hc1 := sp_isHour (LS := LS) (n := n) (by omega) (h := h) (o := o) (x := (k : Int)) ⟨by omega, by omega⟩ (by omega)
  have hc2 := sp_wouldKeep (LS := LS) hn1 hN hV hi hk1 (t := h 4 o 7 i) (by omega)
  have e : ((i : Int) * 7 + (k : Int)).toNat = i * 7 + k := by omega
  refine cl_X4_seeThrough (.ret ?_)
  rw [sg_X4_seeThrough_0]
  unfold vKeeps vSee
  by_cases k9 : vHv (h 4 o) i k ≤ h 4 o 5 i - h 4 o 7 i <;> by_cases k8 : (k : Int) + 1 < h 4 o 0 0 <;>
    simp (disch := omega) only [nx_of, if_pos, if_neg, if_true, if_false, true_or, or_true, Int.toNat_natCast, Option.bind_some, hk, hc1, hc2, up_so, so_at, so_so, e, vu_at, vu_ne]
end
section
/-! Nights. -/
theorem see_lo {V : nl_O} {i k j : Nat} (hk : k < 7) : vSee V i k j = V k j := by
  unfold vSee
  rw [vu_k (by omega), vu_k (by omega)]
  split
  · rw [vu_k (by omega)]
  · rw [vu_k (by omega), vu_k (by omega)]
theorem see_7 {V : nl_O} {i j : Nat} : vSee V i 7 j = if j = i then (if vHv V i (V 8 i).toNat ≤ V 5 i - V 7 i then (if 40 < V 7 i + 2 then 40 else V 7 i + 2) else (if V 7 i - 3 < 0 then 0 else V 7 i - 3)) else V 7 j := by
  unfold vSee
  rw [vu_k (by omega), vu_k (by omega)]
  by_cases hj : j = i
  · subst hj
    rw [if_pos rfl]
    split
    · rw [vu_at]
    · rw [vu_k (by omega), vu_at]
  · rw [if_neg hj]
    split
    · rw [vu_ne (fun z => hj z.2)]
    · rw [vu_k (by omega), vu_ne (fun z => hj z.2)]
theorem see_8 {V : nl_O} {i j : Nat} : vSee V i 8 j = if j = i then (if V 8 i + 1 < V 0 0 then V 8 i + 1 else 0) else V 8 j := by
  unfold vSee
  by_cases hj : j = i
  · subst hj
    rw [if_pos rfl, vu_at]
  · rw [if_neg hj, vu_ne (fun z => hj z.2), vu_k (by omega)]
    split
    · rw [vu_k (by omega)]
    · rw [vu_k (by omega), vu_k (by omega)]
theorem see_9 {V : nl_O} {i j : Nat} : vSee V i 9 j = if j = i ∧ ¬ vHv V i (V 8 i).toNat ≤ V 5 i - V 7 i then V 9 i + 1 else V 9 j := by
  unfold vSee
  rw [vu_k (by omega), vu_k (by omega)]
  by_cases hk : vHv V i (V 8 i).toNat ≤ V 5 i - V 7 i
  · rw [if_pos hk, vu_k (by omega), if_neg (fun z => z.2 hk)]
  · rw [if_neg hk]
    by_cases hj : j = i
    · subst hj
      rw [vu_at, if_pos ⟨rfl, hk⟩]
    · rw [vu_ne (fun z => hj z.2), vu_k (by omega), if_neg (fun z => hj z.1)]
theorem see_10 {V : nl_O} {i j : Nat} : vSee V i 10 j = if j = i * 7 + (V 8 i).toNat then V 10 j + 1 else V 10 j := by
  unfold vSee
  rw [vu_k (by omega)]
  by_cases hj : j = i * 7 + (V 8 i).toNat
  · subst hj
    rw [if_pos rfl, vu_at]
  · rw [if_neg hj, vu_ne (fun z => hj z.2)]
    split
    · rw [vu_k (by omega)]
    · rw [vu_k (by omega), vu_k (by omega)]
theorem vok_see {N : Int} {V : nl_O} (hV : vok N V) {i : Nat} (hi : (i : Int) < V 0 0) : vok (N + 1) (vSee V i) := by
  obtain ⟨a1, a2, a3, a4, a5⟩ := hV
  unfold vok
  simp only [see_lo (show 0 < 7 by omega), see_lo (show 1 < 7 by omega), see_lo (show 2 < 7 by omega), see_lo (show 3 < 7 by omega), see_lo (show 4 < 7 by omega), see_lo (show 5 < 7 by omega), see_lo (show 6 < 7 by omega), see_7, see_8, see_9, see_10]
  have b := a4 i hi
  refine ⟨a1, by omega, by omega, fun j hj => ?_, fun j k hj hk => ?_⟩
  · have c := a4 j hj
    refine ⟨c.1, c.2.1, c.2.2.1, c.2.2.2.1, ?_, ?_, ?_⟩
    · split
      · split <;> split <;> omega
      · exact c.2.2.2.2.1
    · split
      · split <;> omega
      · exact c.2.2.2.2.2.1
    · split
      · omega
      · omega
  · have c := a5 j k hj hk
    split <;> omega
/-- houses i, i + 1, .. see their hours through: the valley then, the gaps -/
def vRow : Nat → Nat → nl_O → nl_O × Int
  | 0, _, V => (V, 0)
  | d + 1, i, V => ((vRow d (i + 1) (vSee V i)).1, (1 - vKeeps V i) + (vRow d (i + 1) (vSee V i)).2)
def vNight (V : nl_O) : nl_O × Int := (vu (vRow (vN V) 0 V).1 1 0 ((vRow (vN V) 0 V).1 1 0 + 1), (vRow (vN V) 0 V).2)
def vNights : Nat → nl_O → nl_O × Int
  | 0, V => (V, 0)
  | m + 1, V => ((vNights m (vNight V).1).1, (vNight V).2 + (vNights m (vNight V).1).2)
theorem vKeeps_in (V : nl_O) (i : Nat) : vKeeps V i = 0 ∨ vKeeps V i = 1 := by
  unfold vKeeps
  split
  · exact Or.inr rfl
  · exact Or.inl rfl
theorem vRow_ok : ∀ (d i : Nat) {N : Int} {V : nl_O}, vok N V → (i : Int) + d = V 0 0 → vok (N + d) (vRow d i V).1 ∧ (vRow d i V).1 0 0 = V 0 0 ∧ 0 ≤ (vRow d i V).2 ∧ (vRow d i V).2 ≤ d := by
  intro d
  induction d with
  | zero =>
    intro i N V hV hi
    simp only [vRow]
    refine ⟨?_, trivial, by omega, by omega⟩
    rw [show N + ((0 : Nat) : Int) = N by omega]
    exact hV
  | succ d ih =>
    intro i N V hV hi
    have h1 := vok_see hV (i := i) (by omega)
    have h2 := ih (i + 1) h1 (by rw [see_lo (by omega)]; omega)
    have h3 := vKeeps_in V i
    rw [see_lo (by omega)] at h2
    simp only [vRow]
    refine ⟨?_, h2.2.1, by omega, by omega⟩
    rw [show N + ((d + 1 : Nat) : Int) = N + 1 + d by omega]
    exact h2.1
theorem vRow_lo {k j : Nat} (hk : k < 7) : ∀ (d i : Nat) (V : nl_O), (vRow d i V).1 k j = V k j := by
  intro d
  induction d with
  | zero => intro i V; rfl
  | succ d ih =>
    intro i V
    simp only [vRow]
    rw [ih, see_lo hk]
theorem vok_u1 {N : Int} {V : nl_O} (hV : vok N V) {x : Int} (hx : 0 ≤ x ∧ x ≤ N) : vok N (vu V 1 0 x) := by
  obtain ⟨a1, a2, a3, a4, a5⟩ := hV
  unfold vok
  rw [vu_at]
  simp only [vu_k (show 0 ≠ 1 by omega), vu_k (show 2 ≠ 1 by omega), vu_k (show 3 ≠ 1 by omega), vu_k (show 4 ≠ 1 by omega), vu_k (show 5 ≠ 1 by omega), vu_k (show 6 ≠ 1 by omega), vu_k (show 7 ≠ 1 by omega), vu_k (show 8 ≠ 1 by omega), vu_k (show 9 ≠ 1 by omega), vu_k (show 10 ≠ 1 by omega)]
  exact ⟨a1, hx, a3, a4, a5⟩
theorem vok_u2 {N : Int} {V : nl_O} (hV : vok N V) {x : Int} (hx : 0 ≤ x ∧ x ≤ 7 * N) : vok N (vu V 2 0 x) := by
  obtain ⟨a1, a2, a3, a4, a5⟩ := hV
  unfold vok
  rw [vu_at]
  simp only [vu_k (show 0 ≠ 2 by omega), vu_k (show 1 ≠ 2 by omega), vu_k (show 3 ≠ 2 by omega), vu_k (show 4 ≠ 2 by omega), vu_k (show 5 ≠ 2 by omega), vu_k (show 6 ≠ 2 by omega), vu_k (show 7 ≠ 2 by omega), vu_k (show 8 ≠ 2 by omega), vu_k (show 9 ≠ 2 by omega), vu_k (show 10 ≠ 2 by omega)]
  exact ⟨a1, a2, hx, a4, a5⟩
theorem vok_up {N M : Int} {V : nl_O} (hV : vok N V) (h : N ≤ M) : vok M V := by
  obtain ⟨a1, a2, a3, a4, a5⟩ := hV
  refine ⟨a1, by omega, by omega, fun i hi => ?_, fun i k hi hk => ?_⟩
  · have := a4 i hi; omega
  · have := a5 i k hi hk; omega
theorem vN_eq {N : Int} {V : nl_O} (hV : vok N V) : (vN V : Int) = V 0 0 := by
  have := hV.1
  unfold vN
  omega
theorem vNight_ok {N : Int} {V : nl_O} (hV : vok N V) : vok (N + 7) (vNight V).1 ∧ (vNight V).1 0 0 = V 0 0 ∧ 0 ≤ (vNight V).2 ∧ (vNight V).2 ≤ 7 := by
  have h0 := hV.1
  have h1 := vRow_ok (vN V) 0 hV (by rw [vN_eq hV]; omega)
  have h2 := vN_eq hV
  have h3 : vok (N + 7) (vRow (vN V) 0 V).1 := vok_up h1.1 (by omega)
  have h4 := vRow_lo (k := 1) (j := 0) (by omega) (vN V) 0 V
  have h5 := hV.2.1
  unfold vNight
  refine ⟨vok_u1 h3 (by omega), ?_, by dsimp only; omega, by dsimp only; omega⟩
  dsimp only
  rw [vu_k (by omega)]
  exact h1.2.1
theorem vNights_ok : ∀ (m : Nat) {N : Int} {V : nl_O}, vok N V → vok (N + 7 * m) (vNights m V).1 ∧ (vNights m V).1 0 0 = V 0 0 ∧ 0 ≤ (vNights m V).2 ∧ (vNights m V).2 ≤ 7 * m := by
  intro m
  induction m with
  | zero =>
    intro N V hV
    simp only [vNights]
    refine ⟨?_, trivial, by omega, by omega⟩
    rw [show N + 7 * ((0 : Nat) : Int) = N by omega]
    exact hV
  | succ m ih =>
    intro N V hV
    have h1 := vNight_ok hV
    have h2 := ih h1.1
    simp only [vNights]
    refine ⟨?_, by rw [h2.2.1]; exact h1.2.1, by omega, by omega⟩
    rw [show N + 7 * ((m + 1 : Nat) : Int) = N + 7 + 7 * m by omega]
    exact h2.1

/-- a night's row, from house j on, in the code -/
theorem lp_row {LS : Int} {n : Nat} (hn : 4 ≤ n) {o : Nat} {h : nl_H} {x1 : Int} {r : Int × nl_H} : ∀ (d j : Nat) {N : Int} {V : nl_O} {g m : Int}, N + d ≤ 100000 → vok N V → (j : Int) + d = V 0 0 → 0 ≤ g → g + d ≤ 10000 →
    nl_Rn LS cd_X4_letNightsPass (nl_c LS n) ct_X4_letNightsPass 1 4 [some (vO 4 o), some (vI x1), some (vI (g + (vRow d j V).2)), some (vI (m + 1)), some (vI (j + d : Nat))] (so h 4 o (vu (vRow d j V).1 1 0 ((vRow d j V).1 1 0 + 1))) r →
    nl_Rn LS cd_X4_letNightsPass (nl_c LS n) ct_X4_letNightsPass 1 12 [some (vO 4 o), some (vI x1), some (vI g), some (vI m), some (vI (j : Int))] (so h 4 o V) r := by
  intro d
  induction d with
  | zero =>
    intro j N V g m hN hV hj hg1 hg2 k
    have hn9 := hV.1
    simp only [vRow] at k
    refine .go ?_ k
    rw [sg_X4_letNightsPass_12]
    simp (disch := omega) only [nx_of, if_pos, if_neg, if_true, if_false, true_or, or_true, Int.toNat_natCast, Option.bind_some, so_at, up_so, so_so]
    rw [show g + 0 = g by omega]
    rfl
  | succ d ih =>
    intro j N V g m hN hV hj hg1 hg2 k
    have hn9 := hV.1
    have hc := sp_seeThrough (LS := LS) hn (h := so h 4 o V) (o := o) (i := j) (N := N) (by omega) (by rw [so_at]; exact hV) (by rw [so_at]; omega)
    rw [so_at, so_so] at hc
    have hk := vKeeps_in V j
    simp only [vRow] at k
    rw [show g + (1 - vKeeps V j + (vRow d (j + 1) (vSee V j)).2) = (g + (1 - vKeeps V j)) + (vRow d (j + 1) (vSee V j)).2 by omega, show j + (d + 1) = j + 1 + d by omega] at k
    have k9 := ih (j + 1) (N := N + 1) (V := vSee V j) (g := g + (1 - vKeeps V j)) (m := m) (by omega) (vok_see hV (by omega)) (by rw [see_lo (by omega)]; omega) (by omega) (by omega) k
    refine .go ?_ k9
    rw [sg_X4_letNightsPass_12]
    rcases hk with hk | hk
    · simp (disch := omega) only [nx_of, if_pos, if_neg, if_true, if_false, true_or, or_true, Int.toNat_natCast, Option.bind_some, so_at, hc, hk]
      rfl
    · simp (disch := omega) only [nx_of, if_pos, if_neg, if_true, if_false, true_or, or_true, Int.toNat_natCast, Option.bind_some, so_at, hc, hk]
      rfl

theorem lp_nights {LS : Int} {n : Nat} (hn : 4 ≤ n) {o : Nat} {h : nl_H} : ∀ (d m : Nat) {N : Int} {V : nl_O} {g : Int} (w : Option nl_V), N + 7 * d ≤ 90000 → m + d ≤ 100 → vok N V → 0 ≤ g → g + 7 * d ≤ 9000 →
    nl_Rn LS cd_X4_letNightsPass (nl_c LS n) ct_X4_letNightsPass 1 4 [some (vO 4 o), some (vI ((m + d : Nat) : Int)), some (vI g), some (vI (m : Int)), w] (so h 4 o V) (g + (vNights d V).2, so h 4 o (vu (vNights d V).1 2 0 ((vNights d V).1 2 0 + (g + (vNights d V).2)))) := by
  intro d
  induction d with
  | zero =>
    intro m N V g w hN hm hV hg1 hg2
    refine .ret ?_
    rw [sg_X4_letNightsPass_4]
    simp only [vNights]
    simp (disch := omega) only [nx_of, if_pos, if_neg, if_true, if_false, true_or, or_true, Int.toNat_natCast, Option.bind_some, so_at, up_so, so_so]
    rw [show g + 0 = g by omega]
  | succ d ih =>
    intro m N V g w hN hm hV hg1 hg2
    have hn9 := hV.1
    have h1 := vNight_ok hV
    have h2 := vN_eq hV
    have k9 := ih (m + 1) (N := N + 7) (V := (vNight V).1) (g := g + (vNight V).2) (some (vI ((0 + vN V : Nat) : Int))) (by omega) (by omega) h1.1 (by omega) (by omega)
    have e1 : g + (vNight V).2 + (vNights d (vNight V).1).2 = g + (vNights (d + 1) V).2 := by simp only [vNights]; omega
    have e2 : (vNights d (vNight V).1).1 = (vNights (d + 1) V).1 := rfl
    rw [e1, e2, show m + 1 + d = m + (d + 1) by omega] at k9
    have k8 := lp_row (LS := LS) hn (o := o) (h := h) (x1 := ((m + (d + 1) : Nat) : Int)) (vN V) 0 (N := N) (V := V) (g := g) (m := (m : Int)) (by omega) hV (by omega) hg1 (by omega) k9
    refine .go ?_ k8
    rw [sg_X4_letNightsPass_4]
    simp (disch := omega) only [nx_of, if_pos, if_neg, if_true, if_false, true_or, or_true, Int.toNat_natCast, Option.bind_some]
    rfl
/-- d nights, the gaps added to those so far -/
def vPass (d : Nat) (V : nl_O) : nl_O := vu (vNights d V).1 2 0 ((vNights d V).1 2 0 + (vNights d V).2)
theorem sp_letNightsPass {LS : Int} {n : Nat} (hn : 5 ≤ n) {h : nl_H} {o d : Nat} {N : Int} (hd : d ≤ 100) (hN : N ≤ 80000) (hV : vok N (h 4 o)) : nl_c LS n m_X4_letNightsPass [vO 4 o, vI (d : Int)] h = some ((vNights d (h 4 o)).2, so h 4 o (vPass d (h 4 o))) := by
  obtain ⟨n, rfl, hn1⟩ := nl_suc hn
  have k9 := lp_nights (LS := LS) hn1 (o := o) (h := h) d 0 (N := N) (V := h 4 o) (g := 0) none (by omega) (by omega) hV (by omega) (by omega)
  rw [so_self, show 0 + d = d by omega, show 0 + (vNights d (h 4 o)).2 = (vNights d (h 4 o)).2 by omega] at k9
  refine cl_X4_letNightsPass (.go ?_ k9)
  rw [sg_X4_letNightsPass_0]
  rfl
theorem vNights_lo {k j : Nat} (hk : k < 7) (hk1 : k ≠ 1) : ∀ (m : Nat) (V : nl_O), (vNights m V).1 k j = V k j := by
  intro m
  induction m with
  | zero => intro V; rfl
  | succ m ih =>
    intro V
    simp only [vNights, vNight]
    rw [ih, vu_k hk1, vRow_lo hk]
theorem vNights_1 : ∀ (m : Nat) (V : nl_O), (vNights m V).1 1 0 = V 1 0 + m := by
  intro m
  induction m with
  | zero => intro V; simp only [vNights]; omega
  | succ m ih =>
    intro V
    simp only [vNights, vNight]
    rw [ih, vu_at, vRow_lo (by omega)]
    omega
theorem vPass_ok {d : Nat} {N : Int} {V : nl_O} (hV : vok N V) : vok (N + 7 * d) (vPass d V) ∧ vPass d V 0 0 = V 0 0 := by
  have h1 := vNights_ok d hV
  have h2 := vNights_lo (k := 2) (j := 0) (by omega) (by omega) d V
  have h3 := hV.2.2.1
  unfold vPass
  refine ⟨vok_u2 h1.1 (by omega), ?_⟩
  rw [vu_k (by omega)]
  exact h1.2.1
end
section
/-! The valley's other methods. -/
theorem sp_timesHad {LS : Int} {n : Nat} (hn : 1 ≤ n) {h : nl_H} {o i k : Nat} (hi : i < 7) (hk : k < 7) : nl_c LS n m_X4_timesHad [vO 4 o, vI (i : Int), vI (k : Int)] h = some (h 4 o 10 (i * 7 + k), h) := by
  obtain ⟨n, rfl, hn1⟩ := nl_suc hn
  have e : ((i : Int) * 7 + (k : Int)).toNat = i * 7 + k := by omega
  refine cl_X4_timesHad (.ret ?_)
  rw [sg_X4_timesHad_0]
  simp (disch := omega) only [nx_of, if_pos, if_neg, if_true, if_false, true_or, or_true, Int.toNat_natCast, Option.bind_some, e]
def vTrade (V : nl_O) (a b : Nat) : nl_O := vu (vu V 8 a (V 8 b)) 8 b (V 8 a)
theorem sp_trade {LS : Int} {n : Nat} (hn : 1 ≤ n) {h : nl_H} {o a b : Nat} (ha : a < 7) (hb : b < 7) : nl_c LS n m_X4_trade [vO 4 o, vI (a : Int), vI (b : Int)] h = some (0, so h 4 o (vTrade (h 4 o) a b)) := by
  obtain ⟨n, rfl, hn1⟩ := nl_suc hn
  refine cl_X4_trade (.ret ?_)
  rw [sg_X4_trade_0]
  simp (disch := omega) only [nx_of, if_pos, if_neg, if_true, if_false, true_or, or_true, Int.toNat_natCast, Option.bind_some, up_so, so_at, so_so, vTrade]
def vRest (V : nl_O) (i : Nat) : nl_O := vu V 7 i (if V 7 i - 5 < 0 then 0 else V 7 i - 5)
theorem sp_giveRest {LS : Int} {n : Nat} (hn : 1 ≤ n) {h : nl_H} {o i : Nat} (hi : i < 7) (ht : 0 ≤ h 4 o 7 i ∧ h 4 o 7 i ≤ 40) : nl_c LS n m_X4_giveRest [vO 4 o, vI (i : Int)] h = some (0, so h 4 o (vRest (h 4 o) i)) := by
  obtain ⟨n, rfl, hn1⟩ := nl_suc hn
  refine cl_X4_giveRest (.ret ?_)
  rw [sg_X4_giveRest_0]
  simp (disch := omega) only [nx_of, if_pos, if_neg, if_true, if_false, true_or, or_true, Int.toNat_natCast, Option.bind_some, up_so, so_at, so_so, vRest]
theorem sp_setBurden {LS : Int} {n : Nat} (hn : 2 ≤ n) {h : nl_H} {o k : Nat} {x : Int} (hk : (k : Int) < h 4 o 0 0) (hh : 0 ≤ h 4 o 0 0 ∧ h 4 o 0 0 ≤ 7) : nl_c LS n m_X4_setBurden [vO 4 o, vI (k : Int), vI x] h = some (0, so h 4 o (vu (h 4 o) 3 k x)) := by
  obtain ⟨n, rfl, hn1⟩ := nl_suc hn
  have hc := sp_isHour (LS := LS) (n := n) (by omega) (h := h) (o := o) (x := (k : Int)) ⟨by omega, by omega⟩ hh
  refine cl_X4_setBurden (.ret ?_)
  rw [sg_X4_setBurden_0]
  simp (disch := omega) only [nx_of, if_pos, if_neg, if_true, if_false, true_or, or_true, Int.toNat_natCast, Option.bind_some, hc, up_so, so_at, so_so]
/-- the sum of a row's first d entries, from i on -/
def vSum (V : nl_O) (k : Nat) : Nat → Nat → Int
  | 0, _ => 0
  | d + 1, i => V k i + vSum V k d (i + 1)
theorem lp_tired {LS : Int} {den : nl_D} {h : nl_H} {o : Nat} {N : Int} (hV : vok N (h 4 o)) : ∀ (d i : Nat) {g : Int}, (i : Int) + d = h 4 o 0 0 → 0 ≤ g → g + 40 * d ≤ 1000 →
    nl_Rn LS cd_X4_tiredTogether den ct_X4_tiredTogether 1 4 [some (vO 4 o), some (vI g), some (vI (i : Int))] h (g + vSum (h 4 o) 7 d i, h) := by
  have hn9 := hV.1
  intro d
  induction d with
  | zero =>
    intro i g hi h1 h2
    refine .ret ?_
    rw [sg_X4_tiredTogether_4]
    simp only [vSum]
    simp (disch := omega) only [nx_of, if_pos, if_neg, if_true, if_false, true_or, or_true, Int.toNat_natCast, Option.bind_some]
    rw [show g + 0 = g by omega]
  | succ d ih =>
    intro i g hi h1 h2
    have b := (hV.2.2.2.1 i (by omega)).2.2.2.2.1
    have k9 := ih (i + 1) (g := g + h 4 o 7 i) (by omega) (by omega) (by omega)
    rw [show g + h 4 o 7 i + vSum (h 4 o) 7 d (i + 1) = g + vSum (h 4 o) 7 (d + 1) i by simp only [vSum]; omega] at k9
    refine .go ?_ k9
    rw [sg_X4_tiredTogether_4]
    simp (disch := omega) only [nx_of, if_pos, if_neg, if_true, if_false, true_or, or_true, Int.toNat_natCast, Option.bind_some]
    rfl
theorem sp_tiredTogether {LS : Int} {n : Nat} (hn : 1 ≤ n) {h : nl_H} {o : Nat} {N : Int} (hV : vok N (h 4 o)) : nl_c LS n m_X4_tiredTogether [vO 4 o] h = some (vSum (h 4 o) 7 (vN (h 4 o)) 0, h) := by
  obtain ⟨n, rfl, hn1⟩ := nl_suc hn
  have h0 := hV.1
  have h2 := vN_eq hV
  have k9 := lp_tired (LS := LS) (den := nl_c LS n) hV (vN (h 4 o)) 0 (g := 0) (by omega) (by omega) (by omega)
  rw [show 0 + vSum (h 4 o) 7 (vN (h 4 o)) 0 = vSum (h 4 o) 7 (vN (h 4 o)) 0 by omega] at k9
  refine cl_X4_tiredTogether (.go ?_ k9)
  rw [sg_X4_tiredTogether_0]
  rfl
/-- the way from the house of hour k - 1 to that of hour k -/
def vWy (V : nl_O) (k : Nat) : Int := if vWho V ((k : Int) - 1) (vN V) 0 = -1 ∨ vWho V k (vN V) 0 = -1 then 0 else
      (if 0 ≤ V 6 (vWho V k (vN V) 0).toNat - V 6 (vWho V ((k : Int) - 1) (vN V) 0).toNat then V 6 (vWho V k (vN V) 0).toNat - V 6 (vWho V ((k : Int) - 1) (vN V) 0).toNat else -(V 6 (vWho V k (vN V) 0).toNat - V 6 (vWho V ((k : Int) - 1) (vN V) 0).toNat))
def vWay (V : nl_O) : Nat → Nat → Int
  | 0, _ => 0
  | d + 1, k => vWy V k + vWay V d (k + 1)
theorem lp_way {LS : Int} {n : Nat} (hn : 1 ≤ n) {h : nl_H} {o : Nat} {N : Int} (hV : vok N (h 4 o)) : ∀ (d k : Nat) {g : Int} (w1 w2 : Option nl_V), (k : Int) + d = h 4 o 0 0 → 1 ≤ k → 0 ≤ g → g + 99 * d ≤ 1000 →
    nl_Rn LS cd_X4_handingOver (nl_c LS n) ct_X4_handingOver 1 4 [some (vO 4 o), some (vI g), some (vI (k : Int)), w1, w2] h (g + vWay (h 4 o) d k, h) := by
  have hn9 := hV.1
  have h2 := vN_eq hV
  intro d
  induction d with
  | zero =>
    intro k g w1 w2 hk hk1 h1 h2
    refine .ret ?_
    rw [sg_X4_handingOver_4]
    simp only [vWay]
    simp (disch := omega) only [nx_of, if_pos, if_neg, if_true, if_false, true_or, or_true, Int.toNat_natCast, Option.bind_some]
    rw [show g + 0 = g by omega]
  | succ d ih =>
    intro k g w1 w2 hk hk1 h1 h2
    have hc1 := sp_houseWith (LS := LS) hn (x := (k : Int) - 1) ⟨by omega, by omega⟩ hV
    have hc2 := sp_houseWith (LS := LS) hn (x := (k : Int)) ⟨by omega, by omega⟩ hV
    have a1 := (vWho_in (V := h 4 o) (k := (k : Int) - 1) (vN (h 4 o)) 0).1
    have a2 := (vWho_in (V := h 4 o) (k := (k : Int)) (vN (h 4 o)) 0).1
    have k9 := fun g' w1' w2' => ih (k + 1) (g := g') w1' w2' (by omega) (by omega)
    have e : g + vWay (h 4 o) (d + 1) k = g + vWy (h 4 o) k + vWay (h 4 o) d (k + 1) := by simp only [vWay]; omega
    rw [e]
    have ew : vWy (h 4 o) k = vWy (h 4 o) k := rfl
    conv at ew => rhs; unfold vWy
    generalize vWho (h 4 o) ((k : Int) - 1) (vN (h 4 o)) 0 = u at hc1 a1 ew
    generalize vWho (h 4 o) (k : Int) (vN (h 4 o)) 0 = v at hc2 a2 ew
    by_cases hu : u = -1
    · rw [if_pos (Or.inl hu)] at ew
      rw [ew, show g + 0 = g by omega]
      refine .go ?_ (k9 g (some (vI u)) (some (vI v)) (by omega) (by omega))
      rw [sg_X4_handingOver_4]
      simp (disch := omega) only [nx_of, if_pos, if_neg, if_true, if_false, true_or, or_true, Int.toNat_natCast, Option.bind_some, hc1, hc2]
      rfl
    · by_cases hv : v = -1
      · rw [if_pos (Or.inr hv)] at ew
        rw [ew, show g + 0 = g by omega]
        refine .go ?_ (k9 g (some (vI u)) (some (vI v)) (by omega) (by omega))
        rw [sg_X4_handingOver_4]
        simp (disch := omega) only [nx_of, if_pos, if_neg, if_true, if_false, true_or, or_true, Int.toNat_natCast, Option.bind_some, hc1, hc2]
        rfl
      · obtain ⟨i, rfl⟩ : ∃ i : Nat, u = i := ⟨u.toNat, by omega⟩
        obtain ⟨j, rfl⟩ : ∃ j : Nat, v = j := ⟨v.toNat, by omega⟩
        have b1 := (hV.2.2.2.1 i (by omega)).2.2.2.1
        have b2 := (hV.2.2.2.1 j (by omega)).2.2.2.1
        rw [if_neg (by omega)] at ew
        simp only [Int.toNat_natCast] at ew
        by_cases hs : 0 ≤ h 4 o 6 j - h 4 o 6 i
        · rw [if_pos hs] at ew
          rw [ew]
          refine .go ?_ (k9 _ (some (vI (i : Int))) (some (vI (j : Int))) (by omega) (by omega))
          rw [sg_X4_handingOver_4]
          simp (disch := omega) only [nx_of, if_pos, if_neg, if_true, if_false, true_or, or_true, Int.toNat_natCast, Option.bind_some, hc1, hc2]
          rfl
        · rw [if_neg hs] at ew
          rw [ew]
          refine .go ?_ (k9 _ (some (vI (i : Int))) (some (vI (j : Int))) (by omega) (by omega))
          rw [sg_X4_handingOver_4]
          simp (disch := omega) only [nx_of, if_pos, if_neg, if_true, if_false, true_or, or_true, Int.toNat_natCast, Option.bind_some, hc1, hc2]
          rfl
theorem sp_handingOver {LS : Int} {n : Nat} (hn : 2 ≤ n) {h : nl_H} {o : Nat} {N : Int} (hV : vok N (h 4 o)) : nl_c LS n m_X4_handingOver [vO 4 o] h = some (vWay (h 4 o) (vN (h 4 o) - 1) 1, h) := by
  obtain ⟨n, rfl, hn1⟩ := nl_suc hn
  have h0 := hV.1
  have h2 := vN_eq hV
  have k9 := lp_way (LS := LS) hn1 hV (vN (h 4 o) - 1) 1 (g := 0) none none (by omega) (by omega) (by omega) (by omega)
  rw [show 0 + vWay (h 4 o) (vN (h 4 o) - 1) 1 = vWay (h 4 o) (vN (h 4 o) - 1) 1 by omega] at k9
  refine cl_X4_handingOver (.go ?_ k9)
  rw [sg_X4_handingOver_0]
  rfl

/-- the least and the greatest place of the first houses -/
def vLo (V : nl_O) : Nat → Int
  | 0 => 99
  | i + 1 => if V 6 i < vLo V i then V 6 i else vLo V i
def vHi (V : nl_O) : Nat → Int
  | 0 => 0
  | i + 1 => if vHi V i < V 6 i then V 6 i else vHi V i
theorem vLo_in {N : Int} {V : nl_O} (hV : vok N V) : ∀ i : Nat, (i : Int) ≤ V 0 0 → (0 ≤ vLo V i ∧ vLo V i ≤ 99) ∧ 0 ≤ vHi V i ∧ vHi V i ≤ 99 := by
  intro i
  induction i with
  | zero => intro _; simp only [vLo, vHi]; omega
  | succ i ih =>
    intro hi
    have h1 := ih (by omega)
    have h2 := (hV.2.2.2.1 i (by omega)).2.2.2.1
    simp only [vLo, vHi]
    constructor <;> split <;> omega
theorem lp_road {LS : Int} {den : nl_D} {h : nl_H} {o : Nat} {N : Int} (hV : vok N (h 4 o)) : ∀ (d i : Nat), (i : Int) + d = h 4 o 0 0 →
    nl_Rn LS cd_X4_lengthOfRoad den ct_X4_lengthOfRoad 1 7 [some (vO 4 o), some (vI (vLo (h 4 o) i)), some (vI (vHi (h 4 o) i)), some (vI (i : Int))] h (if vHi (h 4 o) (i + d) - vLo (h 4 o) (i + d) < 0 then 0 else vHi (h 4 o) (i + d) - vLo (h 4 o) (i + d), h) := by
  have hn9 := hV.1
  intro d
  induction d with
  | zero =>
    intro i hi
    have h1 := vLo_in hV i (by omega)
    refine .ret ?_
    rw [sg_X4_lengthOfRoad_7]
    simp (disch := omega) only [nx_of, if_pos, if_neg, if_true, if_false, true_or, or_true, Int.toNat_natCast, Option.bind_some, Nat.add_zero]
  | succ d ih =>
    intro i hi
    have h1 := vLo_in hV i (by omega)
    have h2 := (hV.2.2.2.1 i (by omega)).2.2.2.1
    have k9 := ih (i + 1) (by omega)
    rw [show i + 1 + d = i + (d + 1) by omega] at k9
    refine .go ?_ k9
    rw [sg_X4_lengthOfRoad_7]
    simp only [vLo, vHi]
    simp (disch := omega) only [nx_of, if_pos, if_neg, if_true, if_false, true_or, or_true, Int.toNat_natCast, Option.bind_some]
    rfl
theorem sp_lengthOfRoad {LS : Int} {n : Nat} (hn : 1 ≤ n) {h : nl_H} {o : Nat} {N : Int} (hV : vok N (h 4 o)) : nl_c LS n m_X4_lengthOfRoad [vO 4 o] h = some (if vHi (h 4 o) (vN (h 4 o)) - vLo (h 4 o) (vN (h 4 o)) < 0 then 0 else vHi (h 4 o) (vN (h 4 o)) - vLo (h 4 o) (vN (h 4 o)), h) := by
  obtain ⟨n, rfl, hn1⟩ := nl_suc hn
  have h0 := hV.1
  have h2 := vN_eq hV
  have k9 := lp_road (LS := LS) (den := nl_c LS n) hV (vN (h 4 o)) 0 (by omega)
  rw [Nat.zero_add] at k9
  refine cl_X4_lengthOfRoad (.go ?_ k9)
  rw [sg_X4_lengthOfRoad_0]
  rfl
/-- what a winter's draw does ahead of a night -/
def vStir (V : nl_O) (x : Nat) : nl_O :=
  if x / 64 % 4 = 0 then vTrade V (x % vN V) (x / 8 % vN V)
  else if x / 64 % 4 = 1 then vRest V (x % vN V)
  else if x / 64 % 4 = 2 then vu V 3 (V 8 (x % vN V)).toNat ((x / 256 % 21 : Nat) : Int)
  else V
theorem nx_tm (a b : Nat) : ((a : Int).tmod (b : Int)) = ((a % b : Nat) : Int) := by
  rw [Int.tmod_eq_emod_of_nonneg (by omega)]
  rfl
theorem nx_td (a b : Nat) : ((a : Int).tdiv (b : Int)) = ((a / b : Nat) : Int) := by
  rw [Int.tdiv_eq_ediv_of_nonneg (by omega)]
  rfl
theorem sp_stir {LS : Int} {n : Nat} (hn : 3 ≤ n) {h : nl_H} {o x : Nat} {N : Int} (hV : vok N (h 4 o)) (hx : x < 100000) : nl_c LS n m_X4_stir [vO 4 o, vI (x : Int)] h = some (0, so h 4 o (vStir (h 4 o) x)) := by
  obtain ⟨n, rfl, hn1⟩ := nl_suc hn
  have hn9 := hV.1
  have hvn := vN_eq hV
  have ha : x % vN (h 4 o) < vN (h 4 o) := Nat.mod_lt _ (by omega)
  have hb : x / 8 % vN (h 4 o) < vN (h 4 o) := Nat.mod_lt _ (by omega)
  have b1 := hV.2.2.2.1 (x % vN (h 4 o)) (by omega)
  have e1 : ((x : Int).tmod (h 4 o 0 0)) = ((x % vN (h 4 o) : Nat) : Int) := by rw [← hvn]; exact nx_tm _ _
  have e2 : ((x : Int).tdiv 8) = ((x / 8 : Nat) : Int) := nx_td x 8
  have e3 : (((x / 8 : Nat) : Int).tmod (h 4 o 0 0)) = ((x / 8 % vN (h 4 o) : Nat) : Int) := by rw [← hvn]; exact nx_tm _ _
  have e4 : ((x : Int).tdiv 64) = ((x / 64 : Nat) : Int) := nx_td x 64
  have e5 : (((x / 64 : Nat) : Int).tmod 4) = ((x / 64 % 4 : Nat) : Int) := nx_tm (x / 64) 4
  have e6 : ((x : Int).tdiv 256) = ((x / 256 : Nat) : Int) := nx_td x 256
  have e7 : (((x / 256 : Nat) : Int).tmod 21) = ((x / 256 % 21 : Nat) : Int) := nx_tm (x / 256) 21
  have hc1 := sp_trade (LS := LS) (n := n) (by omega) (h := h) (o := o) (a := x % vN (h 4 o)) (b := x / 8 % vN (h 4 o)) (by omega) (by omega)
  have hc2 := sp_giveRest (LS := LS) (n := n) (by omega) (h := h) (o := o) (i := x % vN (h 4 o)) (by omega) b1.2.2.2.2.1
  obtain ⟨k, hk⟩ : ∃ k : Nat, h 4 o 8 (x % vN (h 4 o)) = k := ⟨(h 4 o 8 (x % vN (h 4 o))).toNat, by omega⟩
  have hc3 := sp_setBurden (LS := LS) (n := n) (by omega) (h := h) (o := o) (k := k) (x := ((x / 256 % 21 : Nat) : Int)) (by omega) (by omega)
  refine cl_X4_stir (.go (pc' := 30) (L' := [some (vO 4 o), some (vI (x : Int)), some (vI ((x % vN (h 4 o) : Nat) : Int)), some (vI ((x / 8 % vN (h 4 o) : Nat) : Int))]) (h' := h) ?_ (.ret ?_))
  · rw [sg_X4_stir_0]
    simp (disch := omega) only [nx_of, if_pos, if_neg, if_true, if_false, true_or, or_true, Int.toNat_natCast, Option.bind_some, e1, e2, e3]
  · rw [sg_X4_stir_30]
    unfold vStir
    have h4 : x / 64 % 4 = 0 ∨ x / 64 % 4 = 1 ∨ x / 64 % 4 = 2 ∨ x / 64 % 4 = 3 := by omega
    generalize hq : x / 64 % 4 = q at h4 e5
    rcases h4 with rfl | rfl | rfl | rfl <;>
      simp (disch := omega) only [nx_of, if_pos, if_neg, if_true, if_false, true_or, or_true, Int.toNat_natCast, Option.bind_some, e4, e5, e6, e7, hc1, hc2, hc3, hk, so_self]
end
section
/-! Valleys copied, valleys laid. -/
theorem up_at {h : nl_H} {c o k i : Nat} {x : Int} : nl_up h c o k i x c o = vu (h c o) k i x := by rw [up_so, so_at]
theorem up_ne {h : nl_H} {c o k i : Nat} {x : Int} {c' o' : Nat} (n : ¬ (c' = c ∧ o' = o)) : nl_up h c o k i x c' o' = h c' o' := by rw [up_so, so_ne n]
/-- B's numbers, and its rows' entries below j, in A -/
def vC1 (A B : nl_O) (j : Nat) : nl_O := fun k i => if (k < 3 ∧ i = 0) ∨ (3 ≤ k ∧ k ≤ 9 ∧ i < j) then B k i else A k i
def vC2 (A B : nl_O) (j : Nat) : nl_O := fun k i => if k = 10 ∧ i < j then B k i else vC1 A B 7 k i
theorem vC1_0 {A B : nl_O} : vu (vu (vu A 0 0 (B 0 0)) 1 0 (B 1 0)) 2 0 (B 2 0) = vC1 A B 0 := by
  funext k i
  unfold vu vC1
  by_cases hk : k < 3 ∧ i = 0
  · obtain ⟨h1, rfl⟩ := hk
    rcases (show k = 0 ∨ k = 1 ∨ k = 2 by omega) with rfl | rfl | rfl <;> simp
  · rw [if_neg (by omega), if_neg (by omega), if_neg (by omega), if_neg (by omega)]
theorem vC1_s {A B : nl_O} {j : Nat} : vu (vu (vu (vu (vu (vu (vu (vC1 A B j) 3 j (B 3 j)) 4 j (B 4 j)) 5 j (B 5 j)) 6 j (B 6 j)) 7 j (B 7 j)) 8 j (B 8 j)) 9 j (B 9 j) = vC1 A B (j + 1) := by
  funext k i
  unfold vu vC1
  by_cases hk : (3 ≤ k ∧ k ≤ 9) ∧ i = j
  · obtain ⟨h1, rfl⟩ := hk
    rcases (show k = 3 ∨ k = 4 ∨ k = 5 ∨ k = 6 ∨ k = 7 ∨ k = 8 ∨ k = 9 by omega) with rfl | rfl | rfl | rfl | rfl | rfl | rfl <;> simp
  · rw [if_neg (by omega), if_neg (by omega), if_neg (by omega), if_neg (by omega), if_neg (by omega), if_neg (by omega), if_neg (by omega)]
    by_cases hz : (k < 3 ∧ i = 0) ∨ (3 ≤ k ∧ k ≤ 9 ∧ i < j)
    · rw [if_pos hz, if_pos (by omega)]
    · rw [if_neg hz, if_neg (by omega)]
theorem vC2_0 {A B : nl_O} : vC1 A B 7 = vC2 A B 0 := by
  funext k i
  unfold vC2
  rw [if_neg (by omega)]
theorem vC2_s {A B : nl_O} {j : Nat} : vu (vC2 A B j) 10 j (B 10 j) = vC2 A B (j + 1) := by
  funext k i
  unfold vu vC2
  by_cases hk : k = 10 ∧ i = j
  · obtain ⟨rfl, rfl⟩ := hk
    simp
  · rw [if_neg hk]
    by_cases hz : k = 10 ∧ i < j
    · rw [if_pos hz, if_pos (by omega)]
    · rw [if_neg hz, if_neg (by omega)]
theorem lp_copy2 {LS : Int} {den : nl_D} {h : nl_H} {o v : Nat} (ho : o ≠ v) {A : nl_O} : ∀ (d j : Nat), j + d = 49 →
    nl_Rn LS cd_X4_copyFrom den ct_X4_copyFrom 0 124 [some (vO 4 o), some (vO 4 v), some (vI (j : Int))] (so h 4 o (vC2 A (h 4 v) j)) (0, so h 4 o (vC2 A (h 4 v) 49)) := by
  intro d
  induction d with
  | zero =>
    intro j hj
    obtain rfl : j = 49 := by omega
    refine .ret ?_
    rw [sg_X4_copyFrom_124]
    simp (disch := omega) only [nx_of, if_pos, if_neg, if_true, if_false, true_or, or_true, Int.toNat_natCast, Option.bind_some]
  | succ d ih =>
    intro j hj
    have k9 := ih (j + 1) (by omega)
    rw [← vC2_s] at k9
    refine .go ?_ k9
    rw [sg_X4_copyFrom_124]
    simp (disch := omega) only [nx_of, if_pos, if_neg, if_true, if_false, true_or, or_true, Int.toNat_natCast, Option.bind_some, up_so, so_at, so_so, so_ne]
    rfl
theorem lp_copy1 {LS : Int} {den : nl_D} {h : nl_H} {o v : Nat} (ho : o ≠ v) {A : nl_O} : ∀ (d j : Nat), j + d = 7 →
    nl_Rn LS cd_X4_copyFrom den ct_X4_copyFrom 0 26 [some (vO 4 o), some (vO 4 v), some (vI (j : Int))] (so h 4 o (vC1 A (h 4 v) j)) (0, so h 4 o (vC2 A (h 4 v) 49)) := by
  intro d
  induction d with
  | zero =>
    intro j hj
    obtain rfl : j = 7 := by omega
    have k9 := lp_copy2 (LS := LS) (den := den) (h := h) ho (A := A) 49 0 (by omega)
    rw [← vC2_0] at k9
    refine .go ?_ k9
    rw [sg_X4_copyFrom_26]
    simp (disch := omega) only [nx_of, if_pos, if_neg, if_true, if_false, true_or, or_true, Int.toNat_natCast, Option.bind_some]
    rfl
  | succ d ih =>
    intro j hj
    have k9 := ih (j + 1) (by omega)
    rw [← vC1_s] at k9
    refine .go ?_ k9
    rw [sg_X4_copyFrom_26]
    simp (disch := omega) only [nx_of, if_pos, if_neg, if_true, if_false, true_or, or_true, Int.toNat_natCast, Option.bind_some, up_so, so_at, so_so, so_ne]
    rfl
/-- what a valley holds behind copyFrom -/
def vCopy (A B : nl_O) : nl_O := vC2 A B 49
theorem sp_copyFrom {LS : Int} {n : Nat} (hn : 1 ≤ n) {h : nl_H} {o v : Nat} (ho : o ≠ v) : nl_c LS n m_X4_copyFrom [vO 4 o, vO 4 v] h = some (0, so h 4 o (vCopy (h 4 o) (h 4 v))) := by
  obtain ⟨n, rfl, hn1⟩ := nl_suc hn
  have k9 := lp_copy1 (LS := LS) (den := nl_c LS n) (h := h) ho (A := h 4 o) 7 0 (by omega)
  rw [← vC1_0] at k9
  refine cl_X4_copyFrom (.go ?_ k9)
  rw [sg_X4_copyFrom_0]
  simp (disch := omega) only [nx_of, if_pos, if_neg, if_true, if_false, true_or, or_true, Int.toNat_natCast, Option.bind_some, up_so, so_at, so_so, so_ne]
  rfl
/-- a plan's rows below j in a valley -/
def vS1 (A B : nl_O) (j : Nat) : nl_O := fun k i =>
  if k = 0 ∧ i = 0 then (if 7 < B 6 0 then 7 else B 6 0) else if (k = 1 ∨ k = 2) ∧ i = 0 then 0
  else if 3 ≤ k ∧ k ≤ 6 ∧ i < j then B (k - 3) i else if (k = 7 ∨ k = 9) ∧ i < j then 0 else if k = 8 ∧ i < j then (i : Int) else A k i
def vS2 (A B : nl_O) (j : Nat) : nl_O := fun k i => if k = 10 ∧ i < j then 0 else vS1 A B 7 k i
theorem vS1_0 {A B : nl_O} : vu (vu (vu A 0 0 (if 7 < B 6 0 then 7 else B 6 0)) 1 0 0) 2 0 0 = vS1 A B 0 := by
  funext k i
  unfold vu vS1
  by_cases hk : k < 3 ∧ i = 0
  · obtain ⟨h1, rfl⟩ := hk
    rcases (show k = 0 ∨ k = 1 ∨ k = 2 by omega) with rfl | rfl | rfl <;> simp
  · rw [if_neg (by omega), if_neg (by omega), if_neg (by omega), if_neg (by omega), if_neg (by omega), if_neg (by omega), if_neg (by omega), if_neg (by omega)]
theorem vS1_s {A B : nl_O} {j : Nat} : vu (vu (vu (vu (vu (vu (vu (vS1 A B j) 3 j (B 0 j)) 4 j (B 1 j)) 5 j (B 2 j)) 6 j (B 3 j)) 7 j 0) 8 j (j : Int)) 9 j 0 = vS1 A B (j + 1) := by
  funext k i
  unfold vu vS1
  by_cases hk : (3 ≤ k ∧ k ≤ 9) ∧ i = j
  · obtain ⟨h1, rfl⟩ := hk
    rcases (show k = 3 ∨ k = 4 ∨ k = 5 ∨ k = 6 ∨ k = 7 ∨ k = 8 ∨ k = 9 by omega) with rfl | rfl | rfl | rfl | rfl | rfl | rfl <;> simp
  · rw [if_neg (by omega), if_neg (by omega), if_neg (by omega), if_neg (by omega), if_neg (by omega), if_neg (by omega), if_neg (by omega)]
    by_cases h0 : k < 3
    · rcases (show k = 0 ∨ k = 1 ∨ k = 2 by omega) with rfl | rfl | rfl <;> simp
    · rw [if_neg (show ¬ (k = 0 ∧ i = 0) by omega), if_neg (show ¬ ((k = 1 ∨ k = 2) ∧ i = 0) by omega), if_neg (show ¬ (k = 0 ∧ i = 0) by omega), if_neg (show ¬ ((k = 1 ∨ k = 2) ∧ i = 0) by omega)]
      by_cases h1 : i < j
      · have h2 : i < j + 1 := by omega
        simp only [h1, h2]
      · by_cases h3 : i = j
        · have h4 : ¬ (3 ≤ k ∧ k ≤ 9) := fun z => hk ⟨z, h3⟩
          rw [if_neg (by omega), if_neg (by omega), if_neg (by omega), if_neg (by omega), if_neg (by omega), if_neg (by omega)]
        · have h2 : ¬ i < j + 1 := by omega
          simp only [h1, h2]
theorem vS2_0 {A B : nl_O} : vS1 A B 7 = vS2 A B 0 := by
  funext k i
  unfold vS2
  rw [if_neg (by omega)]
theorem vS2_s {A B : nl_O} {j : Nat} : vu (vS2 A B j) 10 j 0 = vS2 A B (j + 1) := by
  funext k i
  unfold vu vS2
  by_cases hk : k = 10 ∧ i = j
  · obtain ⟨rfl, rfl⟩ := hk
    simp
  · rw [if_neg hk]
    by_cases hz : k = 10 ∧ i < j
    · rw [if_pos hz, if_pos (by omega)]
    · rw [if_neg hz, if_neg (by omega)]
theorem lp_settle2 {LS : Int} {den : nl_D} {h : nl_H} {o : Nat} {A : nl_O} : ∀ (d j : Nat), j + d = 49 →
    nl_Rn LS cd_X4_settle den ct_X4_settle 0 108 [some (vO 4 o), some (vO 1 0), some (vI (j : Int))] (so h 4 o (vS2 A (h 1 0) j)) (0, so h 4 o (vS2 A (h 1 0) 49)) := by
  intro d
  induction d with
  | zero =>
    intro j hj
    obtain rfl : j = 49 := by omega
    refine .ret ?_
    rw [sg_X4_settle_108]
    simp (disch := omega) only [nx_of, if_pos, if_neg, if_true, if_false, true_or, or_true, Int.toNat_natCast, Option.bind_some]
  | succ d ih =>
    intro j hj
    have k9 := ih (j + 1) (by omega)
    rw [← vS2_s] at k9
    refine .go ?_ k9
    rw [sg_X4_settle_108]
    simp (disch := omega) only [nx_of, if_pos, if_neg, if_true, if_false, true_or, or_true, Int.toNat_natCast, Option.bind_some, up_so, so_at, so_so, so_ne]
    rfl
theorem lp_settle1 {LS : Int} {den : nl_D} {h : nl_H} {o : Nat} {A : nl_O} : ∀ (d j : Nat), j + d = 7 →
    nl_Rn LS cd_X4_settle den ct_X4_settle 0 25 [some (vO 4 o), some (vO 1 0), some (vI (j : Int))] (so h 4 o (vS1 A (h 1 0) j)) (0, so h 4 o (vS2 A (h 1 0) 49)) := by
  intro d
  induction d with
  | zero =>
    intro j hj
    obtain rfl : j = 7 := by omega
    have k9 := lp_settle2 (LS := LS) (den := den) (h := h) (o := o) (A := A) 49 0 (by omega)
    rw [← vS2_0] at k9
    refine .go ?_ k9
    rw [sg_X4_settle_25]
    simp (disch := omega) only [nx_of, if_pos, if_neg, if_true, if_false, true_or, or_true, Int.toNat_natCast, Option.bind_some]
    rfl
  | succ d ih =>
    intro j hj
    have k9 := ih (j + 1) (by omega)
    rw [← vS1_s] at k9
    refine .go ?_ k9
    rw [sg_X4_settle_25]
    simp (disch := omega) only [nx_of, if_pos, if_neg, if_true, if_false, true_or, or_true, Int.toNat_natCast, Option.bind_some, up_so, so_at, so_so, so_ne]
    rfl
theorem sp_settle {LS : Int} {n : Nat} (hn : 1 ≤ n) {h : nl_H} {o : Nat} (hp : 0 ≤ h 1 0 6 0 ∧ h 1 0 6 0 ≤ 7) : nl_c LS n m_X4_settle [vO 4 o, vO 1 0] h = some (0, so h 4 o (vS2 (h 4 o) (h 1 0) 49)) := by
  obtain ⟨n, rfl, hn1⟩ := nl_suc hn
  have k9 := lp_settle1 (LS := LS) (den := nl_c LS n) (h := h) (o := o) (A := h 4 o) 7 0 (by omega)
  rw [← vS1_0] at k9
  refine cl_X4_settle (.go ?_ k9)
  rw [sg_X4_settle_0]
  simp (disch := omega) only [nx_of, if_pos, if_neg, if_true, if_false, true_or, or_true, Int.toNat_natCast, Option.bind_some, up_so, so_at, so_so, so_ne]
  rfl
end
section
/-! Shelves, sightings. -/
/-- a shelf that stands: of c places, its valleys from lo on below hi, each once -/
def shok (c lo hi : Int) (S : nl_O) : Prop := (0 ≤ S 1 0 ∧ S 1 0 ≤ c) ∧ (∀ i : Nat, (i : Int) < c → lo ≤ S 0 i ∧ S 0 i < hi) ∧ (∀ i j : Nat, (i : Int) < c → (j : Int) < c → S 0 i = S 0 j → i = j)
theorem sp_shClear {LS : Int} {n : Nat} (hn : 1 ≤ n) {h : nl_H} {o : Nat} : nl_c LS n m_X2_clear [vO 2 o] h = some (0, so h 2 o (vu (h 2 o) 1 0 0)) := by
  obtain ⟨n, rfl, hn1⟩ := nl_suc hn
  refine cl_X2_clear (.ret ?_)
  rw [sg_X2_clear_0, up_so]
/-- the rows one place down, up to j -/
def vRot (S : nl_O) (j : Nat) : nl_O := fun k i => if k = 0 ∧ i + 1 < j then S 0 (i + 1) else S k i
theorem vRot_s {S : nl_O} {j : Nat} : vu (vRot S (j + 1)) 0 j (S 0 (j + 1)) = vRot S (j + 1 + 1) := by
  funext k i
  unfold vu vRot
  by_cases hk : k = 0 ∧ i = j
  · obtain ⟨rfl, rfl⟩ := hk
    simp
  · rw [if_neg hk]
    by_cases hz : k = 0 ∧ i + 1 < j + 1
    · rw [if_pos hz, if_pos (by omega)]
    · rw [if_neg hz, if_neg (by omega)]
theorem vRot_1 {S : nl_O} : vRot S 1 = S := by
  funext k i
  unfold vRot
  rw [if_neg (by omega)]
def vDrop (S : nl_O) (c : Nat) : nl_O := vu (vu (vRot S c) 0 (c - 1) (S 0 0)) 1 0 ((c : Int) - 1)
theorem lp_drop {LS : Int} {den : nl_D} {h : nl_H} {o c q : Nat} (hc : nl_al LS 2 o 0 = (c : Int)) (hc2 : 2 ≤ c ∧ c ≤ 8) {lo hi : Int} {S : nl_O} (hS : shok c lo hi S) (hlo : 0 ≤ lo) (hhi : hi ≤ 12) (hq : (q : Int) = S 0 0) : ∀ (d j : Nat), j + 1 + d = c →
    nl_Rn LS cd_X2_dropOldest den ct_X2_dropOldest 0 9 [some (vO 2 o), some (vO 4 q), some (vI ((j + 1 : Nat) : Int))] (so h 2 o (vRot S (j + 1))) (0, so h 2 o (vDrop S c)) := by
  intro d
  induction d with
  | zero =>
    intro j hj
    obtain rfl : c = j + 1 := by omega
    refine .ret ?_
    rw [sg_X2_dropOldest_9, hc]
    have e : ((((j + 1 : Nat) : Int) - 1)).toNat = j + 1 - 1 := by omega
    simp (disch := omega) only [nx_of, if_pos, if_neg, if_true, if_false, true_or, or_true, Int.toNat_natCast, Option.bind_some, up_so, so_at, so_so, e, hq]
    rfl
  | succ d ih =>
    intro j hj
    have b1 := hS.2.1 (j + 1) (by omega)
    have k9 := ih (j + 1) (by omega)
    rw [← vRot_s] at k9
    refine .go ?_ k9
    rw [sg_X2_dropOldest_9, hc]
    have e1 : vRot S (j + 1) 0 (j + 1) = S 0 (j + 1) := by unfold vRot; rw [if_neg (by omega)]
    have e2 : ((((j + 1 : Nat) : Int) - 1)).toNat = j := by omega
    have e3 : ((S 0 (j + 1)).toNat : Int) = S 0 (j + 1) := by omega
    simp (disch := omega) only [nx_of, if_pos, if_neg, if_true, if_false, true_or, or_true, Int.toNat_natCast, Option.bind_some, up_so, so_at, so_so, e1, e2, e3]
    rfl
theorem sp_dropOldest {LS : Int} {n : Nat} (hn : 1 ≤ n) {h : nl_H} {o c : Nat} (hc : nl_al LS 2 o 0 = (c : Int)) (hc2 : 2 ≤ c ∧ c ≤ 8) {lo hi : Int} (hS : shok c lo hi (h 2 o)) (hlo : 0 ≤ lo) (hhi : hi ≤ 12) : nl_c LS n m_X2_dropOldest [vO 2 o] h = some (0, so h 2 o (vDrop (h 2 o) c)) := by
  obtain ⟨n, rfl, hn1⟩ := nl_suc hn
  have b1 := hS.2.1 0 (by omega)
  have k9 := lp_drop (LS := LS) (den := nl_c LS n) (h := h) (q := (h 2 o 0 0).toNat) hc hc2 hS hlo hhi (by omega) (c - 1) 0 (by omega)
  rw [vRot_1, so_self] at k9
  refine cl_X2_dropOldest (.go ?_ k9)
  rw [sg_X2_dropOldest_0, hc]
  have e0 : nl_nz 0 = 0 := nx_of (by omega) (by omega)
  rw [e0]
  rw [if_pos ⟨by omega, by simp only [Int.toNat_zero]; omega⟩]
  rfl
theorem shok_drop {c : Nat} (hc2 : 2 ≤ c ∧ c ≤ 8) {lo hi : Int} {S : nl_O} (hS : shok c lo hi S) : shok c lo hi (vDrop S c) := by
  have key : ∀ i : Nat, (i : Int) < c → vDrop S c 0 i = S 0 (if i + 1 < c then i + 1 else 0) := by
    intro i hi
    unfold vDrop
    rw [vu_k (by omega)]
    by_cases hz : i = c - 1
    · subst hz
      rw [vu_at, if_neg (by omega)]
    · rw [vu_ne (fun z => hz z.2), if_pos (by omega)]
      unfold vRot
      rw [if_pos (by omega)]
  obtain ⟨h1, h2, h3⟩ := hS
  refine ⟨?_, fun i hi => ?_, fun i j hi hj e => ?_⟩
  · unfold vDrop
    rw [vu_at]
    omega
  · rw [key i hi]
    exact h2 _ (by split <;> omega)
  · rw [key i hi, key j hj] at e
    have := h3 _ _ (by split <;> omega) (by split <;> omega) e
    split at this <;> split at this <;> omega
/-- putting a valley by, the oldest out if the shelf is full -/
def shPre (c : Nat) (S : nl_O) : nl_O := if S 1 0 < c then S else vDrop S c
theorem sp_put {LS : Int} {n : Nat} (hn : 2 ≤ n) {h : nl_H} {o c v : Nat} (hc : nl_al LS 2 o 0 = (c : Int)) (hc2 : 2 ≤ c ∧ c ≤ 8) {lo hi : Int} (hS : shok c lo hi (h 2 o)) (hlo : 0 ≤ lo) (hhi : hi ≤ 12) (hv : (v : Int) < lo) :
    nl_c LS n m_X2_put [vO 2 o, vO 4 v] h = some (0, so (so h 4 (shPre c (h 2 o) 0 (shPre c (h 2 o) 1 0).toNat).toNat (vCopy (h 4 (shPre c (h 2 o) 0 (shPre c (h 2 o) 1 0).toNat).toNat) (h 4 v))) 2 o (vu (shPre c (h 2 o)) 1 0 (shPre c (h 2 o) 1 0 + 1))) := by
  obtain ⟨n, rfl, hn1⟩ := nl_suc hn
  refine cl_X2_put (.ret ?_)
  rw [sg_X2_put_0, hc]
  have h1 := hS.1
  unfold shPre
  by_cases hf : h 2 o 1 0 < c
  · obtain ⟨f, hf2⟩ : ∃ f : Nat, h 2 o 1 0 = f := ⟨(h 2 o 1 0).toNat, by omega⟩
    have b1 := hS.2.1 f (by omega)
    have hcp := sp_copyFrom (LS := LS) hn1 (h := h) (o := (h 2 o 0 f).toNat) (v := v) (by omega)
    rw [if_pos hf]
    simp (disch := omega) only [nx_of, if_pos, if_neg, if_true, if_false, true_or, or_true, Int.toNat_natCast, Option.bind_some, hf2, hcp, up_so, so_ne]
  · have hd := sp_dropOldest (LS := LS) hn1 hc hc2 hS hlo hhi
    have hS2 := shok_drop hc2 hS
    have hf1 : vDrop (h 2 o) c 1 0 = (c : Int) - 1 := by unfold vDrop; rw [vu_at]
    have e : ((c : Int) - 1).toNat = c - 1 := by omega
    have b1 := hS2.2.1 (c - 1) (by omega)
    have hcp := sp_copyFrom (LS := LS) hn1 (h := so h 2 o (vDrop (h 2 o) c)) (o := (vDrop (h 2 o) c 0 (c - 1)).toNat) (v := v) (by omega)
    rw [so_ne (by omega), so_ne (by omega)] at hcp
    rw [if_neg hf]
    simp (disch := omega) only [nx_of, if_pos, if_neg, if_true, if_false, true_or, or_true, Int.toNat_natCast, Option.bind_some, hd, so_at, hf1, e, hcp, up_so, so_ne]
    congr 3
    funext c' o'
    unfold so
    by_cases z : c' = 2 ∧ o' = o
    · rw [if_pos z, if_pos z]
    · rw [if_neg z, if_neg z, if_neg z]
theorem sp_take {LS : Int} {n : Nat} (hn : 2 ≤ n) {h : nl_H} {o c v : Nat} (hc : nl_al LS 2 o 0 = (c : Int)) (hc2 : 2 ≤ c ∧ c ≤ 8) {lo hi : Int} (hS : shok c lo hi (h 2 o)) (hlo : 0 ≤ lo) (hhi : hi ≤ 12) (hv : (v : Int) < lo) :
    nl_c LS n m_X2_takeInto [vO 2 o, vO 4 v] h = some (if h 2 o 1 0 < 1 then (0, h) else (1, so (so h 2 o (vu (h 2 o) 1 0 (h 2 o 1 0 - 1))) 4 v (vCopy (h 4 v) (h 4 (h 2 o 0 (h 2 o 1 0 - 1).toNat).toNat)))) := by
  obtain ⟨n, rfl, hn1⟩ := nl_suc hn
  refine cl_X2_takeInto (.ret ?_)
  rw [sg_X2_takeInto_0, hc]
  have h1 := hS.1
  by_cases hf : h 2 o 1 0 < 1
  · simp (disch := omega) only [nx_of, if_pos, if_neg, if_true, if_false, true_or, or_true, Int.toNat_natCast, Option.bind_some]
  · obtain ⟨f, hf2⟩ : ∃ f : Nat, h 2 o 1 0 = f + 1 := ⟨(h 2 o 1 0 - 1).toNat, by omega⟩
    have b1 := hS.2.1 f (by omega)
    have e : (f : Int) + 1 - 1 = f := by omega
    have hcp := sp_copyFrom (LS := LS) hn1 (h := so h 2 o (vu (h 2 o) 1 0 f)) (o := v) (v := (h 2 o 0 f).toNat) (by omega)
    rw [so_ne (by omega), so_ne (by omega)] at hcp
    simp (disch := omega) only [nx_of, if_pos, if_neg, if_true, if_false, true_or, or_true, Int.toNat_natCast, Option.bind_some, hf2, e, up_so, so_at, vu_at, vu_k, hcp]
end
section
/-! Sightings; the nights that one house goes through. -/
def sok (m : Int) (S : nl_O) : Prop := (0 ≤ S 3 0 ∧ S 3 0 ≤ 6) ∧ ∀ i : Nat, (i : Int) < S 3 0 → (0 ≤ S 0 i ∧ S 0 i ≤ 20) ∧ (0 ≤ S 1 i ∧ S 1 i < m) ∧ (S 2 i = 0 ∨ S 2 i = 1)
theorem sp_seClear {LS : Int} {n : Nat} (hn : 1 ≤ n) {h : nl_H} : nl_c LS n m_X3_clear [vO 3 0] h = some (0, so h 3 0 (vu (h 3 0) 3 0 0)) := by
  obtain ⟨n, rfl, hn1⟩ := nl_suc hn
  refine cl_X3_clear (.ret ?_)
  rw [sg_X3_clear_0, up_so]
def vAdd (S : nl_O) (x y z : Int) : nl_O := vu (vu (vu (vu S 0 (S 3 0).toNat x) 1 (S 3 0).toNat y) 2 (S 3 0).toNat z) 3 0 (S 3 0 + 1)
theorem sp_seAdd {LS : Int} {n : Nat} (hn : 1 ≤ n) {h : nl_H} {x y z : Int} (hf : 0 ≤ h 3 0 3 0 ∧ h 3 0 3 0 < 6) (hz : z = 0 ∨ z = 1) : nl_c LS n m_X3_add [vO 3 0, vI x, vI y, vI z] h = some (0, so h 3 0 (vAdd (h 3 0) x y z)) := by
  obtain ⟨n, rfl, hn1⟩ := nl_suc hn
  obtain ⟨f, hf2⟩ : ∃ f : Nat, h 3 0 3 0 = f := ⟨(h 3 0 3 0).toNat, by omega⟩
  refine cl_X3_add (.ret ?_)
  rw [sg_X3_add_0]
  unfold vAdd
  simp (disch := omega) only [nx_of, if_pos, if_neg, if_true, if_false, true_or, or_true, Int.toNat_natCast, Option.bind_some, up_so, so_at, so_so, vu_k, hf2, hz, and_true]
def vLast (S : nl_O) : Nat → Int
  | 0 => -1
  | i + 1 => if vLast S i < S 0 i then S 0 i else vLast S i
theorem vLast_in {m : Int} {S : nl_O} (hS : sok m S) : ∀ i : Nat, (i : Int) ≤ S 3 0 → -1 ≤ vLast S i ∧ vLast S i ≤ 20 := by
  intro i
  induction i with
  | zero => intro _; simp only [vLast]; omega
  | succ i ih =>
    intro hi
    have h1 := ih (by omega)
    have h2 := (hS.2 i (by omega)).1
    simp only [vLast]
    split <;> omega
theorem lp_last {LS : Int} {den : nl_D} {h : nl_H} {m : Int} (hS : sok m (h 3 0)) : ∀ (d i : Nat), (i : Int) + d = h 3 0 3 0 →
    nl_Rn LS cd_X3_lastNight den ct_X3_lastNight 1 4 [some (vO 3 0), some (vI (vLast (h 3 0) i)), some (vI (i : Int))] h (vLast (h 3 0) (i + d), h) := by
  have h1 := hS.1
  intro d
  induction d with
  | zero =>
    intro i hi
    refine .ret ?_
    rw [sg_X3_lastNight_4]
    simp (disch := omega) only [nx_of, if_pos, if_neg, if_true, if_false, true_or, or_true, Int.toNat_natCast, Option.bind_some, Nat.add_zero]
  | succ d ih =>
    intro i hi
    have b := (hS.2 i (by omega)).1
    have c := vLast_in hS i (by omega)
    have k9 := ih (i + 1) (by omega)
    rw [show i + 1 + d = i + (d + 1) by omega] at k9
    refine .go ?_ k9
    rw [sg_X3_lastNight_4]
    simp only [vLast]
    simp (disch := omega) only [nx_of, if_pos, if_neg, if_true, if_false, true_or, or_true, Int.toNat_natCast, Option.bind_some]
    rfl
theorem sp_last {LS : Int} {n : Nat} (hn : 1 ≤ n) {h : nl_H} {m : Int} (hS : sok m (h 3 0)) : nl_c LS n m_X3_lastNight [vO 3 0] h = some (vLast (h 3 0) (h 3 0 3 0).toNat, h) := by
  obtain ⟨n, rfl, hn1⟩ := nl_suc hn
  have h1 := hS.1
  have k9 := lp_last (LS := LS) (den := nl_c LS n) hS (h 3 0 3 0).toNat 0 (by omega)
  rw [Nat.zero_add] at k9
  refine cl_X3_lastNight (.go ?_ k9)
  rw [sg_X3_lastNight_0]
  rfl
/-- does what is seen of a night hold in a valley, from the i-th on -/
def vFit (S V : nl_O) (x : Int) : Nat → Nat → Int
  | 0, _ => 1
  | d + 1, i => if S 0 i = x then (if vGap V (S 1 i).toNat = S 2 i then vFit S V x d (i + 1) else 0) else vFit S V x d (i + 1)
theorem vGap_in (V : nl_O) (k : Nat) : vGap V k = 0 ∨ vGap V k = 1 := by
  unfold vGap
  split
  · exact Or.inl rfl
  · split
    · exact Or.inl rfl
    · exact Or.inr rfl
theorem lp_fit {LS : Int} {n : Nat} (hn : 4 ≤ n) {h : nl_H} {v : Nat} {N x : Int} (hN : N ≤ 100000) (hV : vok N (h 4 v)) (hS : sok (h 4 v 0 0) (h 3 0)) (hx : 0 ≤ x ∧ x ≤ 100) : ∀ (d i : Nat), (i : Int) + d = h 3 0 3 0 →
    nl_Rn LS cd_X3_fit (nl_c LS n) ct_X3_fit 3 2 [some (vO 3 0), some (vO 4 v), some (vI x), some (vI (i : Int))] h (vFit (h 3 0) (h 4 v) x d i, h) := by
  have h1 := hS.1
  intro d
  induction d with
  | zero =>
    intro i hi
    refine .ret ?_
    rw [sg_X3_fit_2]
    simp (disch := omega) only [nx_of, if_pos, if_neg, if_true, if_false, true_or, or_true, Int.toNat_natCast, Option.bind_some, vFit]
  | succ d ih =>
    intro i hi
    have b := hS.2 i (by omega)
    obtain ⟨k, hk⟩ : ∃ k : Nat, h 3 0 1 i = k := ⟨(h 3 0 1 i).toNat, by omega⟩
    have hc := sp_isGapAt (LS := LS) hn (h := h) (o := v) (k := k) hN hV (by omega)
    have hg := vGap_in (h 4 v) k
    have k9 := ih (i + 1) (by omega)
    simp only [vFit, hk, Int.toNat_natCast]
    by_cases q1 : h 3 0 0 i = x
    · by_cases q2 : vGap (h 4 v) k = h 3 0 2 i
      · rw [if_pos q1, if_pos q2]
        refine .go ?_ k9
        rw [sg_X3_fit_2]
        simp (disch := omega) only [nx_of, if_pos, if_neg, if_true, if_false, true_or, or_true, Int.toNat_natCast, Option.bind_some, hk, hc]
        rfl
      · rw [if_pos q1, if_neg q2]
        refine .ret ?_
        rw [sg_X3_fit_2]
        simp (disch := omega) only [nx_of, if_pos, if_neg, if_true, if_false, true_or, or_true, Int.toNat_natCast, Option.bind_some, hk, hc]
    · rw [if_neg q1]
      refine .go ?_ k9
      rw [sg_X3_fit_2]
      simp (disch := omega) only [nx_of, if_pos, if_neg, if_true, if_false, true_or, or_true, Int.toNat_natCast, Option.bind_some]
      rfl
theorem sp_fit {LS : Int} {n : Nat} (hn : 5 ≤ n) {h : nl_H} {v : Nat} {N x : Int} (hN : N ≤ 100000) (hV : vok N (h 4 v)) (hS : sok (h 4 v 0 0) (h 3 0)) (hx : 0 ≤ x ∧ x ≤ 100) : nl_c LS n m_X3_fit [vO 3 0, vO 4 v, vI x] h = some (vFit (h 3 0) (h 4 v) x (h 3 0 3 0).toNat 0, h) := by
  obtain ⟨n, rfl, hn1⟩ := nl_suc hn
  have h1 := hS.1
  have k9 := lp_fit (LS := LS) hn1 hN hV hS hx (h 3 0 3 0).toNat 0 (by omega)
  refine cl_X3_fit (.go ?_ k9)
  rw [sg_X3_fit_0]
  rfl
/-- the first of m nights in which a house misses, counted from i on; -1 -/
def vMiss : Nat → Nat → nl_O → Nat → Int
  | 0, _, _, _ => -1
  | m + 1, t, V, i => if vKeeps V i = 0 then t else vMiss m (t + 1) (vSee V i) i
theorem lp_miss {LS : Int} {n : Nat} (hn : 4 ≤ n) {h : nl_H} {i x : Nat} (hx : x ≤ 100) : ∀ (m t : Nat) {N : Int} {V : nl_O}, N + m ≤ 100000 → vok N V → (i : Int) < V 0 0 → t + m = x + 1 → ∃ W,
    nl_Rn LS cd_X5_nextMissAhead (nl_c LS n) ct_X5_nextMissAhead 1 2 [some (vO 5 0), some (vI (i : Int)), some (vI (x : Int)), some (vI (t : Int))] (so h 4 1 V) (vMiss m t V i, so h 4 1 W) := by
  intro m
  induction m with
  | zero =>
    intro t N V hN hV hi ht
    refine ⟨V, .ret ?_⟩
    rw [sg_X5_nextMissAhead_2]
    simp (disch := omega) only [nx_of, if_pos, if_neg, if_true, if_false, true_or, or_true, Int.toNat_natCast, Option.bind_some, vMiss]
  | succ m ih =>
    intro t N V hN hV hi ht
    have hc := sp_seeThrough (LS := LS) hn (h := so h 4 1 V) (o := 1) (i := i) (N := N) (by omega) (by rw [so_at]; exact hV) (by rw [so_at]; exact hi)
    rw [so_at, so_so] at hc
    simp only [vMiss]
    rcases vKeeps_in V i with hk | hk
    · refine ⟨vSee V i, .ret ?_⟩
      rw [sg_X5_nextMissAhead_2]
      simp (disch := omega) only [nx_of, if_pos, if_neg, if_true, if_false, true_or, or_true, Int.toNat_natCast, Option.bind_some, hc, hk]
    · obtain ⟨W, k9⟩ := ih (t + 1) (N := N + 1) (V := vSee V i) (by omega) (vok_see hV hi) (by rw [see_lo (by omega)]; exact hi) (by omega)
      refine ⟨W, ?_⟩
      rw [if_neg (by omega)]
      refine .go ?_ k9
      rw [sg_X5_nextMissAhead_2]
      simp (disch := omega) only [nx_of, if_pos, if_neg, if_true, if_false, true_or, or_true, Int.toNat_natCast, Option.bind_some, hc, hk]
      rfl
theorem sp_nextMiss {LS : Int} {n : Nat} (hn : 5 ≤ n) {h : nl_H} {i x : Nat} {N : Int} (hx : x ≤ 100) (hN : N ≤ 90000) (hV : vok N (h 4 1)) (hi : (i : Int) < h 4 1 0 0) : ∃ W, nl_c LS n m_X5_nextMissAhead [vO 5 0, vI (i : Int), vI (x : Int)] h = some (vMiss x 1 (h 4 1) i, so h 4 1 W) := by
  obtain ⟨n, rfl, hn1⟩ := nl_suc hn
  obtain ⟨W, k9⟩ := lp_miss (LS := LS) hn1 (h := h) (i := i) hx x 1 (N := N) (V := h 4 1) (by omega) hV hi (by omega)
  rw [so_self] at k9
  refine ⟨W, cl_X5_nextMissAhead (.go ?_ k9)⟩
  rw [sg_X5_nextMissAhead_0]
  rfl
end
section
/-! Texts: a pure parser, and the class that reads so. -/
/-- one or two figures from p on: the number, the place behind -/
def rn (T : Nat → Int) (L p : Nat) : Int × Nat :=
  if p < L ∧ 48 ≤ T p ∧ T p ≤ 57 then (if p + 1 < L ∧ 48 ≤ T (p + 1) ∧ T (p + 1) ≤ 57 then ((T p - 48) * 10 + T (p + 1) - 48, p + 2) else (T p - 48, p + 1)) else (0, p)
theorem rn_in (T : Nat → Int) (L p : Nat) : (0 ≤ (rn T L p).1 ∧ (rn T L p).1 ≤ 99) ∧ p ≤ (rn T L p).2 ∧ (rn T L p).2 ≤ p + 2 := by
  unfold rn
  split
  · split <;> (dsimp only; omega)
  · dsimp only; omega
/-- an item from p on, of hr hours and ho houses so far: the place behind, an hour or not, its numbers -/
def pItem (T : Nat → Int) (L : Nat) (hr ho : Int) (p : Nat) : Option (Nat × Bool × Int × Int × Int) :=
  if T p = 110 then
    (if (p + 1 < (rn T L (p + 1)).2 ∧ (rn T L (p + 1)).2 < L ∧ T (rn T L (p + 1)).2 = 59) ∧ hr < 7 ∧ (rn T L (p + 1)).1 ≤ 20 then some ((rn T L (p + 1)).2 + 1, true, (rn T L (p + 1)).1, 0, 0) else none)
  else if T p = 104 then
    (if (p + 1 < (rn T L (p + 1)).2 ∧ (rn T L (p + 1)).2 < L ∧ T (rn T L (p + 1)).2 = 44) ∧
        ((rn T L (p + 1)).2 + 1 < (rn T L ((rn T L (p + 1)).2 + 1)).2 ∧ (rn T L ((rn T L (p + 1)).2 + 1)).2 < L ∧ T (rn T L ((rn T L (p + 1)).2 + 1)).2 = 44) ∧
        ((rn T L ((rn T L (p + 1)).2 + 1)).2 + 1 < (rn T L ((rn T L ((rn T L (p + 1)).2 + 1)).2 + 1)).2 ∧ (rn T L ((rn T L ((rn T L (p + 1)).2 + 1)).2 + 1)).2 < L ∧ T (rn T L ((rn T L ((rn T L (p + 1)).2 + 1)).2 + 1)).2 = 59) ∧
        ho < hr ∧ (rn T L (p + 1)).1 ≤ 3 ∧ (rn T L ((rn T L (p + 1)).2 + 1)).1 ≤ 40 ∧ (rn T L ((rn T L ((rn T L (p + 1)).2 + 1)).2 + 1)).1 ≤ 99
      then some ((rn T L ((rn T L ((rn T L (p + 1)).2 + 1)).2 + 1)).2 + 1, false, (rn T L (p + 1)).1, (rn T L ((rn T L (p + 1)).2 + 1)).1, (rn T L ((rn T L ((rn T L (p + 1)).2 + 1)).2 + 1)).1) else none)
  else none
/-- an item laid behind the others -/
def pStep (Q : nl_O) (b : Bool) (x y z : Int) : nl_O := if b then vu (vu Q 0 (Q 5 0).toNat x) 5 0 (Q 5 0 + 1) else vu (vu (vu (vu Q 1 (Q 6 0).toNat x) 2 (Q 6 0).toNat y) 3 (Q 6 0).toNat z) 6 0 (Q 6 0 + 1)
def pAll (T : Nat → Int) (L : Nat) : Nat → Nat → nl_O → Int × nl_O
  | 0, _, Q => (-1, Q)
  | d + 1, p, Q => if L ≤ p then (-1, Q) else match pItem T L (Q 5 0) (Q 6 0) p with
    | none => ((p : Int), Q)
    | some (e, b, x, y, z) => pAll T L d e (pStep Q b x y z)
/-- a text of L letters -/
def tok (T : Nat → Int) (L : Nat) : Prop := L ≤ 200 ∧ ∀ i, i < L → 32 ≤ T i ∧ T i ≤ 126
theorem sp_readNumber {LS : Int} {n : Nat} (hn : 2 ≤ n) {h : nl_H} {L p i : Nat} (hT : tok (h 5 0 0) L) (hp : p ≤ 300) (hi : i < 3) : nl_c LS n m_X1_readNumber [vO 1 0, vA 5 0 0, vI (L : Int), vI (p : Int), vI (i : Int)] h = some (((rn (h 5 0 0) L p).2 : Int), so h 1 0 (vu (h 1 0) 4 i (rn (h 5 0 0) L p).1)) := by
  obtain ⟨n, rfl, hn1⟩ := nl_suc hn
  have hL := hT.1
  have hw : ∀ j : Nat, j < L → nl_c LS n m_X5_isWithin [vI (h 5 0 0 j), vI 48, vI 57] h = some (if 48 ≤ h 5 0 0 j ∧ h 5 0 0 j ≤ 57 then 1 else 0, h) := fun j hj => by
    have := hT.2 j hj
    exact sp_isWithin hn1 ⟨by omega, by omega⟩ ⟨by omega, by omega⟩ ⟨by omega, by omega⟩
  refine cl_X1_readNumber (.go (pc' := 6) (by rw [sg_X1_readNumber_0]) ?_)
  unfold rn
  have stop : ∀ (q : Nat) (x : Int), q ≤ 400 → -100 ≤ x → x ≤ 100 → (L ≤ q ∨ p + 2 ≤ q ∨ ¬ (48 ≤ h 5 0 0 q ∧ h 5 0 0 q ≤ 57)) → nl_Rn LS cd_X1_readNumber (nl_c LS n) ct_X1_readNumber 1 6 [some (vO 1 0), some (vA 5 0 0), some (vI (L : Int)), some (vI (p : Int)), some (vI (i : Int)), some (vI x), some (vI (q : Int))] h ((q : Int), so h 1 0 (vu (h 1 0) 4 i x)) := by
    intro q x hq hx1 hx2 hs
    refine .ret ?_
    rw [sg_X1_readNumber_6]
    by_cases q1 : L ≤ q
    · simp (disch := omega) only [nx_of, if_pos, if_neg, if_true, if_false, true_or, or_true, Int.toNat_natCast, Option.bind_some, up_so]
    · by_cases q2 : p + 2 ≤ q
      · simp (disch := omega) only [nx_of, if_pos, if_neg, if_true, if_false, true_or, or_true, Int.toNat_natCast, Option.bind_some, up_so]
      · have q3 : ¬ (48 ≤ h 5 0 0 q ∧ h 5 0 0 q ≤ 57) := by omega
        have := hT.2 q (by omega)
        simp (disch := omega) only [nx_of, if_pos, if_neg, if_true, if_false, true_or, or_true, Int.toNat_natCast, Option.bind_some, hw q (by omega), q3, up_so]
  have step : ∀ (q : Nat) (x : Int) (r : Int × nl_H), q ≤ 400 → q < L → q < p + 2 → (48 ≤ h 5 0 0 q ∧ h 5 0 0 q ≤ 57) → nl_Rn LS cd_X1_readNumber (nl_c LS n) ct_X1_readNumber 1 6 [some (vO 1 0), some (vA 5 0 0), some (vI (L : Int)), some (vI (p : Int)), some (vI (i : Int)), some (vI (x * 10 + h 5 0 0 q - 48)), some (vI ((q + 1 : Nat) : Int))] h r → nl_Rn LS cd_X1_readNumber (nl_c LS n) ct_X1_readNumber 1 6 [some (vO 1 0), some (vA 5 0 0), some (vI (L : Int)), some (vI (p : Int)), some (vI (i : Int)), some (vI x), some (vI (q : Int))] h r := by
    intro q x r hq q1 q2 q3 k
    refine .go ?_ k
    rw [sg_X1_readNumber_6]
    simp (disch := omega) only [nx_of, if_pos, if_neg, if_true, if_false, true_or, or_true, Int.toNat_natCast, Option.bind_some, hw q q1, q3, and_self]
    rfl
  by_cases a1 : p < L ∧ 48 ≤ h 5 0 0 p ∧ h 5 0 0 p ≤ 57
  · rw [if_pos a1]
    refine step p 0 _ (by omega) a1.1 (by omega) a1.2 ?_
    by_cases a2 : p + 1 < L ∧ 48 ≤ h 5 0 0 (p + 1) ∧ h 5 0 0 (p + 1) ≤ 57
    · rw [if_pos a2]
      refine step (p + 1) _ _ (by omega) a2.1 (by omega) a2.2 ?_
      have := stop (p + 2) ((0 * 10 + h 5 0 0 p - 48) * 10 + h 5 0 0 (p + 1) - 48) (by omega) (by omega) (by omega) (by omega)
      rw [show (0 * 10 + h 5 0 0 p - 48) * 10 + h 5 0 0 (p + 1) - 48 = (h 5 0 0 p - 48) * 10 + h 5 0 0 (p + 1) - 48 by omega] at this ⊢
      exact this
    · rw [if_neg a2]
      have := stop (p + 1) (0 * 10 + h 5 0 0 p - 48) (by omega) (by omega) (by omega) (by omega)
      rw [show 0 * 10 + h 5 0 0 p - 48 = h 5 0 0 p - 48 by omega] at this ⊢
      exact this
  · rw [if_neg a1]
    exact stop p 0 (by omega) (by omega) (by omega) (by omega)
/-- the same but for the numbers read -/
def pEq (P Q : nl_O) : Prop := ∀ k, k ≠ 4 → P k = Q k
theorem sp_addHour {LS : Int} {n : Nat} (hn : 1 ≤ n) {h : nl_H} (h5 : 0 ≤ h 1 0 5 0 ∧ h 1 0 5 0 ≤ 7) (h4 : 0 ≤ h 1 0 4 0 ∧ h 1 0 4 0 ≤ 99) : nl_c LS n m_X1_addHour [vO 1 0] h = some (if h 1 0 5 0 < 7 ∧ h 1 0 4 0 ≤ 20 then (1, so h 1 0 (pStep (h 1 0) true (h 1 0 4 0) 0 0)) else (0, h)) := by
  obtain ⟨n, rfl, hn1⟩ := nl_suc hn
  refine cl_X1_addHour (.ret ?_)
  rw [sg_X1_addHour_0]
  have e0 : nl_nz 0 = 0 := nx_of (by omega) (by omega)
  obtain ⟨f, hf⟩ : ∃ f : Nat, h 1 0 5 0 = f := ⟨(h 1 0 5 0).toNat, by omega⟩
  simp only [e0, Int.toNat_zero]
  unfold pStep
  by_cases a1 : h 1 0 5 0 < 7 <;> by_cases a2 : h 1 0 4 0 ≤ 20 <;> simp (disch := omega) only [nx_of, if_pos, if_neg, if_true, if_false, true_or, or_true, Int.toNat_natCast, Option.bind_some, up_so, so_at, so_so, vu_k, hf]
theorem sp_addHouse {LS : Int} {n : Nat} (hn : 1 ≤ n) {h : nl_H} (h5 : 0 ≤ h 1 0 5 0 ∧ h 1 0 5 0 ≤ 7) (h6 : 0 ≤ h 1 0 6 0 ∧ h 1 0 6 0 ≤ h 1 0 5 0) (h4 : ∀ j, j < 3 → 0 ≤ h 1 0 4 j ∧ h 1 0 4 j ≤ 99) : nl_c LS n m_X1_addHouse [vO 1 0] h = some (if h 1 0 6 0 < h 1 0 5 0 ∧ h 1 0 4 0 ≤ 3 ∧ h 1 0 4 1 ≤ 40 ∧ h 1 0 4 2 ≤ 99 then (1, so h 1 0 (pStep (h 1 0) false (h 1 0 4 0) (h 1 0 4 1) (h 1 0 4 2))) else (0, h)) := by
  obtain ⟨n, rfl, hn1⟩ := nl_suc hn
  refine cl_X1_addHouse (.ret ?_)
  rw [sg_X1_addHouse_0]
  have e0 : nl_nz 0 = 0 := nx_of (by omega) (by omega)
  have e1 : nl_nz 1 = 1 := nx_of (by omega) (by omega)
  have e2 : nl_nz 2 = 2 := nx_of (by omega) (by omega)
  have b0 := h4 0 (by omega)
  have b1 := h4 1 (by omega)
  have b2 := h4 2 (by omega)
  obtain ⟨f, hf⟩ : ∃ f : Nat, h 1 0 6 0 = f := ⟨(h 1 0 6 0).toNat, by omega⟩
  simp only [e0, e1, e2, Int.toNat_zero, Int.toNat_one, show (2 : Int).toNat = 2 from rfl]
  unfold pStep
  by_cases a0 : h 1 0 6 0 < h 1 0 5 0
  · by_cases a1 : h 1 0 4 0 ≤ 3
    · by_cases a2 : h 1 0 4 1 ≤ 40 <;> simp (disch := omega) only [nx_of, if_pos, if_neg, if_true, if_false, true_or, or_true, Int.toNat_natCast, Option.bind_some, up_so, so_at, so_so, vu_k, vu_ne, hf, Bool.false_eq_true]
    · simp (disch := omega) only [nx_of, if_pos, if_neg, if_true, if_false, true_or, or_true, Int.toNat_natCast, Option.bind_some]
  · simp (disch := omega) only [nx_of, if_pos, if_neg, if_true, if_false, true_or, or_true, Int.toNat_natCast, Option.bind_some]
end
section
/-! Items, texts. -/
theorem pEq_refl (P : nl_O) : pEq P P := fun _ _ => rfl
theorem pEq_trans {P Q R : nl_O} (a : pEq P Q) (b : pEq Q R) : pEq P R := fun k hk => (a k hk).trans (b k hk)
theorem pEq_vu {P : nl_O} {i : Nat} {x : Int} : pEq (vu P 4 i x) P := fun k hk => by
  funext j
  exact vu_k hk
theorem pEq_step {P Q : nl_O} (e : pEq P Q) (b : Bool) (x y z : Int) : pEq (pStep P b x y z) (pStep Q b x y z) := by
  intro k hk
  have e5 := e 5 (by omega)
  have e6 := e 6 (by omega)
  have ek := e k hk
  unfold pStep
  cases b with
  | true =>
    simp only [if_true]
    funext j
    unfold vu
    rw [e5, ek]
  | false =>
    simp only [Bool.false_eq_true, if_false]
    funext j
    unfold vu
    rw [e6, ek]
/-- the place behind an item's numbers -/
theorem lp_item {LS : Int} {n : Nat} (hn : 2 ≤ n) {h : nl_H} {L at9 : Nat} {y4 w : Int} (hT : tok (h 5 0 0) L) (hy : y4 = 0 ∨ y4 = 1) {P : nl_O} {i p : Nat} (w8 w9 : Option nl_V) (hi : i < 3) (hp : p ≤ 250) (hw : (i : Int) < w) (hw3 : w ≤ 3) :
    (¬ (p < (rn (h 5 0 0) L p).2 ∧ (rn (h 5 0 0) L p).2 < L ∧ h 5 0 0 (rn (h 5 0 0) L p).2 = (if (i : Int) = w - 1 then 59 else 44)) →
      nl_Rn LS cd_X1_readItem (nl_c LS n) ct_X1_readItem 1 50 [some (vO 1 0), some (vA 5 0 0), some (vI (L : Int)), some (vI (at9 : Int)), some (vI y4), some (vI w), some (vI (p : Int)), some (vI (i : Int)), w8, w9] (so h 1 0 P) (-1, so h 1 0 (vu P 4 i (rn (h 5 0 0) L p).1))) ∧
    (∀ r, (p < (rn (h 5 0 0) L p).2 ∧ (rn (h 5 0 0) L p).2 < L ∧ h 5 0 0 (rn (h 5 0 0) L p).2 = (if (i : Int) = w - 1 then 59 else 44)) → (∀ w8 w9,
      nl_Rn LS cd_X1_readItem (nl_c LS n) ct_X1_readItem 1 50 [some (vO 1 0), some (vA 5 0 0), some (vI (L : Int)), some (vI (at9 : Int)), some (vI y4), some (vI w), some (vI (((rn (h 5 0 0) L p).2 + 1 : Nat) : Int)), some (vI ((i + 1 : Nat) : Int)), w8, w9] (so h 1 0 (vu P 4 i (rn (h 5 0 0) L p).1)) r) →
      nl_Rn LS cd_X1_readItem (nl_c LS n) ct_X1_readItem 1 50 [some (vO 1 0), some (vA 5 0 0), some (vI (L : Int)), some (vI (at9 : Int)), some (vI y4), some (vI w), some (vI (p : Int)), some (vI (i : Int)), w8, w9] (so h 1 0 P) r) := by
  have hL := hT.1
  have hc := sp_readNumber (LS := LS) hn (h := so h 1 0 P) (L := L) (p := p) (i := i) (by rw [so_ne (by omega)]; exact hT) (by omega) hi
  rw [so_ne (by omega), so_at, so_so] at hc
  have hr := rn_in (h 5 0 0) L p
  generalize rn (h 5 0 0) L p = q at hc hr
  obtain ⟨v, e⟩ := q
  dsimp only at hc hr ⊢
  constructor
  · intro hz
    refine .ret ?_
    rw [sg_X1_readItem_50]
    by_cases q1 : (i : Int) = w - 1
    · rw [if_pos q1] at hz
      by_cases q2 : p < e
      · by_cases q3 : e < L
        · have := hT.2 e q3
          simp (disch := omega) only [nx_of, if_pos, if_neg, if_true, if_false, true_or, or_true, Int.toNat_natCast, Option.bind_some, hc, so_ne]
        · simp (disch := omega) only [nx_of, if_pos, if_neg, if_true, if_false, true_or, or_true, Int.toNat_natCast, Option.bind_some, hc]
      · simp (disch := omega) only [nx_of, if_pos, if_neg, if_true, if_false, true_or, or_true, Int.toNat_natCast, Option.bind_some, hc]
    · rw [if_neg q1] at hz
      by_cases q2 : p < e
      · by_cases q3 : e < L
        · have := hT.2 e q3
          simp (disch := omega) only [nx_of, if_pos, if_neg, if_true, if_false, true_or, or_true, Int.toNat_natCast, Option.bind_some, hc, so_ne]
        · simp (disch := omega) only [nx_of, if_pos, if_neg, if_true, if_false, true_or, or_true, Int.toNat_natCast, Option.bind_some, hc]
      · simp (disch := omega) only [nx_of, if_pos, if_neg, if_true, if_false, true_or, or_true, Int.toNat_natCast, Option.bind_some, hc]
  · intro r hz k
    by_cases q1 : (i : Int) = w - 1
    · rw [if_pos q1] at hz
      refine .go ?_ (k (some (vI (e : Int))) (some (vI 59)))
      rw [sg_X1_readItem_50]
      simp (disch := omega) only [nx_of, if_pos, if_neg, if_true, if_false, true_or, or_true, Int.toNat_natCast, Option.bind_some, hc, so_ne]
      rfl
    · rw [if_neg q1] at hz
      refine .go ?_ (k (some (vI (e : Int))) (some (vI 44)))
      rw [sg_X1_readItem_50]
      simp (disch := omega) only [nx_of, if_pos, if_neg, if_true, if_false, true_or, or_true, Int.toNat_natCast, Option.bind_some, hc, so_ne]
      rfl
theorem lp_itemH {LS : Int} {n : Nat} (hn : 1 ≤ n) {h : nl_H} {L at9 p : Nat} (hp : p ≤ 300) (w8 w9 : Option nl_V) {P : nl_O} (h5 : 0 ≤ P 5 0 ∧ P 5 0 ≤ 7) (h4 : 0 ≤ P 4 0 ∧ P 4 0 ≤ 99) :
    nl_Rn LS cd_X1_readItem (nl_c LS n) ct_X1_readItem 1 50 [some (vO 1 0), some (vA 5 0 0), some (vI (L : Int)), some (vI (at9 : Int)), some (vI 1), some (vI 1), some (vI (p : Int)), some (vI ((1 : Nat) : Int)), w8, w9] (so h 1 0 P) (if P 5 0 < 7 ∧ P 4 0 ≤ 20 then ((p : Int), so h 1 0 (pStep P true (P 4 0) 0 0)) else (-1, so h 1 0 P)) := by
  have hc1 := sp_addHour (LS := LS) hn (h := so h 1 0 P) (by rw [so_at]; exact h5) (by rw [so_at]; exact h4)
  rw [so_at, so_so] at hc1
  refine .ret ?_
  rw [sg_X1_readItem_50]
  by_cases q : P 5 0 < 7 ∧ P 4 0 ≤ 20
  · rw [if_pos q] at hc1 ⊢
    simp (disch := omega) only [nx_of, if_pos, if_neg, if_true, if_false, true_or, or_true, Int.toNat_natCast, Option.bind_some, hc1]
  · rw [if_neg q] at hc1 ⊢
    simp (disch := omega) only [nx_of, if_pos, if_neg, if_true, if_false, true_or, or_true, Int.toNat_natCast, Option.bind_some, hc1]
theorem lp_itemG {LS : Int} {n : Nat} (hn : 1 ≤ n) {h : nl_H} {L at9 p : Nat} (hp : p ≤ 300) (w8 w9 : Option nl_V) {P : nl_O} (h5 : 0 ≤ P 5 0 ∧ P 5 0 ≤ 7) (h6 : 0 ≤ P 6 0 ∧ P 6 0 ≤ P 5 0) (h4 : ∀ j, j < 3 → 0 ≤ P 4 j ∧ P 4 j ≤ 99) :
    nl_Rn LS cd_X1_readItem (nl_c LS n) ct_X1_readItem 1 50 [some (vO 1 0), some (vA 5 0 0), some (vI (L : Int)), some (vI (at9 : Int)), some (vI 0), some (vI 3), some (vI (p : Int)), some (vI ((3 : Nat) : Int)), w8, w9] (so h 1 0 P) (if P 6 0 < P 5 0 ∧ P 4 0 ≤ 3 ∧ P 4 1 ≤ 40 ∧ P 4 2 ≤ 99 then ((p : Int), so h 1 0 (pStep P false (P 4 0) (P 4 1) (P 4 2))) else (-1, so h 1 0 P)) := by
  have hc2 := sp_addHouse (LS := LS) hn (h := so h 1 0 P) (by rw [so_at]; exact h5) (by rw [so_at]; exact h6) (by rw [so_at]; exact h4)
  rw [so_at, so_so] at hc2
  refine .ret ?_
  rw [sg_X1_readItem_50]
  by_cases q : P 6 0 < P 5 0 ∧ P 4 0 ≤ 3 ∧ P 4 1 ≤ 40 ∧ P 4 2 ≤ 99
  · rw [if_pos q] at hc2 ⊢
    simp (disch := omega) only [nx_of, if_pos, if_neg, if_true, if_false, true_or, or_true, Int.toNat_natCast, Option.bind_some, hc2]
  · rw [if_neg q] at hc2 ⊢
    simp (disch := omega) only [nx_of, if_pos, if_neg, if_true, if_false, true_or, or_true, Int.toNat_natCast, Option.bind_some, hc2]
theorem sp_readItem {LS : Int} {n : Nat} (hn : 3 ≤ n) {h : nl_H} {L p : Nat} (hT : tok (h 5 0 0) L) (hp : p < L) (h5 : 0 ≤ h 1 0 5 0 ∧ h 1 0 5 0 ≤ 7) (h6 : 0 ≤ h 1 0 6 0 ∧ h 1 0 6 0 ≤ h 1 0 5 0) :
    ∃ P', nl_c LS n m_X1_readItem [vO 1 0, vA 5 0 0, vI (L : Int), vI (p : Int)] h = some (match pItem (h 5 0 0) L (h 1 0 5 0) (h 1 0 6 0) p with | none => -1 | some (e, _) => (e : Int), so h 1 0 P') ∧
      pEq P' (match pItem (h 5 0 0) L (h 1 0 5 0) (h 1 0 6 0) p with | none => h 1 0 | some (_, b, x, y, z) => pStep (h 1 0) b x y z) := by
  obtain ⟨n, rfl, hn1⟩ := nl_suc hn
  have hL := hT.1
  have ht := hT.2 p hp
  have e0 : nl_nz 0 = 0 := nx_of (by omega) (by omega)
  have e1 : nl_nz 1 = 1 := nx_of (by omega) (by omega)
  by_cases c1 : h 5 0 0 p = 110
  · have start : ∀ r, nl_Rn LS cd_X1_readItem (nl_c LS n) ct_X1_readItem 1 50 [some (vO 1 0), some (vA 5 0 0), some (vI (L : Int)), some (vI (p : Int)), some (vI 1), some (vI 1), some (vI ((p + 1 : Nat) : Int)), some (vI ((0 : Nat) : Int)), none, none] (so h 1 0 (h 1 0)) r → nl_c LS (n + 1) m_X1_readItem [vO 1 0, vA 5 0 0, vI (L : Int), vI (p : Int)] h = some r := by
      intro r k
      rw [so_self] at k
      refine cl_X1_readItem (.go ?_ k)
      rw [sg_X1_readItem_0]
      simp (disch := omega) only [nx_of, if_pos, if_neg, if_true, if_false, true_or, or_true, Int.toNat_natCast, Option.bind_some, e0, e1]
      rfl
    unfold pItem
    rw [if_pos c1]
    have st := lp_item (LS := LS) hn1 (h := h) (L := L) (at9 := p) (y4 := 1) (w := 1) hT (Or.inr rfl) (P := h 1 0) (i := 0) (p := p + 1) none none (by omega) (by omega) (by omega) (by omega)
    have hr := rn_in (h 5 0 0) L (p + 1)
    generalize rn (h 5 0 0) L (p + 1) = q at st hr
    obtain ⟨v, e⟩ := q
    dsimp only at st hr ⊢
    rw [if_pos (by omega)] at st
    by_cases a1 : p + 1 < e ∧ e < L ∧ h 5 0 0 e = 59
    · have en := fun w8 w9 => lp_itemH (LS := LS) (n := n) (by omega) (h := h) (L := L) (at9 := p) (p := e + 1) (by omega) w8 w9 (P := vu (h 1 0) 4 0 v) (by rw [vu_k (by omega)]; exact h5) (by rw [vu_at]; omega)
      rw [vu_at, vu_k (by omega)] at en
      have k9 := start _ (st.2 _ a1 en)
      by_cases a2 : h 1 0 5 0 < 7 ∧ v ≤ 20
      · rw [if_pos a2] at k9
        rw [if_pos ⟨a1, a2⟩]
        exact ⟨_, k9, pEq_step pEq_vu _ _ _ _⟩
      · rw [if_neg a2] at k9
        rw [if_neg (fun z => a2 z.2)]
        exact ⟨_, k9, pEq_vu⟩
    · rw [if_neg (fun z => a1 z.1)]
      exact ⟨_, start _ (st.1 a1), pEq_vu⟩
  · by_cases c2 : h 5 0 0 p = 104
    · have start : ∀ r, nl_Rn LS cd_X1_readItem (nl_c LS n) ct_X1_readItem 1 50 [some (vO 1 0), some (vA 5 0 0), some (vI (L : Int)), some (vI (p : Int)), some (vI 0), some (vI 3), some (vI ((p + 1 : Nat) : Int)), some (vI ((0 : Nat) : Int)), none, none] (so h 1 0 (h 1 0)) r → nl_c LS (n + 1) m_X1_readItem [vO 1 0, vA 5 0 0, vI (L : Int), vI (p : Int)] h = some r := by
        intro r k
        rw [so_self] at k
        refine cl_X1_readItem (.go ?_ k)
        rw [sg_X1_readItem_0]
        simp (disch := omega) only [nx_of, if_pos, if_neg, if_true, if_false, true_or, or_true, Int.toNat_natCast, Option.bind_some, e0, e1]
        rfl
      unfold pItem
      rw [if_neg c1, if_pos c2]
      have s1 := lp_item (LS := LS) hn1 (h := h) (L := L) (at9 := p) (y4 := 0) (w := 3) hT (Or.inl rfl) (P := h 1 0) (i := 0) (p := p + 1) none none (by omega) (by omega) (by omega) (by omega)
      have hr1 := rn_in (h 5 0 0) L (p + 1)
      generalize rn (h 5 0 0) L (p + 1) = q1 at s1 hr1
      obtain ⟨v1, f1⟩ := q1
      dsimp only at s1 hr1 ⊢
      rw [if_neg (by omega)] at s1
      by_cases a1 : p + 1 < f1 ∧ f1 < L ∧ h 5 0 0 f1 = 44
      · have s2 := fun w8 w9 => lp_item (LS := LS) hn1 (h := h) (L := L) (at9 := p) (y4 := 0) (w := 3) hT (Or.inl rfl) (P := vu (h 1 0) 4 0 v1) (i := 1) (p := f1 + 1) w8 w9 (by omega) (by omega) (by omega) (by omega)
        have hr2 := rn_in (h 5 0 0) L (f1 + 1)
        generalize rn (h 5 0 0) L (f1 + 1) = q2 at s2 hr2
        obtain ⟨v2, f2⟩ := q2
        dsimp only at s2 hr2 ⊢
        rw [if_neg (by omega)] at s2
        by_cases a2 : f1 + 1 < f2 ∧ f2 < L ∧ h 5 0 0 f2 = 44
        · have s3 := fun w8 w9 => lp_item (LS := LS) hn1 (h := h) (L := L) (at9 := p) (y4 := 0) (w := 3) hT (Or.inl rfl) (P := vu (vu (h 1 0) 4 0 v1) 4 1 v2) (i := 2) (p := f2 + 1) w8 w9 (by omega) (by omega) (by omega) (by omega)
          have hr3 := rn_in (h 5 0 0) L (f2 + 1)
          generalize rn (h 5 0 0) L (f2 + 1) = q3 at s3 hr3
          obtain ⟨v3, f3⟩ := q3
          dsimp only at s3 hr3 ⊢
          rw [if_pos (by omega)] at s3
          have pe : pEq (vu (vu (vu (h 1 0) 4 0 v1) 4 1 v2) 4 2 v3) (h 1 0) := pEq_trans pEq_vu (pEq_trans pEq_vu pEq_vu)
          by_cases a3 : f2 + 1 < f3 ∧ f3 < L ∧ h 5 0 0 f3 = 59
          · have n0 : vu (vu (vu (h 1 0) 4 0 v1) 4 1 v2) 4 2 v3 4 0 = v1 := by rw [vu_ne (by omega), vu_ne (by omega), vu_at]
            have n1 : vu (vu (vu (h 1 0) 4 0 v1) 4 1 v2) 4 2 v3 4 1 = v2 := by rw [vu_ne (by omega), vu_at]
            have n2 : vu (vu (vu (h 1 0) 4 0 v1) 4 1 v2) 4 2 v3 4 2 = v3 := vu_at
            have m5 : vu (vu (vu (h 1 0) 4 0 v1) 4 1 v2) 4 2 v3 5 0 = h 1 0 5 0 := by rw [pe 5 (by omega)]
            have m6 : vu (vu (vu (h 1 0) 4 0 v1) 4 1 v2) 4 2 v3 6 0 = h 1 0 6 0 := by rw [pe 6 (by omega)]
            have en := fun w8 w9 => lp_itemG (LS := LS) (n := n) (by omega) (h := h) (L := L) (at9 := p) (p := f3 + 1) (by omega) w8 w9 (P := vu (vu (vu (h 1 0) 4 0 v1) 4 1 v2) 4 2 v3) (by rw [m5]; exact h5) (by rw [m5, m6]; exact h6) (fun j hj => by
              rcases (show j = 0 ∨ j = 1 ∨ j = 2 by omega) with rfl | rfl | rfl
              · rw [n0]; omega
              · rw [n1]; omega
              · rw [n2]; omega)
            rw [n0, n1, n2, m5, m6] at en
            have k9 := start _ (s1.2 _ a1 (fun w8 w9 => (s2 w8 w9).2 _ a2 (fun w8 w9 => (s3 w8 w9).2 _ a3 en)))
            by_cases a4 : h 1 0 6 0 < h 1 0 5 0 ∧ v1 ≤ 3 ∧ v2 ≤ 40 ∧ v3 ≤ 99
            · rw [if_pos a4] at k9
              rw [if_pos ⟨a1, a2, a3, a4⟩]
              exact ⟨_, k9, pEq_step pe _ _ _ _⟩
            · rw [if_neg a4] at k9
              rw [if_neg (fun z => a4 z.2.2.2)]
              exact ⟨_, k9, pe⟩
          · rw [if_neg (fun z => a3 z.2.2.1)]
            exact ⟨_, start _ (s1.2 _ a1 (fun w8 w9 => (s2 w8 w9).2 _ a2 (fun w8 w9 => (s3 w8 w9).1 a3))), pe⟩
        · rw [if_neg (fun z => a2 z.2.1)]
          exact ⟨_, start _ (s1.2 _ a1 (fun w8 w9 => (s2 w8 w9).1 a2)), pEq_trans pEq_vu pEq_vu⟩
      · rw [if_neg (fun z => a1 z.1)]
        exact ⟨_, start _ (s1.1 a1), pEq_vu⟩
    · unfold pItem
      rw [if_neg c1, if_neg c2]
      refine ⟨h 1 0, cl_X1_readItem (.ret ?_), pEq_refl _⟩
      rw [sg_X1_readItem_0, so_self]
      simp (disch := omega) only [nx_of, if_pos, if_neg, if_true, if_false, true_or, or_true, Int.toNat_natCast, Option.bind_some, e0, e1]
theorem pItem_in {T : Nat → Int} {L : Nat} {hr ho : Int} {p e : Nat} {b : Bool} {x y z : Int} (hI : pItem T L hr ho p = some (e, b, x, y, z)) : p < e ∧ e ≤ L ∧ (b = true → hr < 7 ∧ 0 ≤ x ∧ x ≤ 20) ∧ (b = false → ho < hr ∧ (0 ≤ x ∧ x ≤ 3) ∧ (0 ≤ y ∧ y ≤ 40) ∧ 0 ≤ z ∧ z ≤ 99) := by
  unfold pItem at hI
  split at hI
  · have r1 := rn_in T L (p + 1)
    split at hI
    · rename_i q
      cases hI
      exact ⟨by omega, by omega, fun _ => by omega, fun h => by cases h⟩
    · cases hI
  · split at hI
    · have r1 := rn_in T L (p + 1)
      generalize rn T L (p + 1) = q1 at hI r1
      have r2 := rn_in T L (q1.2 + 1)
      generalize rn T L (q1.2 + 1) = q2 at hI r2
      have r3 := rn_in T L (q2.2 + 1)
      generalize rn T L (q2.2 + 1) = q3 at hI r3
      split at hI
      · rename_i q
        cases hI
        exact ⟨by omega, by omega, (fun h => by cases h), fun _ => by omega⟩
      · cases hI
    · cases hI
end
section
/-! Texts as a whole. -/
/-- a plan so far -/
def pok (Q : nl_O) : Prop := (0 ≤ Q 5 0 ∧ Q 5 0 ≤ 7) ∧ (0 ≤ Q 6 0 ∧ Q 6 0 ≤ Q 5 0) ∧ (∀ i : Nat, (i : Int) < Q 5 0 → 0 ≤ Q 0 i ∧ Q 0 i ≤ 20) ∧ (∀ i : Nat, (i : Int) < Q 6 0 → (0 ≤ Q 1 i ∧ Q 1 i ≤ 3) ∧ (0 ≤ Q 2 i ∧ Q 2 i ≤ 40) ∧ 0 ≤ Q 3 i ∧ Q 3 i ≤ 99)
theorem pok_step {Q : nl_O} (hQ : pok Q) {b : Bool} {x y z : Int} (h1 : b = true → Q 5 0 < 7 ∧ 0 ≤ x ∧ x ≤ 20) (h2 : b = false → Q 6 0 < Q 5 0 ∧ (0 ≤ x ∧ x ≤ 3) ∧ (0 ≤ y ∧ y ≤ 40) ∧ 0 ≤ z ∧ z ≤ 99) : pok (pStep Q b x y z) := by
  obtain ⟨a1, a2, a3, a4⟩ := hQ
  cases b with
  | true =>
    have h1 := h1 rfl
    unfold pStep pok
    simp only [if_true, vu_at, vu_k (show 6 ≠ 5 by omega), vu_k (show 0 ≠ 5 by omega), vu_k (show 1 ≠ 5 by omega), vu_k (show 2 ≠ 5 by omega), vu_k (show 3 ≠ 5 by omega), vu_k (show 6 ≠ 0 by omega), vu_k (show 1 ≠ 0 by omega), vu_k (show 2 ≠ 0 by omega), vu_k (show 3 ≠ 0 by omega)]
    refine ⟨by omega, by omega, fun i hi => ?_, a4⟩
    by_cases q : i = (Q 5 0).toNat
    · subst q
      rw [vu_at]
      omega
    · rw [vu_ne (fun z => q z.2)]
      exact a3 i (by omega)
  | false =>
    have h2 := h2 rfl
    unfold pStep pok
    simp only [Bool.false_eq_true, if_false, vu_at, vu_k (show 5 ≠ 6 by omega), vu_k (show 0 ≠ 6 by omega), vu_k (show 1 ≠ 6 by omega), vu_k (show 2 ≠ 6 by omega), vu_k (show 3 ≠ 6 by omega), vu_k (show 5 ≠ 3 by omega), vu_k (show 0 ≠ 3 by omega), vu_k (show 1 ≠ 3 by omega), vu_k (show 2 ≠ 3 by omega), vu_k (show 5 ≠ 2 by omega), vu_k (show 0 ≠ 2 by omega), vu_k (show 1 ≠ 2 by omega), vu_k (show 5 ≠ 1 by omega), vu_k (show 0 ≠ 1 by omega)]
    refine ⟨a1, by omega, a3, fun i hi => ?_⟩
    by_cases q : i = (Q 6 0).toNat
    · subst q
      rw [vu_at, vu_at, vu_at]
      omega
    · have e1 : ∀ (V : nl_O) (k : Nat) (x : Int), vu V k (Q 6 0).toNat x k i = V k i := fun V k x => vu_ne fun z => q z.2
      simp only [e1, vu_k (show 3 ≠ 2 by omega), vu_k (show 3 ≠ 1 by omega), vu_k (show 2 ≠ 1 by omega)]
      exact a4 i (by omega)
theorem pAll_cong (T : Nat → Int) (L : Nat) : ∀ (d p : Nat) {P Q : nl_O}, pEq P Q → (pAll T L d p P).1 = (pAll T L d p Q).1 ∧ pEq (pAll T L d p P).2 (pAll T L d p Q).2 := by
  intro d
  induction d with
  | zero => intro p P Q e; exact ⟨rfl, e⟩
  | succ d ih =>
    intro p P Q e
    simp only [pAll]
    rw [e 5 (by omega), e 6 (by omega)]
    split
    · exact ⟨rfl, e⟩
    · split
      · exact ⟨rfl, e⟩
      · exact ih _ (pEq_step e _ _ _ _)
theorem pAll_in (T : Nat → Int) (L : Nat) : ∀ (d p : Nat) {Q : nl_O}, pok Q → pok (pAll T L d p Q).2 ∧ -1 ≤ (pAll T L d p Q).1 ∧ (pAll T L d p Q).1 ≤ L := by
  intro d
  induction d with
  | zero => intro p Q hQ; exact ⟨hQ, by simp only [pAll]; omega, by simp only [pAll]; omega⟩
  | succ d ih =>
    intro p Q hQ
    simp only [pAll]
    split
    · exact ⟨hQ, by dsimp only; omega, by dsimp only; omega⟩
    · split
      · exact ⟨hQ, by dsimp only; omega, by dsimp only; omega⟩
      · rename_i e b x y z hI
        have := pItem_in hI
        exact ih _ (pok_step hQ this.2.2.1 this.2.2.2)
theorem pok_cong {P Q : nl_O} (e : pEq P Q) (h : pok Q) : pok P := by
  unfold pok at h ⊢
  rw [e 5 (by omega), e 6 (by omega), e 0 (by omega), e 1 (by omega), e 2 (by omega), e 3 (by omega)]
  exact h
/-- the same but for the numbers read and the fault -/
def pEq7 (P Q : nl_O) : Prop := ∀ k, k ≠ 4 → k ≠ 7 → P k = Q k
theorem lp_read {LS : Int} {n : Nat} (hn : 3 ≤ n) {h : nl_H} {L : Nat} (hT : tok (h 5 0 0) L) : ∀ (d p : Nat) (w : Option nl_V) {P : nl_O}, L ≤ p + d → p ≤ L → pok P → P 7 0 = -1 →
    ∃ P', nl_Rn LS cd_X1_read (nl_c LS n) ct_X1_read 0 17 [some (vO 1 0), some (vA 5 0 0), some (vI (L : Int)), some (vI (p : Int)), w] (so h 1 0 P) (0, so h 1 0 P') ∧ P' 7 0 = (pAll (h 5 0 0) L d p P).1 ∧ pEq7 P' (pAll (h 5 0 0) L d p P).2 := by
  have hL := hT.1
  intro d
  induction d with
  | zero =>
    intro p w P h1 h2 hP h7
    refine ⟨P, .ret ?_, h7, fun _ _ _ => rfl⟩
    rw [sg_X1_read_17]
    simp (disch := omega) only [nx_of, if_pos, if_neg, if_true, if_false, true_or, or_true, Int.toNat_natCast, Option.bind_some]
  | succ d ih =>
    intro p w P h1 h2 hP h7
    simp only [pAll]
    by_cases q : L ≤ p
    · rw [if_pos q]
      refine ⟨P, .ret ?_, h7, fun _ _ _ => rfl⟩
      rw [sg_X1_read_17]
      simp (disch := omega) only [nx_of, if_pos, if_neg, if_true, if_false, true_or, or_true, Int.toNat_natCast, Option.bind_some]
    · rw [if_neg q]
      obtain ⟨P1, c1, c2⟩ := sp_readItem (LS := LS) hn (h := so h 1 0 P) (L := L) (p := p) (by rw [so_ne (by omega)]; exact hT) (by omega) (by rw [so_at]; exact hP.1) (by rw [so_at]; exact hP.2.1)
      rw [so_ne (by omega), so_at, so_so] at c1
      rw [so_ne (by omega), so_at] at c2
      cases hI : pItem (h 5 0 0) L (P 5 0) (P 6 0) p with
      | none =>
        rw [hI] at c1 c2
        dsimp only at c1 c2
        refine ⟨vu P1 7 0 p, .ret ?_, vu_at, fun k k4 k7 => ?_⟩
        · rw [sg_X1_read_17]
          simp (disch := omega) only [nx_of, if_pos, if_neg, if_true, if_false, true_or, or_true, Int.toNat_natCast, Option.bind_some, c1, up_so, so_at, so_so]
        · funext j
          rw [vu_k k7, c2 k k4]
      | some r =>
        obtain ⟨e, b, x, y, z⟩ := r
        rw [hI] at c1 c2
        dsimp only at c1 c2 ⊢
        have hin := pItem_in hI
        have hok := pok_step hP hin.2.2.1 hin.2.2.2
        have h71 : P1 7 0 = -1 := by
          rw [c2 7 (by omega)]
          unfold pStep
          cases b with
          | true => rw [if_pos rfl, vu_k (by omega), vu_k (by omega)]; exact h7
          | false => rw [if_neg (by decide), vu_k (by omega), vu_k (by omega), vu_k (by omega), vu_k (by omega)]; exact h7
        obtain ⟨P', k1, k2, k3⟩ := ih e (some (vI (e : Int))) (P := P1) (by omega) (by omega) (pok_cong c2 hok) h71
        have hcg := pAll_cong (h 5 0 0) L d e c2
        refine ⟨P', .go ?_ k1, k2.trans hcg.1, fun k k4 k7 => (k3 k k4 k7).trans (hcg.2 k k4)⟩
        rw [sg_X1_read_17]
        simp (disch := omega) only [nx_of, if_pos, if_neg, if_true, if_false, true_or, or_true, Int.toNat_natCast, Option.bind_some, c1]
/-- an empty plan -/
def pNil : nl_O := fun _ _ => 0
theorem sp_read {LS : Int} {n : Nat} (hn : 4 ≤ n) {h : nl_H} {L : Nat} (hT : tok (h 5 0 0) L) :
    ∃ P', nl_c LS n m_X1_read [vO 1 0, vA 5 0 0, vI (L : Int)] h = some (0, so h 1 0 P') ∧ P' 7 0 = (pAll (h 5 0 0) L L 0 (vu (vu (h 1 0) 5 0 0) 6 0 0)).1 ∧ pEq7 P' (pAll (h 5 0 0) L L 0 (vu (vu (h 1 0) 5 0 0) 6 0 0)).2 := by
  obtain ⟨n, rfl, hn1⟩ := nl_suc hn
  have hp : pok (vu (vu (vu (h 1 0) 5 0 0) 6 0 0) 7 0 (-1)) := by
    unfold pok
    have a5 : vu (vu (vu (h 1 0) 5 0 0) 6 0 0) 7 0 (-1) 5 0 = 0 := by rw [vu_k (by omega), vu_k (by omega), vu_at]
    have a6 : vu (vu (vu (h 1 0) 5 0 0) 6 0 0) 7 0 (-1) 6 0 = 0 := by rw [vu_k (by omega), vu_at]
    rw [a5, a6]
    exact ⟨by omega, by omega, fun i hi => by omega, fun i hi => by omega⟩
  obtain ⟨P', k1, k2, k3⟩ := lp_read (LS := LS) hn1 (h := h) hT L 0 none (P := vu (vu (vu (h 1 0) 5 0 0) 6 0 0) 7 0 (-1)) (by omega) (by omega) hp vu_at
  have key : ∀ (d p : Nat) (Q : nl_O), (pAll (h 5 0 0) L d p (vu Q 7 0 (-1))).1 = (pAll (h 5 0 0) L d p Q).1 ∧ ∀ k, k ≠ 7 → (pAll (h 5 0 0) L d p (vu Q 7 0 (-1))).2 k = (pAll (h 5 0 0) L d p Q).2 k := by
    intro d
    induction d with
    | zero => intro p Q; exact ⟨rfl, fun k hk => by funext j; exact vu_k hk⟩
    | succ d ih =>
      intro p Q
      simp only [pAll]
      rw [vu_k (show 5 ≠ 7 by omega), vu_k (show 6 ≠ 7 by omega)]
      split
      · exact ⟨rfl, fun k hk => by funext j; exact vu_k hk⟩
      · split
        · exact ⟨rfl, fun k hk => by funext j; exact vu_k hk⟩
        · rename_i e b x y z hI
          have ec : pStep (vu Q 7 0 (-1)) b x y z = vu (pStep Q b x y z) 7 0 (-1) := by
            unfold pStep
            rw [vu_k (show 5 ≠ 7 by omega), vu_k (show 6 ≠ 7 by omega)]
            cases b with
            | true =>
              simp only [if_true]
              funext k j
              unfold vu
              by_cases q : k = 7
              · subst q; simp
              · simp [q]
            | false =>
              simp only [Bool.false_eq_true, if_false]
              funext k j
              unfold vu
              by_cases q : k = 7
              · subst q; simp
              · simp [q]
          rw [ec]
          exact ih _ _
  have k4 := key L 0 (vu (vu (h 1 0) 5 0 0) 6 0 0)
  refine ⟨P', cl_X1_read (.go ?_ k1), k2.trans k4.1, fun k q4 q7 => (k3 k q4 q7).trans (k4.2 k q7)⟩
  rw [sg_X1_read_0]
  simp (disch := omega) only [nx_of, if_pos, if_neg, if_true, if_false, true_or, or_true, Int.toNat_natCast, Option.bind_some, up_so, so_at, so_so]
  rfl
end
section
/-! Deal: bits, prices, the least of a set. -/
theorem bp_le {k : Nat} (hk : k < 7) : 2 ^ k ≤ 64 ∧ 1 ≤ 2 ^ k := by
  have : k = 0 ∨ k = 1 ∨ k = 2 ∨ k = 3 ∨ k = 4 ∨ k = 5 ∨ k = 6 := by omega
  rcases this with q | q | q | q | q | q | q <;> subst q <;> decide
theorem bp_z {k : Nat} (hk : k < 7) : nl_nz (1 * 2 ^ k) = ((2 ^ k : Nat) : Int) := by
  have := bp_le hk
  have e : (1 * 2 ^ k : Int) = ((2 ^ k : Nat) : Int) := by rw [Int.one_mul, Int.natCast_pow]; rfl
  rw [e]
  exact nz_nat (by omega)
theorem bs_z {S k : Nat} (hS : S < 2147483648) : nl_nz ((S : Int) / 2 ^ k) = ((S / 2 ^ k : Nat) : Int) := by
  have e : ((S : Int) / 2 ^ k) = ((S / 2 ^ k : Nat) : Int) := by rw [Int.natCast_ediv, Int.natCast_pow]; rfl
  rw [e]
  have := Nat.div_le_self S (2 ^ k)
  exact nz_nat (by omega)
theorem bs_d {S k : Nat} : ((S : Int) / 2 ^ k) = ((S / 2 ^ k : Nat) : Int) := by rw [Int.natCast_ediv, Int.natCast_pow]; rfl
theorem bt_z {S k : Nat} : ((S / 2 ^ k &&& 1 : Nat) : Int) = if S.testBit k = true then 1 else 0 := by
  rw [Nat.and_one_is_mod, Nat.testBit_eq_decide_div_mod_eq]
  simp only [decide_eq_true_eq]
  split <;> omega
theorem bo_lt {S k : Nat} (hS : S < 128) (hk : k < 7) : S ||| 2 ^ k < 128 := by
  have := bp_le hk
  exact Nat.or_lt_two_pow (n := 7) hS (by omega)
/-- how many are in a set of seven -/
def bN (S : Nat) : Nat := S % 2 + S / 2 % 2 + S / 4 % 2 + S / 8 % 2 + S / 16 % 2 + S / 32 % 2 + S / 64 % 2
def bA (x : Nat) : Nat := x / 2 &&& 1431655765
def bB (x : Nat) : Nat := x - bA x
def bC (x : Nat) : Nat := bB x &&& 858993459
def bD (x : Nat) : Nat := bB x / 4 &&& 858993459
def bE (x : Nat) : Nat := bC x + bD x
def bG (x : Nat) : Nat := bE x + bE x / 16
def bF (x : Nat) : Nat := bG x &&& 252645135
def bK (x : Nat) : Nat := bF x + bF x / 256
def bL (x : Nat) : Nat := bK x + bK x / 65536
set_option maxRecDepth 20000 in
theorem b_all : ∀ x, x < 128 → bA x ≤ x ∧ bC x < 200 ∧ bD x < 200 ∧ bF x < 300 ∧ (bL x &&& 63) = bN x := by decide
theorem sp_bitCount {LS : Int} {n : Nat} (hn : 1 ≤ n) {h : nl_H} {x : Nat} (hx : x < 128) : nl_c LS n m_J6_bitCount [vI (x : Int)] h = some (((bN x : Nat) : Int), h) := by
  obtain ⟨n, rfl, hn1⟩ := nl_suc hn
  obtain ⟨b1, b2, b3, b4, b5⟩ := b_all x hx
  refine cl_J6_bitCount (.ret ?_)
  rw [sg_J6_bitCount_0f7a4_0]
  have l1 : nl_nz 1 = 1 := nx_of (by omega) (by omega)
  have l2 : nl_nz 2 = 2 := nx_of (by omega) (by omega)
  have l4 : nl_nz 4 = 4 := nx_of (by omega) (by omega)
  have l8 : nl_nz 8 = 8 := nx_of (by omega) (by omega)
  have l16 : nl_nz 16 = 16 := nx_of (by omega) (by omega)
  have l63 : nl_nz 63 = 63 := nx_of (by omega) (by omega)
  have m1 : nl_nz 1431655765 = 1431655765 := nx_of (by omega) (by omega)
  have m2 : nl_nz 858993459 = 858993459 := nx_of (by omega) (by omega)
  have m3 : nl_nz 252645135 = 252645135 := nx_of (by omega) (by omega)
  have t1 : (1 : Int).toNat = 1 := rfl
  have t2 : (2 : Int).toNat = 2 := rfl
  have t4 : (4 : Int).toNat = 4 := rfl
  have t8 : (8 : Int).toNat = 8 := rfl
  have t16 : (16 : Int).toNat = 16 := rfl
  have t63 : (63 : Int).toNat = 63 := rfl
  have u1 : (1431655765 : Int).toNat = 1431655765 := rfl
  have u2 : (858993459 : Int).toNat = 858993459 := rfl
  have u3 : (252645135 : Int).toNat = 252645135 := rfl
  rw [l1, l2, l4, l8, l16, l63, m1, m2, m3, t1, t2, t4, t8, t16, t63, u1, u2, u3]
  have q1 : nl_nz (x : Int) = x := nz_nat (by omega)
  have q2 : nl_nz ((x : Int) / 2 ^ 1) = ((x / 2 : Nat) : Int) := bs_z (k := 1) (by omega)
  rw [q1, q2, Int.toNat_natCast]
  have q3 : (x : Int) - ((x / 2 &&& 1431655765 : Nat) : Int) = (bB x : Nat) := by
    show (x : Int) - (bA x : Nat) = (bB x : Nat)
    unfold bB; omega
  have k1 : bB x ≤ x := by unfold bB; omega
  rw [q3]
  have q4 : nl_nz (bB x : Nat) = (bB x : Nat) := nz_nat (by omega)
  have q5 : nl_nz (((bB x : Nat) : Int) / 2 ^ 2) = ((bB x / 4 : Nat) : Int) := bs_z (k := 2) (by omega)
  rw [q4, q5, Int.toNat_natCast, Int.toNat_natCast]
  have q6 : ((bB x &&& 858993459 : Nat) : Int) + ((bB x / 4 &&& 858993459 : Nat) : Int) = (bE x : Nat) := by
    show ((bC x : Nat) : Int) + (bD x : Nat) = (bE x : Nat)
    unfold bE; omega
  have k2 : bE x < 400 := by unfold bE; omega
  rw [q6]
  have q7 : nl_nz (bE x : Nat) = (bE x : Nat) := nz_nat (by omega)
  have q8 : (((bE x : Nat) : Int) / 2 ^ 4) = ((bE x / 16 : Nat) : Int) := bs_d (k := 4)
  rw [q7, q8]
  have q9 : ((bE x : Nat) : Int) + ((bE x / 16 : Nat) : Int) = (bG x : Nat) := by unfold bG; omega
  have k3 : bG x < 500 := by unfold bG; omega
  rw [q9]
  have r1 : nl_nz (bG x : Nat) = (bG x : Nat) := nz_nat (by omega)
  rw [r1, Int.toNat_natCast]
  have r2 : bG x &&& 252645135 = bF x := rfl
  rw [r2]
  have r3 : nl_nz (bF x : Nat) = (bF x : Nat) := nz_nat (by omega)
  have r4 : (((bF x : Nat) : Int) / 2 ^ 8) = ((bF x / 256 : Nat) : Int) := bs_d (k := 8)
  rw [r3, r4]
  have r5 : ((bF x : Nat) : Int) + ((bF x / 256 : Nat) : Int) = (bK x : Nat) := by unfold bK; omega
  have k4 : bK x < 500 := by unfold bK; omega
  rw [r5]
  have r6 : nl_nz (bK x : Nat) = (bK x : Nat) := nz_nat (by omega)
  have r7 : (((bK x : Nat) : Int) / 2 ^ 16) = ((bK x / 65536 : Nat) : Int) := bs_d (k := 16)
  rw [r6, r7]
  have r8 : ((bK x : Nat) : Int) + ((bK x / 65536 : Nat) : Int) = (bL x : Nat) := by unfold bL; omega
  have k5 : bL x < 600 := by unfold bL; omega
  rw [r8]
  have r9 : nl_nz (bL x : Nat) = (bL x : Nat) := nz_nat (by omega)
  rw [r9, Int.toNat_natCast, b5]
  simp (disch := omega) only [if_pos]
/-- the price of hour k for house i behind set S -/
def dPr (D : nl_O) (S i k : Nat) : Int := D 0 (i * 7 + k) + D 1 (S ||| 2 ^ k)
theorem sp_priceWith {LS : Int} {n : Nat} (hn : 1 ≤ n) {h : nl_H} {S i k : Nat} (hS : S < 128) (hi : i < 7) (hk : k < 7) : nl_c LS n m_X0_priceWith [vO 0 0, vI (S : Int), vI (i : Int), vI (k : Int)] h = some (dPr (h 0 0) S i k, h) := by
  obtain ⟨n, rfl, hn1⟩ := nl_suc hn
  refine cl_X0_priceWith (.ret ?_)
  rw [sg_X0_priceWith_0]
  have b1 := bo_lt hS hk
  have e1 : ((i : Int) * 7 + (k : Int)) = ((i * 7 + k : Nat) : Int) := by omega
  have e2 : nl_nz ((S ||| 2 ^ k : Nat) : Int) = (S ||| 2 ^ k : Nat) := nz_nat (by omega)
  rw [e1]
  simp (disch := omega) only [nx_of, if_pos, if_neg, if_true, if_false, true_or, or_true, Int.toNat_natCast, Option.bind_some, bp_z hk, e2]
  rfl
/-- the least price behind set S, of the hours below m -/
def dLo (D : nl_O) (S i : Nat) : Nat → Int
  | 0 => 8000
  | m + 1 => if S.testBit m = true then dLo D S i m else (if dPr D S i m < dLo D S i m then dPr D S i m else dLo D S i m)
def dLeast (D : nl_O) (S m : Nat) : Int := if bN S < m then dLo D S (bN S) m else 0
/-- prices in range -/
def dok (D : nl_O) : Prop := (∀ i k : Nat, i < 7 → k < 7 → -1000 ≤ D 0 (i * 7 + k) ∧ D 0 (i * 7 + k) ≤ 1000)
theorem bN_le (S : Nat) : bN S ≤ 7 := by unfold bN; omega
theorem lp_leastOf {LS : Int} {n : Nat} (hn : 1 ≤ n) {h : nl_H} {S i m : Nat} (hS : S < 128) (hi : i < 7) (hm : m ≤ 7) (hD : ∀ k, k < m → S.testBit k = false → -100000 ≤ dPr (h 0 0) S i k ∧ dPr (h 0 0) S i k ≤ 100000) : ∀ (d j : Nat), j + d = m → (-100000 ≤ dLo (h 0 0) S i j ∧ dLo (h 0 0) S i j ≤ 8000) → nl_Rn LS cd_X0_leastOf (nl_c LS n) ct_X0_leastOf 1 20 [some (vO 0 0), some (vI (S : Int)), some (vI (m : Int)), some (vI (i : Int)), some (vI (dLo (h 0 0) S i j)), some (vI (j : Int))] h (dLo (h 0 0) S i m, h) := by
  intro d
  induction d with
  | zero =>
    intro j hj hb
    obtain rfl : j = m := by omega
    refine .ret ?_
    rw [sg_X0_leastOf_20]
    simp (disch := omega) only [nx_of, if_pos, if_neg, if_true, if_false, true_or, or_true, Int.toNat_natCast, Option.bind_some]
  | succ d ih =>
    intro j hj hb
    have hz := bs_z (S := S) (k := j) (by omega)
    have l1 : nl_nz 1 = 1 := nx_of (by omega) (by omega)
    have t1 : (1 : Int).toNat = 1 := rfl
    have t5 : nl_nz (j : Int) = j := nz_nat (by omega)
    have t6 : nl_nz (S : Int) = S := nz_nat (by omega)
    by_cases hk : S.testBit j = true
    · have e : dLo (h 0 0) S i (j + 1) = dLo (h 0 0) S i j := by simp only [dLo]; rw [if_pos hk]
      have k9 := ih (j + 1) (by omega) (by rw [e]; exact hb)
      rw [e] at k9
      refine .go ?_ k9
      rw [sg_X0_leastOf_20, t5, t6, Int.toNat_natCast, hz, l1, t1, Int.toNat_natCast, bt_z, if_pos hk]
      simp (disch := omega) only [nx_of, if_pos, if_neg, if_true, if_false, true_or, or_true, Int.toNat_natCast, Option.bind_some]
      rfl
    · have hd := hD j (by omega) (by simpa using hk)
      have hc := sp_priceWith (LS := LS) hn (h := h) hS hi (k := j) (by omega)
      by_cases hq : dPr (h 0 0) S i j < dLo (h 0 0) S i j
      · have e : dLo (h 0 0) S i (j + 1) = dPr (h 0 0) S i j := by simp only [dLo]; rw [if_neg hk, if_pos hq]
        have k9 := ih (j + 1) (by omega) (by rw [e]; omega)
        rw [e] at k9
        refine .go ?_ k9
        rw [sg_X0_leastOf_20, t5, t6, Int.toNat_natCast, hz, l1, t1, Int.toNat_natCast, bt_z, if_neg hk]
        simp (disch := omega) only [nx_of, if_pos, if_neg, if_true, if_false, true_or, or_true, Int.toNat_natCast, Option.bind_some, hc]
        rfl
      · have e : dLo (h 0 0) S i (j + 1) = dLo (h 0 0) S i j := by simp only [dLo]; rw [if_neg hk, if_neg hq]
        have k9 := ih (j + 1) (by omega) (by rw [e]; omega)
        rw [e] at k9
        refine .go ?_ k9
        rw [sg_X0_leastOf_20, t5, t6, Int.toNat_natCast, hz, l1, t1, Int.toNat_natCast, bt_z, if_neg hk]
        simp (disch := omega) only [nx_of, if_pos, if_neg, if_true, if_false, true_or, or_true, Int.toNat_natCast, Option.bind_some, hc]
        rfl
theorem sp_leastOf {LS : Int} {n : Nat} (hn : 2 ≤ n) {h : nl_H} {S m : Nat} (hS : S < 128) (hm : m ≤ 7) (hD : ∀ k, bN S < m → k < m → S.testBit k = false → -100000 ≤ dPr (h 0 0) S (bN S) k ∧ dPr (h 0 0) S (bN S) k ≤ 100000) : nl_c LS n m_X0_leastOf [vO 0 0, vI (S : Int), vI (m : Int)] h = some (dLeast (h 0 0) S m, h) := by
  obtain ⟨n, rfl, hn1⟩ := nl_suc hn
  have hc := sp_bitCount (LS := LS) hn1 (h := h) hS
  have b1 := bN_le S
  unfold dLeast
  by_cases hq : bN S < m
  · have k9 := lp_leastOf (LS := LS) (by omega : 1 ≤ n) (h := h) (i := bN S) (m := m) hS (by omega) hm (fun k a b => hD k hq a b) m 0 (by omega) (by simp only [dLo]; omega)
    refine cl_X0_leastOf (.go ?_ (by rw [if_pos hq]; exact k9))
    rw [sg_X0_leastOf_0]
    simp (disch := omega) only [nx_of, if_pos, if_neg, if_true, if_false, true_or, or_true, Int.toNat_natCast, Option.bind_some, hc]
    rfl
  · refine cl_X0_leastOf (.ret ?_)
    rw [sg_X0_leastOf_0]
    simp (disch := omega) only [nx_of, if_pos, if_neg, if_true, if_false, true_or, or_true, Int.toNat_natCast, Option.bind_some, hc]
end
section
/-! Deal: the lowest of the least, the table, dealing out. -/
/-- the lowest hour from j on, of d, whose price is t; 0 -/
def dLow (D : nl_O) (S i : Nat) : Nat → Nat → Nat
  | 0, _ => 0
  | d + 1, j => if S.testBit j = false ∧ dPr D S i j = D 1 S then j else dLow D S i d (j + 1)
theorem dLow_in {D : nl_O} {S i : Nat} : ∀ (d j m : Nat), j + d = m → 0 < m → dLow D S i d j < m := by
  intro d
  induction d with
  | zero => intro j m _ hm; simp only [dLow]; exact hm
  | succ d ih =>
    intro j m hj hm
    simp only [dLow]
    split
    · omega
    · exact ih (j + 1) m (by omega) hm
theorem lp_lowestOfLeast {LS : Int} {n : Nat} (hn : 1 ≤ n) {h : nl_H} {S i m : Nat} (hS : S < 128) (hi : i < 7) (hm : m ≤ 7) (hT : -100000 ≤ h 0 0 1 S ∧ h 0 0 1 S ≤ 100000) (hD : ∀ k, k < m → S.testBit k = false → -100000 ≤ dPr (h 0 0) S i k ∧ dPr (h 0 0) S i k ≤ 100000) : ∀ (d j : Nat), j + d = m → nl_Rn LS cd_X0_lowestOfLeast (nl_c LS n) ct_X0_lowestOfLeast 1 3 [some (vO 0 0), some (vI (S : Int)), some (vI (i : Int)), some (vI (m : Int)), some (vI (j : Int))] h (((dLow (h 0 0) S i d j : Nat) : Int), h) := by
  intro d
  induction d with
  | zero =>
    intro j hj
    obtain rfl : j = m := by omega
    refine .ret ?_
    rw [sg_X0_lowestOfLeast_3]
    simp (disch := omega) only [nx_of, if_pos, if_neg, if_true, if_false, true_or, or_true, Int.toNat_natCast, Option.bind_some]
    rfl
  | succ d ih =>
    intro j hj
    have hz := bs_z (S := S) (k := j) (by omega)
    have l1 : nl_nz 1 = 1 := nx_of (by omega) (by omega)
    have t1 : (1 : Int).toNat = 1 := rfl
    have t5 : nl_nz (j : Int) = j := nz_nat (by omega)
    have t6 : nl_nz (S : Int) = S := nz_nat (by omega)
    have k9 := ih (j + 1) (by omega)
    by_cases hk : S.testBit j = true
    · have e : dLow (h 0 0) S i (d + 1) j = dLow (h 0 0) S i d (j + 1) := by
        simp only [dLow]; rw [if_neg (by rw [hk]; exact fun q => by cases q.1)]
      rw [e]
      refine .go ?_ k9
      rw [sg_X0_lowestOfLeast_3, t5, t6, Int.toNat_natCast, hz, l1, t1, Int.toNat_natCast, bt_z, if_pos hk]
      simp (disch := omega) only [nx_of, if_pos, if_neg, if_true, if_false, true_or, or_true, Int.toNat_natCast, Option.bind_some]
      rfl
    · have hd := hD j (by omega) (by simpa using hk)
      have hk2 : S.testBit j = false := by simpa using hk
      have hc := sp_priceWith (LS := LS) hn (h := h) hS hi (k := j) (by omega)
      by_cases hq : dPr (h 0 0) S i j = h 0 0 1 S
      · have e : dLow (h 0 0) S i (d + 1) j = j := by simp only [dLow]; rw [if_pos ⟨hk2, hq⟩]
        rw [e]
        refine .ret ?_
        rw [sg_X0_lowestOfLeast_3, t5, t6, Int.toNat_natCast, hz, l1, t1, Int.toNat_natCast, bt_z, if_neg hk]
        simp (disch := omega) only [nx_of, if_pos, if_neg, if_true, if_false, true_or, or_true, Int.toNat_natCast, Option.bind_some, hc]
        exact if_pos ⟨Int.natCast_nonneg _, by omega⟩
      · have e : dLow (h 0 0) S i (d + 1) j = dLow (h 0 0) S i d (j + 1) := by
          simp only [dLow]; rw [if_neg (fun q => hq q.2)]
        rw [e]
        refine .go ?_ k9
        rw [sg_X0_lowestOfLeast_3, t5, t6, Int.toNat_natCast, hz, l1, t1, Int.toNat_natCast, bt_z, if_neg hk]
        simp (disch := omega) only [nx_of, if_pos, if_neg, if_true, if_false, true_or, or_true, Int.toNat_natCast, Option.bind_some, hc]
        rfl
theorem sp_lowestOfLeast {LS : Int} {n : Nat} (hn : 2 ≤ n) {h : nl_H} {S i m : Nat} (hS : S < 128) (hi : i < 7) (hm : m ≤ 7) (hT : -100000 ≤ h 0 0 1 S ∧ h 0 0 1 S ≤ 100000) (hD : ∀ k, k < m → S.testBit k = false → -100000 ≤ dPr (h 0 0) S i k ∧ dPr (h 0 0) S i k ≤ 100000) : nl_c LS n m_X0_lowestOfLeast [vO 0 0, vI (S : Int), vI (i : Int), vI (m : Int)] h = some (((dLow (h 0 0) S i m 0 : Nat) : Int), h) := by
  obtain ⟨n, rfl, hn1⟩ := nl_suc hn
  have k9 := lp_lowestOfLeast (LS := LS) (by omega : 1 ≤ n) (h := h) hS hi hm hT hD m 0 (by omega)
  refine cl_X0_lowestOfLeast (.go ?_ k9)
  rw [sg_X0_lowestOfLeast_0]
  rfl
/-- two lots exchanged -/
def dEx (D : nl_O) (a b : Nat) : nl_O := vu (vu D 4 a (D 4 b)) 4 b (D 4 a)
theorem sp_exchange {LS : Int} {n : Nat} (hn : 1 ≤ n) {h : nl_H} {a b : Nat} (ha : a < 7) (hb : b < 7) : nl_c LS n m_X0_exchange [vA 0 0 4, vI (a : Int), vI (b : Int)] h = some (0, so h 0 0 (dEx (h 0 0) a b)) := by
  obtain ⟨n, rfl, hn1⟩ := nl_suc hn
  refine cl_X0_exchange (.ret ?_)
  rw [sg_X0_exchange_0]
  simp (disch := omega) only [nx_of, if_pos, if_neg, if_true, if_false, true_or, or_true, Int.toNat_natCast, Option.bind_some, up_so, so_at, so_so]
  rfl
/-- the table filled from S down -/
def dTab (D : nl_O) (m : Nat) : Nat → nl_O
  | 0 => D
  | S + 1 => dTab (vu D 1 S (dLeast D S m)) m S
theorem dTab_o {m : Nat} : ∀ (S : Nat) (D : nl_O) (k i : Nat), k ≠ 1 ∨ S ≤ i → dTab D m S k i = D k i := by
  intro S
  induction S with
  | zero => intro D k i _; rfl
  | succ S ih =>
    intro D k i hk
    simp only [dTab]
    rw [ih _ _ _ (by omega), vu_ne (by omega)]

/-- a house's kept hours below k -/
def dBits (V : nl_O) (i : Nat) : Nat → Nat
  | 0 => 0
  | k + 1 => dBits V i k ||| (if vHv V i k ≤ V 5 i - V 7 i then 2 ^ k else 0)
theorem dBits_lt {V : nl_O} {i : Nat} : ∀ k, k ≤ 7 → dBits V i k < 128 := by
  intro k
  induction k with
  | zero => intro _; simp only [dBits]; omega
  | succ k ih =>
    intro hk
    simp only [dBits]
    split
    · exact bo_lt (ih (by omega)) (by omega)
    · rw [Nat.or_zero]; exact ih (by omega)
theorem dBits_tb {V : nl_O} {i : Nat} {j : Nat} : ∀ k, (dBits V i k).testBit j = true ↔ j < k ∧ vHv V i j ≤ V 5 i - V 7 i := by
  intro k
  induction k with
  | zero =>
    simp only [dBits, Nat.zero_testBit]
    constructor
    · intro q; cases q
    · intro q; exact absurd q.1 (by omega)
  | succ k ih =>
    simp only [dBits, Nat.testBit_or, Bool.or_eq_true, ih]
    by_cases hk : vHv V i k ≤ V 5 i - V 7 i
    · rw [if_pos hk, Nat.testBit_two_pow]
      simp only [decide_eq_true_eq]
      constructor
      · rintro (q | q)
        · exact ⟨by omega, q.2⟩
        · subst q; exact ⟨by omega, hk⟩
      · rintro ⟨q1, q2⟩
        by_cases q : k = j
        · exact .inr q
        · exact .inl ⟨by omega, q2⟩
    · rw [if_neg hk, Nat.zero_testBit]
      constructor
      · rintro (q | q)
        · exact ⟨by omega, q.2⟩
        · cases q
      · rintro ⟨q1, q2⟩
        refine .inl ⟨?_, q2⟩
        by_cases q : k = j
        · subst q; exact absurd q2 hk
        · omega
/-- the price of hour k for house i -/
def dP (V : nl_O) (i k : Nat) : Int := if vHv V i k ≤ V 5 i - V 7 i then -(vHv V i k) else 1000
/-- the prices and kept bits of one house, of d hours from k on -/
def dW (D V : nl_O) (i : Nat) : Nat → Nat → nl_O
  | 0, _ => D
  | d + 1, k => dW (vu (vu D 0 (i * 7 + k) (dP V i k)) 3 i ((dBits V i (k + 1) : Nat) : Int)) V i d (k + 1)
/-- of e houses from i on -/
def dWW (D V : nl_O) : Nat → Nat → nl_O
  | 0, _ => D
  | e + 1, i => dWW (dW (vu D 3 i 0) V i (vN V) 0) V e (i + 1)
theorem lp_weighK {LS : Int} {n : Nat} (hn : 3 ≤ n) {v i : Nat} {N : Int} {V : nl_O} {r : Int × nl_H} (hN : N ≤ 100000) (hV : vok N V) (hi : (i : Int) < V 0 0) : ∀ (d k : Nat) (h : nl_H) (w : Option nl_V), h 4 v = V → h 0 0 3 i = ((dBits V i k : Nat) : Int) → (k : Int) + d = V 0 0 → (∀ w', nl_Rn LS cd_X0_weigh (nl_c LS n) ct_X0_weigh 0 2 [some (vO 0 0), some (vO 4 v), some (vI ((i + 1 : Nat) : Int)), some (vI ((k + d : Nat) : Int)), w'] (so h 0 0 (dW (h 0 0) V i d k)) r) → nl_Rn LS cd_X0_weigh (nl_c LS n) ct_X0_weigh 0 19 [some (vO 0 0), some (vO 4 v), some (vI (i : Int)), some (vI (k : Int)), w] h r := by
  have hn9 := hV.1
  intro d
  induction d with
  | zero =>
    intro k h w hv h3 hk hr
    subst hv
    refine .go ?_ (hr w)
    rw [sg_X0_weigh_19]
    simp (disch := omega) only [nx_of, if_pos, if_neg, if_true, if_false, true_or, or_true, Int.toNat_natCast, Option.bind_some, dW, so_self]
    rfl
  | succ d ih =>
    intro k h w hv h3 hk hr
    have b0 := hV.2.2.2.1 i hi
    have b1 := vHv_in hV (i := i) (k := k) (by omega)
    have b3 := dBits_lt (V := V) (i := i) k (by omega)
    have b4 := bp_le (k := k) (by omega)
    have c1 := sp_wouldKeep (LS := LS) hn (h := h) (o := v) (i := i) (k := k) (N := N) (t := V 7 i) hN (by rw [hv]; exact hV) (by rw [hv]; omega) (by rw [hv]; omega) (by omega)
    have c2 := sp_heaviness (LS := LS) (by omega : 2 ≤ n) (h := h) (o := v) (i := i) (k := k) (N := N) hN (by rw [hv]; exact hV) (by rw [hv]; omega) (by rw [hv]; omega)
    rw [hv] at c1 c2
    have e1 : ((i : Int) * 7 + (k : Int)) = ((i * 7 + k : Nat) : Int) := by omega
    have e2 : k + (d + 1) = k + 1 + d := by omega
    rw [e2] at hr
    have z0 : nl_nz 0 = 0 := nx_of (by omega) (by omega)
    have z1 : (0 : Int).toNat = 0 := rfl
    by_cases hq : vHv V i k ≤ V 5 i - V 7 i
    · have p1 : dP V i k = -(vHv V i k) := by unfold dP; rw [if_pos hq]
      have p2 : dBits V i (k + 1) = dBits V i k ||| 2 ^ k := by simp only [dBits]; rw [if_pos hq]
      have k9 := ih (k + 1) (so h 0 0 (vu (vu (h 0 0) 0 (i * 7 + k) (dP V i k)) 3 i ((dBits V i (k + 1) : Nat) : Int))) (some (vI 1)) (by rw [so_ne (by omega)]; exact hv) (by rw [so_at, vu_at]) (by omega) (by
        intro w'
        rw [so_at, so_so]
        exact hr w')
      refine .go ?_ k9
      rw [sg_X0_weigh_19, hv, e1]
      simp (disch := omega) only [nx_of, if_pos, if_neg, if_true, if_false, true_or, or_true, Int.toNat_natCast, Option.bind_some, hv, c1, c2, up_so, so_at, so_so, vu_k, h3, bp_z, p1, p2]
      rfl
    · have p1 : dP V i k = 1000 := by unfold dP; rw [if_neg hq]
      have p2 : dBits V i (k + 1) = dBits V i k := by simp only [dBits]; rw [if_neg hq, Nat.or_zero]
      have k9 := ih (k + 1) (so h 0 0 (vu (vu (h 0 0) 0 (i * 7 + k) (dP V i k)) 3 i ((dBits V i (k + 1) : Nat) : Int))) (some (vI 0)) (by rw [so_ne (by omega)]; exact hv) (by rw [so_at, vu_at]) (by omega) (by
        intro w'
        rw [so_at, so_so]
        exact hr w')
      refine .go ?_ k9
      rw [sg_X0_weigh_19, hv, e1]
      simp (disch := omega) only [nx_of, if_pos, if_neg, if_true, if_false, true_or, or_true, Int.toNat_natCast, Option.bind_some, hv, c1, up_so, so_at, so_so, vu_k, h3, z0, z1, Nat.or_zero, p1, p2]
      rfl
end
section
/-! Deal: the weighing whole, the table, dealing out, choose. -/
theorem lp_weigh {LS : Int} {n : Nat} (hn : 3 ≤ n) {v : Nat} {N : Int} {V : nl_O} (hN : N ≤ 100000) (hV : vok N V) : ∀ (e i : Nat) (h : nl_H) (w3 w4 : Option nl_V), h 4 v = V → (i : Int) + e = V 0 0 → nl_Rn LS cd_X0_weigh (nl_c LS n) ct_X0_weigh 0 2 [some (vO 0 0), some (vO 4 v), some (vI (i : Int)), w3, w4] h (0, so h 0 0 (dWW (h 0 0) V e i)) := by
  have hn9 := hV.1
  intro e
  induction e with
  | zero =>
    intro i h w3 w4 hv hi
    refine .ret ?_
    rw [sg_X0_weigh_2, hv]
    simp (disch := omega) only [nx_of, if_pos, if_neg, if_true, if_false, true_or, or_true, Int.toNat_natCast, Option.bind_some, dWW, so_self]
  | succ e ih =>
    intro i h w3 w4 hv hi
    have k8 : (vN V : Int) = V 0 0 := by unfold vN; omega
    have k9 := lp_weighK (LS := LS) hn (v := v) (r := (0, so h 0 0 (dWW (h 0 0) V (e + 1) i))) hN hV (i := i) (by omega) (vN V) 0 (so h 0 0 (vu (h 0 0) 3 i 0)) w4 (by rw [so_ne (by omega)]; exact hv) (by rw [so_at, vu_at]; rfl) (by omega) (by
      intro w'
      have k7 := ih (i + 1) (so h 0 0 (dW (vu (h 0 0) 3 i 0) V i (vN V) 0)) (some (vI ((0 + vN V : Nat) : Int))) w' (by rw [so_ne (by omega)]; exact hv) (by omega)
      rw [so_at, so_so] at k7 ⊢
      exact k7)
    refine .go ?_ k9
    rw [sg_X0_weigh_2, hv]
    simp (disch := omega) only [nx_of, if_pos, if_neg, if_true, if_false, true_or, or_true, Int.toNat_natCast, Option.bind_some, up_so]
    rfl
theorem sp_weigh {LS : Int} {n : Nat} (hn : 4 ≤ n) {h : nl_H} {v : Nat} {N : Int} (hN : N ≤ 100000) (hV : vok N (h 4 v)) : nl_c LS n m_X0_weigh [vO 0 0, vO 4 v] h = some (0, so h 0 0 (dWW (h 0 0) (h 4 v) (vN (h 4 v)) 0)) := by
  obtain ⟨n, rfl, hn1⟩ := nl_suc hn
  have hn9 := hV.1
  have k8 : (vN (h 4 v) : Int) = h 4 v 0 0 := by unfold vN; omega
  refine cl_X0_weigh (.go ?_ (lp_weigh hn1 hN hV (vN (h 4 v)) 0 h none none rfl (by omega)))
  rw [sg_X0_weigh_0]
  rfl
theorem dW_o {V : nl_O} {i : Nat} : ∀ (d k : Nat) (D : nl_O) (f j : Nat), (f ≠ 0 ∧ f ≠ 3) ∨ (f = 3 ∧ j ≠ i) ∨ (f = 0 ∧ (j < i * 7 + k ∨ i * 7 + k + d ≤ j)) → dW D V i d k f j = D f j := by
  intro d
  induction d with
  | zero => intro k D f j _; rfl
  | succ d ih =>
    intro k D f j hq
    simp only [dW]
    rw [ih (k + 1) _ f j (by omega), vu_ne (by omega), vu_ne (by omega)]
theorem dW_p {V : nl_O} {i : Nat} : ∀ (d k : Nat) (D : nl_O) (j : Nat), k ≤ j → j < k + d → dW D V i d k 0 (i * 7 + j) = dP V i j := by
  intro d
  induction d with
  | zero => intro k D j _ _; omega
  | succ d ih =>
    intro k D j h1 h2
    simp only [dW]
    by_cases q : k = j
    · subst q
      rw [dW_o _ _ _ _ _ (by omega), vu_ne (by omega), vu_at]
    · exact ih (k + 1) _ j (by omega) (by omega)
theorem dW_b {V : nl_O} {i : Nat} : ∀ (d k : Nat) (D : nl_O), D 3 i = ((dBits V i k : Nat) : Int) → dW D V i d k 3 i = ((dBits V i (k + d) : Nat) : Int) := by
  intro d
  induction d with
  | zero => intro k D h; exact h
  | succ d ih =>
    intro k D h
    simp only [dW]
    have e : k + 1 + d = k + (d + 1) := by omega
    rw [ih (k + 1) _ vu_at, e]
theorem dWW_o {V : nl_O} : ∀ (e i : Nat) (D : nl_O) (f j : Nat), (f ≠ 0 ∧ f ≠ 3) ∨ (f = 3 ∧ j < i) ∨ (f = 0 ∧ j < i * 7) → dWW D V e i f j = D f j := by
  intro e
  induction e with
  | zero => intro i D f j _; rfl
  | succ e ih =>
    intro i D f j hq
    simp only [dWW]
    rw [ih (i + 1) _ f j (by omega), dW_o _ _ _ _ _ (by omega), vu_ne (by omega)]
theorem dWW_p {V : nl_O} (hV : vN V ≤ 7) : ∀ (e i : Nat) (D : nl_O) (a b : Nat), i ≤ a → a < i + e → b < vN V → dWW D V e i 0 (a * 7 + b) = dP V a b := by
  intro e
  induction e with
  | zero => intro i D a b _ _; omega
  | succ e ih =>
    intro i D a b h1 h2 h3
    simp only [dWW]
    by_cases q : i = a
    · subst q
      rw [dWW_o _ _ _ _ _ (by omega), dW_p _ _ _ _ (by omega) (by omega)]
    · exact ih (i + 1) _ a b (by omega) (by omega) h3
theorem dWW_b {V : nl_O} : ∀ (e i : Nat) (D : nl_O) (a : Nat), i ≤ a → a < i + e → dWW D V e i 3 a = ((dBits V a (vN V) : Nat) : Int) := by
  intro e
  induction e with
  | zero => intro i D a _ _; omega
  | succ e ih =>
    intro i D a h1 h2
    simp only [dWW]
    by_cases q : i = a
    · subst q
      rw [dWW_o _ _ _ _ _ (by omega), dW_b _ _ _ (by rw [vu_at]; rfl), Nat.zero_add]
    · exact ih (i + 1) _ a (by omega) (by omega)
/-- the table stands: every set of the first m holds its least -/
def dT (D : nl_O) (m : Nat) : Prop := ∀ S, S < 2 ^ m → D 1 S = dLeast D S m
/-- the least only reads the prices and the table above -/
theorem dLo_cong {D E : nl_O} {S i : Nat} (hp : ∀ j, D 0 j = E 0 j) : ∀ m, (∀ k, k < m → S.testBit k = false → D 1 (S ||| 2 ^ k) = E 1 (S ||| 2 ^ k)) → dLo D S i m = dLo E S i m := by
  intro m
  induction m with
  | zero => intro _; rfl
  | succ m ih =>
    intro h
    have e := ih fun k a b => h k (by omega) b
    simp only [dLo]
    rw [e]
    by_cases q : S.testBit m = true
    · rw [if_pos q, if_pos q]
    · have e2 : dPr D S i m = dPr E S i m := by
        unfold dPr
        rw [hp, h m (by omega) (by simpa using q)]
      rw [if_neg q, if_neg q, e2]
theorem dLeast_cong {D E : nl_O} {S m : Nat} (hp : ∀ j, D 0 j = E 0 j) (h : ∀ k, k < m → S.testBit k = false → D 1 (S ||| 2 ^ k) = E 1 (S ||| 2 ^ k)) : dLeast D S m = dLeast E S m := by
  unfold dLeast
  rw [dLo_cong hp m h]
theorem bo_gt {S k : Nat} (h : S.testBit k = false) : S < S ||| 2 ^ k := by
  have h1 : S ≤ S ||| 2 ^ k := Nat.left_le_or
  have h2 : S ≠ S ||| 2 ^ k := by
    intro q
    have : S.testBit k = (S ||| 2 ^ k).testBit k := by rw [← q]
    rw [Nat.testBit_or, Nat.testBit_two_pow_self, h] at this
    cases this
  omega
theorem dTab_T {m : Nat} : ∀ (S : Nat) (D : nl_O), (∀ T, S ≤ T → T < 2 ^ m → D 1 T = dLeast D T m) → dT (dTab D m S) m := by
  intro S
  induction S with
  | zero => intro D h T hT; exact h T (by omega) hT
  | succ S ih =>
    intro D h
    simp only [dTab]
    refine ih _ ?_
    intro T h1 h2
    have e : dLeast (vu D 1 S (dLeast D S m)) T m = dLeast D T m := by
      refine dLeast_cong (fun j => vu_k (by omega)) ?_
      intro k _ b
      have := bo_gt b
      exact vu_ne (by omega)
    rw [e]
    by_cases q : T = S
    · subst q; exact vu_at
    · rw [vu_ne (by omega)]
      exact h T (by omega) h2
theorem bo_lt2 {S k m : Nat} (hS : S < 2 ^ m) (hk : k < m) : S ||| 2 ^ k < 2 ^ m :=
  Nat.or_lt_two_pow hS (Nat.pow_lt_pow_right (by omega) hk)
theorem bm_le {m : Nat} (hm : m ≤ 7) : 2 ^ m ≤ 128 := Nat.pow_le_pow_right (n := 2) (by omega) hm
end
