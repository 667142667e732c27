theorem tb_1 {w : Jvm.Cond} (h : w ∈ tables_1_1) : w ∈ tables_1 := List.mem_append_left _ h
theorem tb_2 {w : Jvm.Cond} (h : w ∈ tables_1_2) : w ∈ tables_1 := List.mem_append_right _ (List.mem_append_left _ h)
theorem tb_3 {w : Jvm.Cond} (h : w ∈ tables_1_3) : w ∈ tables_1 := List.mem_append_right _ (List.mem_append_right _ (List.mem_append_left _ h))
theorem tb_4 {w : Jvm.Cond} (h : w ∈ tables_1_4) : w ∈ tables_1 := List.mem_append_right _ (List.mem_append_right _ (List.mem_append_right _ h))
/-- a private method of a class that the tables say can be made, by its rows of tables_1 -/
def lw_okq (q : MethodName × Nat) : Prop := (q.1.cls ≠ "java/lang/invoke/MethodHandle" ∧ q.1.cls ≠ "java/lang/invoke/VarHandle") ∧ Cond.instantiable q.1.cls q.2 ∈ tables_1 ∧ Cond.privateMethod q.1 ∈ tables_1 ∧ Cond.instanceMethod q.1 ∈ tables_1
set_option maxRecDepth 100000 in
theorem lw_p0 : lw_okq (⟨"NightLots$Plan", "readItem", "([III)I"⟩, 8) := ⟨⟨by decide +kernel, by decide +kernel⟩, tb_1 (List.mem_of_getElem? (i := 23) rfl), tb_2 (List.mem_of_getElem? (i := 6) rfl), tb_2 (List.mem_of_getElem? (i := 7) rfl)⟩
set_option maxRecDepth 100000 in
theorem lw_p1 : lw_okq (⟨"NightLots$Plan", "readNumber", "([IIII)I"⟩, 8) := ⟨⟨by decide +kernel, by decide +kernel⟩, tb_1 (List.mem_of_getElem? (i := 23) rfl), tb_2 (List.mem_of_getElem? (i := 10) rfl), tb_2 (List.mem_of_getElem? (i := 11) rfl)⟩
set_option maxRecDepth 100000 in
theorem lw_p2 : lw_okq (⟨"NightLots$Plan", "addHour", "()Z"⟩, 8) := ⟨⟨by decide +kernel, by decide +kernel⟩, tb_1 (List.mem_of_getElem? (i := 23) rfl), tb_2 (List.mem_of_getElem? (i := 15) rfl), tb_2 (List.mem_of_getElem? (i := 16) rfl)⟩
set_option maxRecDepth 100000 in
theorem lw_p3 : lw_okq (⟨"NightLots$Plan", "addHouse", "()Z"⟩, 8) := ⟨⟨by decide +kernel, by decide +kernel⟩, tb_1 (List.mem_of_getElem? (i := 23) rfl), tb_2 (List.mem_of_getElem? (i := 19) rfl), tb_2 (List.mem_of_getElem? (i := 20) rfl)⟩
set_option maxRecDepth 100000 in
theorem lw_p4 : lw_okq (⟨"NightLots$Valley", "hourHadMost", "(I)I"⟩, 11) := ⟨⟨by decide +kernel, by decide +kernel⟩, tb_1 (List.mem_of_getElem? (i := 61) rfl), tb_2 (List.mem_of_getElem? (i := 110) rfl), tb_2 (List.mem_of_getElem? (i := 111) rfl)⟩
set_option maxRecDepth 100000 in
theorem lw_p5 : lw_okq (⟨"NightLots$Shelf", "dropOldest", "()V"⟩, 2) := ⟨⟨by decide +kernel, by decide +kernel⟩, tb_1 (List.mem_of_getElem? (i := 114) rfl), tb_2 (List.mem_of_getElem? (i := 131) rfl), tb_2 (List.mem_of_getElem? (i := 132) rfl)⟩
set_option maxRecDepth 100000 in
theorem lw_p6 : lw_okq (⟨"NightLots", "nextMissAhead", "(II)I"⟩, 9) := ⟨⟨by decide +kernel, by decide +kernel⟩, tb_1 (List.mem_of_getElem? (i := 15) rfl), tb_2 (List.mem_of_getElem? (i := 203) rfl), tb_2 (List.mem_of_getElem? (i := 204) rfl)⟩
set_option maxRecDepth 100000 in
theorem lw_p7 : lw_okq (⟨"NightLots$Deal", "weigh", "(LNightLots$Valley;)V"⟩, 6) := ⟨⟨by decide +kernel, by decide +kernel⟩, tb_1 (List.mem_of_getElem? (i := 155) rfl), tb_2 (List.mem_of_getElem? (i := 216) rfl), tb_2 (List.mem_of_getElem? (i := 217) rfl)⟩
set_option maxRecDepth 100000 in
theorem lw_p8 : lw_okq (⟨"NightLots$Deal", "leastOf", "(II)I"⟩, 6) := ⟨⟨by decide +kernel, by decide +kernel⟩, tb_1 (List.mem_of_getElem? (i := 155) rfl), tb_2 (List.mem_of_getElem? (i := 222) rfl), tb_2 (List.mem_of_getElem? (i := 223) rfl)⟩
set_option maxRecDepth 100000 in
theorem lw_p9 : lw_okq (⟨"NightLots$Deal", "priceWith", "(III)I"⟩, 6) := ⟨⟨by decide +kernel, by decide +kernel⟩, tb_1 (List.mem_of_getElem? (i := 155) rfl), tb_2 (List.mem_of_getElem? (i := 232) rfl), tb_2 (List.mem_of_getElem? (i := 233) rfl)⟩
set_option maxRecDepth 100000 in
theorem lw_p10 : lw_okq (⟨"NightLots$Deal", "dealOut", "(I)V"⟩, 6) := ⟨⟨by decide +kernel, by decide +kernel⟩, tb_1 (List.mem_of_getElem? (i := 155) rfl), tb_2 (List.mem_of_getElem? (i := 237) rfl), tb_2 (List.mem_of_getElem? (i := 238) rfl)⟩
set_option maxRecDepth 100000 in
theorem lw_p11 : lw_okq (⟨"NightLots$Deal", "lowestOfLeast", "(III)I"⟩, 6) := ⟨⟨by decide +kernel, by decide +kernel⟩, tb_1 (List.mem_of_getElem? (i := 155) rfl), tb_3 (List.mem_of_getElem? (i := 1) rfl), tb_3 (List.mem_of_getElem? (i := 2) rfl)⟩
set_option maxRecDepth 100000 in
theorem lw_p12 : lw_okq (⟨"NightLots", "fitsAllSeen", "(III)Z"⟩, 9) := ⟨⟨by decide +kernel, by decide +kernel⟩, tb_1 (List.mem_of_getElem? (i := 15) rfl), tb_3 (List.mem_of_getElem? (i := 55) rfl), tb_3 (List.mem_of_getElem? (i := 56) rfl)⟩
set_option maxRecDepth 100000 in
theorem lw_p13 : lw_okq (⟨"NightLotsModel", "firstHouse", "(IIII)V"⟩, 30) := ⟨⟨by decide +kernel, by decide +kernel⟩, tb_3 (List.mem_of_getElem? (i := 116) rfl), tb_3 (List.mem_of_getElem? (i := 122) rfl), tb_3 (List.mem_of_getElem? (i := 123) rfl)⟩
set_option maxRecDepth 100000 in
theorem lw_p14 : lw_okq (⟨"NightLotsModel", "begin", "()V"⟩, 30) := ⟨⟨by decide +kernel, by decide +kernel⟩, tb_3 (List.mem_of_getElem? (i := 116) rfl), tb_3 (List.mem_of_getElem? (i := 126) rfl), tb_3 (List.mem_of_getElem? (i := 127) rfl)⟩
set_option maxRecDepth 100000 in
theorem lw_p15 : lw_okq (⟨"NightLotsModel", "readsItem", "()Z"⟩, 30) := ⟨⟨by decide +kernel, by decide +kernel⟩, tb_3 (List.mem_of_getElem? (i := 116) rfl), tb_3 (List.mem_of_getElem? (i := 236) rfl), tb_3 (List.mem_of_getElem? (i := 237) rfl)⟩
def lw_privs_1 : List (MethodName × Nat) := [(⟨"NightLots$Plan", "readItem", "([III)I"⟩, 8), (⟨"NightLots$Plan", "readNumber", "([IIII)I"⟩, 8), (⟨"NightLots$Plan", "addHour", "()Z"⟩, 8), (⟨"NightLots$Plan", "addHouse", "()Z"⟩, 8), (⟨"NightLots$Valley", "hourHadMost", "(I)I"⟩, 11), (⟨"NightLots$Shelf", "dropOldest", "()V"⟩, 2), (⟨"NightLots", "nextMissAhead", "(II)I"⟩, 9), (⟨"NightLots$Deal", "weigh", "(LNightLots$Valley;)V"⟩, 6), (⟨"NightLots$Deal", "leastOf", "(II)I"⟩, 6), (⟨"NightLots$Deal", "priceWith", "(III)I"⟩, 6), (⟨"NightLots$Deal", "dealOut", "(I)V"⟩, 6), (⟨"NightLots$Deal", "lowestOfLeast", "(III)I"⟩, 6), (⟨"NightLots", "fitsAllSeen", "(III)Z"⟩, 9), (⟨"NightLotsModel", "firstHouse", "(IIII)V"⟩, 30), (⟨"NightLotsModel", "begin", "()V"⟩, 30), (⟨"NightLotsModel", "readsItem", "()Z"⟩, 30)]
theorem lw_r1 : ∀ q ∈ lw_privs_1, lw_okq q := List.forall_mem_cons.mpr ⟨lw_p0, List.forall_mem_cons.mpr ⟨lw_p1, List.forall_mem_cons.mpr ⟨lw_p2, List.forall_mem_cons.mpr ⟨lw_p3, List.forall_mem_cons.mpr ⟨lw_p4, List.forall_mem_cons.mpr ⟨lw_p5, List.forall_mem_cons.mpr ⟨lw_p6, List.forall_mem_cons.mpr ⟨lw_p7, List.forall_mem_cons.mpr ⟨lw_p8, List.forall_mem_cons.mpr ⟨lw_p9, List.forall_mem_cons.mpr ⟨lw_p10, List.forall_mem_cons.mpr ⟨lw_p11, List.forall_mem_cons.mpr ⟨lw_p12, List.forall_mem_cons.mpr ⟨lw_p13, List.forall_mem_cons.mpr ⟨lw_p14, List.forall_mem_cons.mpr ⟨lw_p15, fun _ h => absurd h List.not_mem_nil⟩⟩⟩⟩⟩⟩⟩⟩⟩⟩⟩⟩⟩⟩⟩⟩
set_option maxRecDepth 100000 in
theorem lw_p16 : lw_okq (⟨"NightLotsModel", "here", "()I"⟩, 30) := ⟨⟨by decide +kernel, by decide +kernel⟩, tb_3 (List.mem_of_getElem? (i := 116) rfl), tb_4 (List.mem_of_getElem? (i := 0) rfl), tb_4 (List.mem_of_getElem? (i := 1) rfl)⟩
set_option maxRecDepth 100000 in
theorem lw_p17 : lw_okq (⟨"NightLotsModel", "readsHour", "()Z"⟩, 30) := ⟨⟨by decide +kernel, by decide +kernel⟩, tb_3 (List.mem_of_getElem? (i := 116) rfl), tb_4 (List.mem_of_getElem? (i := 4) rfl), tb_4 (List.mem_of_getElem? (i := 5) rfl)⟩
set_option maxRecDepth 100000 in
theorem lw_p18 : lw_okq (⟨"NightLotsModel", "number", "(III)Z"⟩, 30) := ⟨⟨by decide +kernel, by decide +kernel⟩, tb_3 (List.mem_of_getElem? (i := 116) rfl), tb_4 (List.mem_of_getElem? (i := 8) rfl), tb_4 (List.mem_of_getElem? (i := 9) rfl)⟩
set_option maxRecDepth 100000 in
theorem lw_p19 : lw_okq (⟨"NightLotsModel", "isFigure", "()Z"⟩, 30) := ⟨⟨by decide +kernel, by decide +kernel⟩, tb_3 (List.mem_of_getElem? (i := 116) rfl), tb_4 (List.mem_of_getElem? (i := 12) rfl), tb_4 (List.mem_of_getElem? (i := 13) rfl)⟩
set_option maxRecDepth 100000 in
theorem lw_p20 : lw_okq (⟨"NightLotsModel", "readsHouse", "()Z"⟩, 30) := ⟨⟨by decide +kernel, by decide +kernel⟩, tb_3 (List.mem_of_getElem? (i := 116) rfl), tb_4 (List.mem_of_getElem? (i := 16) rfl), tb_4 (List.mem_of_getElem? (i := 17) rfl)⟩
set_option maxRecDepth 100000 in
theorem lw_p21 : lw_okq (⟨"NightLotsModel", "isOne", "(I)Z"⟩, 30) := ⟨⟨by decide +kernel, by decide +kernel⟩, tb_3 (List.mem_of_getElem? (i := 116) rfl), tb_4 (List.mem_of_getElem? (i := 29) rfl), tb_4 (List.mem_of_getElem? (i := 30) rfl)⟩
set_option maxRecDepth 100000 in
theorem lw_p22 : lw_okq (⟨"NightLotsModel", "whoHas", "(I)I"⟩, 30) := ⟨⟨by decide +kernel, by decide +kernel⟩, tb_3 (List.mem_of_getElem? (i := 116) rfl), tb_4 (List.mem_of_getElem? (i := 37) rfl), tb_4 (List.mem_of_getElem? (i := 38) rfl)⟩
set_option maxRecDepth 100000 in
theorem lw_p23 : lw_okq (⟨"NightLotsModel", "weight", "(II)I"⟩, 30) := ⟨⟨by decide +kernel, by decide +kernel⟩, tb_3 (List.mem_of_getElem? (i := 116) rfl), tb_4 (List.mem_of_getElem? (i := 45) rfl), tb_4 (List.mem_of_getElem? (i := 46) rfl)⟩
set_option maxRecDepth 100000 in
theorem lw_p24 : lw_okq (⟨"NightLotsModel", "mostOften", "(I)I"⟩, 30) := ⟨⟨by decide +kernel, by decide +kernel⟩, tb_3 (List.mem_of_getElem? (i := 116) rfl), tb_4 (List.mem_of_getElem? (i := 49) rfl), tb_4 (List.mem_of_getElem? (i := 50) rfl)⟩
set_option maxRecDepth 100000 in
theorem lw_p25 : lw_okq (⟨"NightLotsModel", "notes", "()V"⟩, 30) := ⟨⟨by decide +kernel, by decide +kernel⟩, tb_3 (List.mem_of_getElem? (i := 116) rfl), tb_4 (List.mem_of_getElem? (i := 64) rfl), tb_4 (List.mem_of_getElem? (i := 65) rfl)⟩
set_option maxRecDepth 100000 in
theorem lw_p26 : lw_okq (⟨"NightLotsModel", "lays", "([II)V"⟩, 30) := ⟨⟨by decide +kernel, by decide +kernel⟩, tb_3 (List.mem_of_getElem? (i := 116) rfl), tb_4 (List.mem_of_getElem? (i := 68) rfl), tb_4 (List.mem_of_getElem? (i := 69) rfl)⟩
set_option maxRecDepth 100000 in
theorem lw_p27 : lw_okq (⟨"NightLotsModel", "goesOn", "(I)I"⟩, 30) := ⟨⟨by decide +kernel, by decide +kernel⟩, tb_3 (List.mem_of_getElem? (i := 116) rfl), tb_4 (List.mem_of_getElem? (i := 72) rfl), tb_4 (List.mem_of_getElem? (i := 73) rfl)⟩
set_option maxRecDepth 100000 in
theorem lw_p28 : lw_okq (⟨"NightLotsModel", "passes", "()I"⟩, 30) := ⟨⟨by decide +kernel, by decide +kernel⟩, tb_3 (List.mem_of_getElem? (i := 116) rfl), tb_4 (List.mem_of_getElem? (i := 76) rfl), tb_4 (List.mem_of_getElem? (i := 77) rfl)⟩
set_option maxRecDepth 100000 in
theorem lw_p29 : lw_okq (⟨"NightLotsModel", "keeps", "(II)Z"⟩, 30) := ⟨⟨by decide +kernel, by decide +kernel⟩, tb_3 (List.mem_of_getElem? (i := 116) rfl), tb_4 (List.mem_of_getElem? (i := 80) rfl), tb_4 (List.mem_of_getElem? (i := 81) rfl)⟩
set_option maxRecDepth 100000 in
theorem lw_p30 : lw_okq (⟨"NightLotsModel", "trades", "(II)V"⟩, 30) := ⟨⟨by decide +kernel, by decide +kernel⟩, tb_3 (List.mem_of_getElem? (i := 116) rfl), tb_4 (List.mem_of_getElem? (i := 91) rfl), tb_4 (List.mem_of_getElem? (i := 92) rfl)⟩
set_option maxRecDepth 100000 in
theorem lw_p31 : lw_okq (⟨"NightLotsModel", "rests", "(I)V"⟩, 30) := ⟨⟨by decide +kernel, by decide +kernel⟩, tb_3 (List.mem_of_getElem? (i := 116) rfl), tb_4 (List.mem_of_getElem? (i := 99) rfl), tb_4 (List.mem_of_getElem? (i := 100) rfl)⟩
def lw_privs_2 : List (MethodName × Nat) := [(⟨"NightLotsModel", "here", "()I"⟩, 30), (⟨"NightLotsModel", "readsHour", "()Z"⟩, 30), (⟨"NightLotsModel", "number", "(III)Z"⟩, 30), (⟨"NightLotsModel", "isFigure", "()Z"⟩, 30), (⟨"NightLotsModel", "readsHouse", "()Z"⟩, 30), (⟨"NightLotsModel", "isOne", "(I)Z"⟩, 30), (⟨"NightLotsModel", "whoHas", "(I)I"⟩, 30), (⟨"NightLotsModel", "weight", "(II)I"⟩, 30), (⟨"NightLotsModel", "mostOften", "(I)I"⟩, 30), (⟨"NightLotsModel", "notes", "()V"⟩, 30), (⟨"NightLotsModel", "lays", "([II)V"⟩, 30), (⟨"NightLotsModel", "goesOn", "(I)I"⟩, 30), (⟨"NightLotsModel", "passes", "()I"⟩, 30), (⟨"NightLotsModel", "keeps", "(II)Z"⟩, 30), (⟨"NightLotsModel", "trades", "(II)V"⟩, 30), (⟨"NightLotsModel", "rests", "(I)V"⟩, 30)]
theorem lw_r2 : ∀ q ∈ lw_privs_2, lw_okq q := List.forall_mem_cons.mpr ⟨lw_p16, List.forall_mem_cons.mpr ⟨lw_p17, List.forall_mem_cons.mpr ⟨lw_p18, List.forall_mem_cons.mpr ⟨lw_p19, List.forall_mem_cons.mpr ⟨lw_p20, List.forall_mem_cons.mpr ⟨lw_p21, List.forall_mem_cons.mpr ⟨lw_p22, List.forall_mem_cons.mpr ⟨lw_p23, List.forall_mem_cons.mpr ⟨lw_p24, List.forall_mem_cons.mpr ⟨lw_p25, List.forall_mem_cons.mpr ⟨lw_p26, List.forall_mem_cons.mpr ⟨lw_p27, List.forall_mem_cons.mpr ⟨lw_p28, List.forall_mem_cons.mpr ⟨lw_p29, List.forall_mem_cons.mpr ⟨lw_p30, List.forall_mem_cons.mpr ⟨lw_p31, fun _ h => absurd h List.not_mem_nil⟩⟩⟩⟩⟩⟩⟩⟩⟩⟩⟩⟩⟩⟩⟩⟩
set_option maxRecDepth 100000 in
theorem lw_p32 : lw_okq (⟨"NightLotsModel", "takes", "([II)V"⟩, 30) := ⟨⟨by decide +kernel, by decide +kernel⟩, tb_3 (List.mem_of_getElem? (i := 116) rfl), tb_4 (List.mem_of_getElem? (i := 111) rfl), tb_4 (List.mem_of_getElem? (i := 112) rfl)⟩
set_option maxRecDepth 100000 in
theorem lw_p33 : lw_okq (⟨"NightLotsModel", "start", "()V"⟩, 30) := ⟨⟨by decide +kernel, by decide +kernel⟩, tb_3 (List.mem_of_getElem? (i := 116) rfl), tb_4 (List.mem_of_getElem? (i := 119) rfl), tb_4 (List.mem_of_getElem? (i := 120) rfl)⟩
set_option maxRecDepth 100000 in
theorem lw_p34 : lw_okq (⟨"NightLotsModel", "putBack", "()V"⟩, 30) := ⟨⟨by decide +kernel, by decide +kernel⟩, tb_3 (List.mem_of_getElem? (i := 116) rfl), tb_4 (List.mem_of_getElem? (i := 123) rfl), tb_4 (List.mem_of_getElem? (i := 124) rfl)⟩
set_option maxRecDepth 100000 in
theorem lw_p35 : lw_okq (⟨"NightLotsModel", "gapSet", "()I"⟩, 30) := ⟨⟨by decide +kernel, by decide +kernel⟩, tb_3 (List.mem_of_getElem? (i := 116) rfl), tb_4 (List.mem_of_getElem? (i := 131) rfl), tb_4 (List.mem_of_getElem? (i := 132) rfl)⟩
set_option maxRecDepth 100000 in
theorem lw_p36 : lw_okq (⟨"NightLotsModel", "firstRow", "()V"⟩, 30) := ⟨⟨by decide +kernel, by decide +kernel⟩, tb_3 (List.mem_of_getElem? (i := 116) rfl), tb_4 (List.mem_of_getElem? (i := 144) rfl), tb_4 (List.mem_of_getElem? (i := 145) rfl)⟩
set_option maxRecDepth 100000 in
theorem lw_p37 : lw_okq (⟨"NightLotsModel", "gapsBy", "()I"⟩, 30) := ⟨⟨by decide +kernel, by decide +kernel⟩, tb_3 (List.mem_of_getElem? (i := 116) rfl), tb_4 (List.mem_of_getElem? (i := 148) rfl), tb_4 (List.mem_of_getElem? (i := 149) rfl)⟩
set_option maxRecDepth 100000 in
theorem lw_p38 : lw_okq (⟨"NightLotsModel", "keptWeight", "()I"⟩, 30) := ⟨⟨by decide +kernel, by decide +kernel⟩, tb_3 (List.mem_of_getElem? (i := 116) rfl), tb_4 (List.mem_of_getElem? (i := 152) rfl), tb_4 (List.mem_of_getElem? (i := 153) rfl)⟩
set_option maxRecDepth 100000 in
theorem lw_p39 : lw_okq (⟨"NightLotsModel", "nextRow", "()Z"⟩, 30) := ⟨⟨by decide +kernel, by decide +kernel⟩, tb_3 (List.mem_of_getElem? (i := 116) rfl), tb_4 (List.mem_of_getElem? (i := 156) rfl), tb_4 (List.mem_of_getElem? (i := 157) rfl)⟩
set_option maxRecDepth 100000 in
theorem lw_p40 : lw_okq (⟨"NightLotsModel", "swapsTo", "()I"⟩, 30) := ⟨⟨by decide +kernel, by decide +kernel⟩, tb_3 (List.mem_of_getElem? (i := 116) rfl), tb_4 (List.mem_of_getElem? (i := 164) rfl), tb_4 (List.mem_of_getElem? (i := 165) rfl)⟩
set_option maxRecDepth 100000 in
theorem lw_p41 : lw_okq (⟨"NightLotsModel", "isSo", "()Z"⟩, 30) := ⟨⟨by decide +kernel, by decide +kernel⟩, tb_3 (List.mem_of_getElem? (i := 116) rfl), tb_4 (List.mem_of_getElem? (i := 197) rfl), tb_4 (List.mem_of_getElem? (i := 198) rfl)⟩
set_option maxRecDepth 100000 in
theorem lw_p42 : lw_okq (⟨"NightLotsModel", "tiredAll", "()I"⟩, 30) := ⟨⟨by decide +kernel, by decide +kernel⟩, tb_3 (List.mem_of_getElem? (i := 116) rfl), tb_4 (List.mem_of_getElem? (i := 221) rfl), tb_4 (List.mem_of_getElem? (i := 222) rfl)⟩
def lw_privs_3 : List (MethodName × Nat) := [(⟨"NightLotsModel", "takes", "([II)V"⟩, 30), (⟨"NightLotsModel", "start", "()V"⟩, 30), (⟨"NightLotsModel", "putBack", "()V"⟩, 30), (⟨"NightLotsModel", "gapSet", "()I"⟩, 30), (⟨"NightLotsModel", "firstRow", "()V"⟩, 30), (⟨"NightLotsModel", "gapsBy", "()I"⟩, 30), (⟨"NightLotsModel", "keptWeight", "()I"⟩, 30), (⟨"NightLotsModel", "nextRow", "()Z"⟩, 30), (⟨"NightLotsModel", "swapsTo", "()I"⟩, 30), (⟨"NightLotsModel", "isSo", "()Z"⟩, 30), (⟨"NightLotsModel", "tiredAll", "()I"⟩, 30)]
theorem lw_r3 : ∀ q ∈ lw_privs_3, lw_okq q := List.forall_mem_cons.mpr ⟨lw_p32, List.forall_mem_cons.mpr ⟨lw_p33, List.forall_mem_cons.mpr ⟨lw_p34, List.forall_mem_cons.mpr ⟨lw_p35, List.forall_mem_cons.mpr ⟨lw_p36, List.forall_mem_cons.mpr ⟨lw_p37, List.forall_mem_cons.mpr ⟨lw_p38, List.forall_mem_cons.mpr ⟨lw_p39, List.forall_mem_cons.mpr ⟨lw_p40, List.forall_mem_cons.mpr ⟨lw_p41, List.forall_mem_cons.mpr ⟨lw_p42, fun _ h => absurd h List.not_mem_nil⟩⟩⟩⟩⟩⟩⟩⟩⟩⟩⟩
def lw_privs : List (MethodName × Nat) := lw_privs_1 ++ (lw_privs_2 ++ (lw_privs_3))
def lw_tbl : List Cond := k2_sels lw_privs ++ tables_1
set_option maxRecDepth 100000 in
theorem lw_privs_ok : ∀ q ∈ lw_privs, lw_okq q := by
  show ∀ q ∈ lw_privs_1 ++ (lw_privs_2 ++ (lw_privs_3)), lw_okq q
  exact List.forall_mem_append.mpr ⟨lw_r1, List.forall_mem_append.mpr ⟨lw_r2, lw_r3⟩⟩
/-! ===== BEGIN words of one list among another's, by their places ===== -/
theorem goodIn_r {big : List Cond} (ws : List Cond) (ps : List Nat) (hp : ws = ps.filterMap (fun i => big[i]?)) (h : ws.all goodWord = true) : GoodIn big ws := by
  intro w hw
  have h1 := List.all_eq_true.mp h w hw
  rw [hp] at hw
  obtain ⟨i, -, hi⟩ := List.mem_filterMap.mp hw
  have hm : w ∈ big := by first | exact List.mem_of_getElem? hi | exact List.getElem?_mem hi
  exact ⟨hm, good_of_word h1⟩
theorem goodIn_app {big a b : List Cond} (ha : GoodIn big a) (hb : GoodIn big b) : GoodIn big (a ++ b) := fun w h => (List.mem_append.mp h).elim (ha w) (hb w)
theorem goodIn_ca {big a b : List Cond} {c : Cond} (ha : GoodIn big (c :: a)) (hb : GoodIn big b) : GoodIn big (c :: (a ++ b)) := fun w h => (List.mem_cons.mp h).elim (fun e => ha w (List.mem_cons.mpr (Or.inl e))) (fun h => (List.mem_append.mp h).elim (fun h => ha w (List.mem_cons.mpr (Or.inr h))) (hb w))
theorem goodIn_sub {big ws : List Cond} (hm : ∀ w ∈ ws, w ∈ big) (h : ws.all goodWord = true) : GoodIn big ws := fun w hw => ⟨hm w hw, good_of_word (List.all_eq_true.mp h w hw)⟩
/-! ===== END ===== -/

/-! ===== BEGIN printed: names, fields, word lists, decode rows ===== -/
def RX0 : String := "NightLots$Deal"
def TX0 : u_T := fun k => match k with
  | 0 => ("NightLots$Deal", "price", "[I", true)
  | 1 => ("NightLots$Deal", "leastBehind", "[I", true)
  | 2 => ("NightLots$Deal", "hourFor", "[I", true)
  | 3 => ("NightLots$Deal", "keepable", "[I", true)
  | 4 => ("NightLots$Deal", "lots", "[I", true)
  | _ => ("NightLots$Deal", "fewestGaps", "I", false)
def tyX0 : Nat → FieldType := fun k => match k with
  | 0 => .array .int
  | 1 => .array .int
  | 2 => .array .int
  | 3 => .array .int
  | 4 => .array .int
  | _ => .int
abbrev wsX00 : List Cond := u_ws RX0 TX0 6
theorem nmX0 : ∀ a, a < 6 → ∀ b, b < 6 → a ≠ b → (TX0 a).2.1 ≠ (TX0 b).2.1 := by decide +kernel
theorem tyX0_ok : ∀ k, k < 6 → parseFieldDescriptor (TX0 k).2.2.1 = some (tyX0 k) := by decide +kernel
abbrev cX0_init : ByteArray := prog_2_method_1_code
def yX0_init : MethodName := ⟨RX0, "<init>", "()V"⟩
abbrev cX0_choose : ByteArray := prog_2_method_2_code
def yX0_choose : MethodName := ⟨RX0, "choose", "(LNightLots$Valley;)V"⟩
abbrev cX0_weigh : ByteArray := prog_2_method_3_code
def yX0_weigh : MethodName := ⟨RX0, "weigh", "(LNightLots$Valley;)V"⟩
abbrev cX0_leastOf : ByteArray := prog_2_method_4_code
def yX0_leastOf : MethodName := ⟨RX0, "leastOf", "(II)I"⟩
abbrev cX0_priceWith : ByteArray := prog_2_method_5_code
def yX0_priceWith : MethodName := ⟨RX0, "priceWith", "(III)I"⟩
abbrev cX0_dealOut : ByteArray := prog_2_method_6_code
def yX0_dealOut : MethodName := ⟨RX0, "dealOut", "(I)V"⟩
abbrev cX0_lowestOfLeast : ByteArray := prog_2_method_7_code
def yX0_lowestOfLeast : MethodName := ⟨RX0, "lowestOfLeast", "(III)I"⟩
abbrev cX0_fewestSwaps : ByteArray := prog_2_method_8_code
def yX0_fewestSwaps : MethodName := ⟨RX0, "fewestSwaps", "(LNightLots$Valley;)I"⟩
abbrev cX0_canBridge : ByteArray := prog_2_method_9_code
def yX0_canBridge : MethodName := ⟨RX0, "canBridge", "([I[IIII)Z"⟩
abbrev cX0_exchange : ByteArray := prog_2_method_10_code
def yX0_exchange : MethodName := ⟨RX0, "exchange", "([III)V"⟩
def RX1 : String := "NightLots$Plan"
def TX1 : u_T := fun k => match k with
  | 0 => ("NightLots$Plan", "burdenOf", "[I", true)
  | 1 => ("NightLots$Plan", "kindOf", "[I", true)
  | 2 => ("NightLots$Plan", "strengthOf", "[I", true)
  | 3 => ("NightLots$Plan", "placeOf", "[I", true)
  | 4 => ("NightLots$Plan", "numbers", "[I", true)
  | 5 => ("NightLots$Plan", "hours", "I", false)
  | 6 => ("NightLots$Plan", "houses", "I", false)
  | _ => ("NightLots$Plan", "fault", "I", false)
def tyX1 : Nat → FieldType := fun k => match k with
  | 0 => .array .int
  | 1 => .array .int
  | 2 => .array .int
  | 3 => .array .int
  | 4 => .array .int
  | 5 => .int
  | 6 => .int
  | _ => .int
abbrev wsX10 : List Cond := u_ws RX1 TX1 8
theorem nmX1 : ∀ a, a < 8 → ∀ b, b < 8 → a ≠ b → (TX1 a).2.1 ≠ (TX1 b).2.1 := by decide +kernel
theorem tyX1_ok : ∀ k, k < 8 → parseFieldDescriptor (TX1 k).2.2.1 = some (tyX1 k) := by decide +kernel
abbrev cX1_init : ByteArray := prog_3_method_1_code
def yX1_init : MethodName := ⟨RX1, "<init>", "()V"⟩
abbrev cX1_read : ByteArray := prog_3_method_2_code
def yX1_read : MethodName := ⟨RX1, "read", "([II)V"⟩
abbrev cX1_canBeLaid : ByteArray := prog_3_method_3_code
def yX1_canBeLaid : MethodName := ⟨RX1, "canBeLaid", "()Z"⟩
abbrev cX1_readItem : ByteArray := prog_3_method_4_code
def yX1_readItem : MethodName := ⟨RX1, "readItem", "([III)I"⟩
abbrev cX1_readNumber : ByteArray := prog_3_method_5_code
def yX1_readNumber : MethodName := ⟨RX1, "readNumber", "([IIII)I"⟩
abbrev cX1_addHour : ByteArray := prog_3_method_6_code
def yX1_addHour : MethodName := ⟨RX1, "addHour", "()Z"⟩
abbrev cX1_addHouse : ByteArray := prog_3_method_7_code
def yX1_addHouse : MethodName := ⟨RX1, "addHouse", "()Z"⟩
def RX2 : String := "NightLots$Shelf"
def TX2 : u_T := fun k => match k with
  | 0 => ("NightLots$Shelf", "row", "[LNightLots$Valley;", true)
  | _ => ("NightLots$Shelf", "filled", "I", false)
def tyX2 : Nat → FieldType := fun k => match k with
  | 0 => .array (.object "NightLots$Valley")
  | _ => .int
abbrev wsX20 : List Cond := u_ws RX2 TX2 2
theorem nmX2 : ∀ a, a < 2 → ∀ b, b < 2 → a ≠ b → (TX2 a).2.1 ≠ (TX2 b).2.1 := by decide +kernel
theorem tyX2_ok : ∀ k, k < 2 → parseFieldDescriptor (TX2 k).2.2.1 = some (tyX2 k) := by decide +kernel
abbrev cX2_init : ByteArray := prog_4_method_1_code
def yX2_init : MethodName := ⟨RX2, "<init>", "(I)V"⟩
abbrev cX2_clear : ByteArray := prog_4_method_2_code
def yX2_clear : MethodName := ⟨RX2, "clear", "()V"⟩
abbrev cX2_put : ByteArray := prog_4_method_3_code
def yX2_put : MethodName := ⟨RX2, "put", "(LNightLots$Valley;)V"⟩
abbrev cX2_dropOldest : ByteArray := prog_4_method_4_code
def yX2_dropOldest : MethodName := ⟨RX2, "dropOldest", "()V"⟩
abbrev cX2_takeInto : ByteArray := prog_4_method_5_code
def yX2_takeInto : MethodName := ⟨RX2, "takeInto", "(LNightLots$Valley;)Z"⟩
def RX3 : String := "NightLots$Sightings"
def TX3 : u_T := fun k => match k with
  | 0 => ("NightLots$Sightings", "nights", "[I", true)
  | 1 => ("NightLots$Sightings", "hours", "[I", true)
  | 2 => ("NightLots$Sightings", "areGaps", "[Z", true)
  | _ => ("NightLots$Sightings", "filled", "I", false)
def tyX3 : Nat → FieldType := fun k => match k with
  | 0 => .array .int
  | 1 => .array .int
  | 2 => .array .boolean
  | _ => .int
abbrev wsX30 : List Cond := u_ws RX3 TX3 4
theorem nmX3 : ∀ a, a < 4 → ∀ b, b < 4 → a ≠ b → (TX3 a).2.1 ≠ (TX3 b).2.1 := by decide +kernel
theorem tyX3_ok : ∀ k, k < 4 → parseFieldDescriptor (TX3 k).2.2.1 = some (tyX3 k) := by decide +kernel
abbrev cX3_init : ByteArray := prog_5_method_1_code
def yX3_init : MethodName := ⟨RX3, "<init>", "()V"⟩
abbrev cX3_clear : ByteArray := prog_5_method_2_code
def yX3_clear : MethodName := ⟨RX3, "clear", "()V"⟩
abbrev cX3_add : ByteArray := prog_5_method_3_code
def yX3_add : MethodName := ⟨RX3, "add", "(IIZ)V"⟩
abbrev cX3_lastNight : ByteArray := prog_5_method_4_code
def yX3_lastNight : MethodName := ⟨RX3, "lastNight", "()I"⟩
abbrev cX3_fit : ByteArray := prog_5_method_5_code
def yX3_fit : MethodName := ⟨RX3, "fit", "(LNightLots$Valley;I)Z"⟩
def RX4 : String := "NightLots$Valley"
def TX4 : u_T := fun k => match k with
  | 0 => ("NightLots$Valley", "houses", "I", false)
  | 1 => ("NightLots$Valley", "night", "I", false)
  | 2 => ("NightLots$Valley", "gapsSoFar", "I", false)
  | 3 => ("NightLots$Valley", "burdenOf", "[I", true)
  | 4 => ("NightLots$Valley", "kindOf", "[I", true)
  | 5 => ("NightLots$Valley", "strengthOf", "[I", true)
  | 6 => ("NightLots$Valley", "placeOf", "[I", true)
  | 7 => ("NightLots$Valley", "tiredOf", "[I", true)
  | 8 => ("NightLots$Valley", "hourOf", "[I", true)
  | 9 => ("NightLots$Valley", "missedBy", "[I", true)
  | _ => ("NightLots$Valley", "hadBy", "[I", true)
def tyX4 : Nat → FieldType := fun k => match k with
  | 0 => .int
  | 1 => .int
  | 2 => .int
  | 3 => .array .int
  | 4 => .array .int
  | 5 => .array .int
  | 6 => .array .int
  | 7 => .array .int
  | 8 => .array .int
  | 9 => .array .int
  | _ => .array .int
abbrev wsX40 : List Cond := u_ws RX4 TX4 11
theorem nmX4 : ∀ a, a < 11 → ∀ b, b < 11 → a ≠ b → (TX4 a).2.1 ≠ (TX4 b).2.1 := by decide +kernel
theorem tyX4_ok : ∀ k, k < 11 → parseFieldDescriptor (TX4 k).2.2.1 = some (tyX4 k) := by decide +kernel
abbrev cX4_init : ByteArray := prog_6_method_1_code
def yX4_init : MethodName := ⟨RX4, "<init>", "()V"⟩
abbrev cX4_settle : ByteArray := prog_6_method_2_code
def yX4_settle : MethodName := ⟨RX4, "settle", "(LNightLots$Plan;)V"⟩
abbrev cX4_copyFrom : ByteArray := prog_6_method_3_code
def yX4_copyFrom : MethodName := ⟨RX4, "copyFrom", "(LNightLots$Valley;)V"⟩
abbrev cX4_isHouse : ByteArray := prog_6_method_4_code
def yX4_isHouse : MethodName := ⟨RX4, "isHouse", "(I)Z"⟩
abbrev cX4_isHour : ByteArray := prog_6_method_5_code
def yX4_isHour : MethodName := ⟨RX4, "isHour", "(I)Z"⟩
abbrev cX4_houseWith : ByteArray := prog_6_method_6_code
def yX4_houseWith : MethodName := ⟨RX4, "houseWith", "(I)I"⟩
abbrev cX4_timesHad : ByteArray := prog_6_method_7_code
def yX4_timesHad : MethodName := ⟨RX4, "timesHad", "(II)I"⟩
abbrev cX4_heaviness : ByteArray := prog_6_method_8_code
def yX4_heaviness : MethodName := ⟨RX4, "heaviness", "(II)I"⟩
abbrev cX4_hourHadMost : ByteArray := prog_6_method_9_code
def yX4_hourHadMost : MethodName := ⟨RX4, "hourHadMost", "(I)I"⟩
abbrev cX4_wouldKeep : ByteArray := prog_6_method_10_code
def yX4_wouldKeep : MethodName := ⟨RX4, "wouldKeep", "(III)Z"⟩
abbrev cX4_isGapAt : ByteArray := prog_6_method_11_code
def yX4_isGapAt : MethodName := ⟨RX4, "isGapAt", "(I)Z"⟩
abbrev cX4_seeThrough : ByteArray := prog_6_method_12_code
def yX4_seeThrough : MethodName := ⟨RX4, "seeThrough", "(I)Z"⟩
abbrev cX4_letNightsPass : ByteArray := prog_6_method_13_code
def yX4_letNightsPass : MethodName := ⟨RX4, "letNightsPass", "(I)I"⟩
abbrev cX4_trade : ByteArray := prog_6_method_14_code
def yX4_trade : MethodName := ⟨RX4, "trade", "(II)V"⟩
abbrev cX4_giveRest : ByteArray := prog_6_method_15_code
def yX4_giveRest : MethodName := ⟨RX4, "giveRest", "(I)V"⟩
abbrev cX4_setBurden : ByteArray := prog_6_method_16_code
def yX4_setBurden : MethodName := ⟨RX4, "setBurden", "(II)V"⟩
abbrev cX4_tiredTogether : ByteArray := prog_6_method_17_code
def yX4_tiredTogether : MethodName := ⟨RX4, "tiredTogether", "()I"⟩
abbrev cX4_handingOver : ByteArray := prog_6_method_18_code
def yX4_handingOver : MethodName := ⟨RX4, "handingOver", "()I"⟩
abbrev cX4_lengthOfRoad : ByteArray := prog_6_method_19_code
def yX4_lengthOfRoad : MethodName := ⟨RX4, "lengthOfRoad", "()I"⟩
abbrev cX4_stir : ByteArray := prog_6_method_20_code
def yX4_stir : MethodName := ⟨RX4, "stir", "(I)V"⟩
def RX5 : String := "NightLots"
def TX5 : u_T := fun k => match k with
  | 0 => ("NightLots", "text", "[I", true)
  | 1 => ("NightLots", "letters", "I", false)
  | 2 => ("NightLots", "plan", "LNightLots$Plan;", true)
  | 3 => ("NightLots", "now", "LNightLots$Valley;", true)
  | 4 => ("NightLots", "ahead", "LNightLots$Valley;", true)
  | 5 => ("NightLots", "undoable", "LNightLots$Shelf;", true)
  | 6 => ("NightLots", "aside", "LNightLots$Shelf;", true)
  | 7 => ("NightLots", "sightings", "LNightLots$Sightings;", true)
  | _ => ("NightLots", "deal", "LNightLots$Deal;", true)
def tyX5 : Nat → FieldType := fun k => match k with
  | 0 => .array .int
  | 1 => .int
  | 2 => .object "NightLots$Plan"
  | 3 => .object "NightLots$Valley"
  | 4 => .object "NightLots$Valley"
  | 5 => .object "NightLots$Shelf"
  | 6 => .object "NightLots$Shelf"
  | 7 => .object "NightLots$Sightings"
  | _ => .object "NightLots$Deal"
abbrev wsX50 : List Cond := u_ws RX5 TX5 9
theorem nmX5 : ∀ a, a < 9 → ∀ b, b < 9 → a ≠ b → (TX5 a).2.1 ≠ (TX5 b).2.1 := by decide +kernel
theorem tyX5_ok : ∀ k, k < 9 → parseFieldDescriptor (TX5 k).2.2.1 = some (tyX5 k) := by decide +kernel
abbrev cX5_init : ByteArray := prog_1_method_1_code
def yX5_init : MethodName := ⟨RX5, "<init>", "()V"⟩
abbrev cX5_write : ByteArray := prog_1_method_2_code
def yX5_write : MethodName := ⟨RX5, "write", "(I)I"⟩
abbrev cX5_wipe : ByteArray := prog_1_method_3_code
def yX5_wipe : MethodName := ⟨RX5, "wipe", "()I"⟩
abbrev cX5_fault : ByteArray := prog_1_method_4_code
def yX5_fault : MethodName := ⟨RX5, "fault", "()I"⟩
abbrev cX5_lay : ByteArray := prog_1_method_5_code
def yX5_lay : MethodName := ⟨RX5, "lay", "()I"⟩
abbrev cX5_house : ByteArray := prog_1_method_6_code
def yX5_house : MethodName := ⟨RX5, "house", "(II)I"⟩
abbrev cX5_hour : ByteArray := prog_1_method_7_code
def yX5_hour : MethodName := ⟨RX5, "hour", "(II)I"⟩
abbrev cX5_heavy : ByteArray := prog_1_method_8_code
def yX5_heavy : MethodName := ⟨RX5, "heavy", "(II)I"⟩
abbrev cX5_had : ByteArray := prog_1_method_9_code
def yX5_had : MethodName := ⟨RX5, "had", "(II)I"⟩
abbrev cX5_pass : ByteArray := prog_1_method_10_code
def yX5_pass : MethodName := ⟨RX5, "pass", "(I)I"⟩
abbrev cX5_swap : ByteArray := prog_1_method_11_code
def yX5_swap : MethodName := ⟨RX5, "swap", "(II)I"⟩
abbrev cX5_rest : ByteArray := prog_1_method_12_code
def yX5_rest : MethodName := ⟨RX5, "rest", "(I)I"⟩
abbrev cX5_burden : ByteArray := prog_1_method_13_code
def yX5_burden : MethodName := ⟨RX5, "burden", "(II)I"⟩
abbrev cX5_undo : ByteArray := prog_1_method_14_code
def yX5_undo : MethodName := ⟨RX5, "undo", "()I"⟩
abbrev cX5_behind : ByteArray := prog_1_method_15_code
def yX5_behind : MethodName := ⟨RX5, "behind", "(III)I"⟩
abbrev cX5_gaps : ByteArray := prog_1_method_16_code
def yX5_gaps : MethodName := ⟨RX5, "gaps", "()I"⟩
abbrev cX5_first : ByteArray := prog_1_method_17_code
def yX5_first : MethodName := ⟨RX5, "first", "(I)I"⟩
abbrev cX5_even : ByteArray := prog_1_method_18_code
def yX5_even : MethodName := ⟨RX5, "even", "(I)I"⟩
abbrev cX5_swaps : ByteArray := prog_1_method_19_code
def yX5_swaps : MethodName := ⟨RX5, "swaps", "()I"⟩
abbrev cX5_far : ByteArray := prog_1_method_20_code
def yX5_far : MethodName := ⟨RX5, "far", "(I)I"⟩
abbrev cX5_lamps : ByteArray := prog_1_method_21_code
def yX5_lamps : MethodName := ⟨RX5, "lamps", "(II)I"⟩
abbrev cX5_seen : ByteArray := prog_1_method_22_code
def yX5_seen : MethodName := ⟨RX5, "seen", "(III)I"⟩
abbrev cX5_forget : ByteArray := prog_1_method_23_code
def yX5_forget : MethodName := ⟨RX5, "forget", "()I"⟩
abbrev cX5_kinds : ByteArray := prog_1_method_24_code
def yX5_kinds : MethodName := ⟨RX5, "kinds", "(I)I"⟩
abbrev cX5_strengths : ByteArray := prog_1_method_25_code
def yX5_strengths : MethodName := ⟨RX5, "strengths", "(II)I"⟩
abbrev cX5_likely : ByteArray := prog_1_method_26_code
def yX5_likely : MethodName := ⟨RX5, "likely", "(III)I"⟩
abbrev cX5_winter : ByteArray := prog_1_method_27_code
def yX5_winter : MethodName := ⟨RX5, "winter", "(III)I"⟩
abbrev cX5_keep : ByteArray := prog_1_method_28_code
def yX5_keep : MethodName := ⟨RX5, "keep", "()I"⟩
abbrev cX5_back : ByteArray := prog_1_method_29_code
def yX5_back : MethodName := ⟨RX5, "back", "()I"⟩
abbrev cX5_count : ByteArray := prog_1_method_30_code
def yX5_count : MethodName := ⟨RX5, "count", "(I)I"⟩
abbrev cX5_isWithin : ByteArray := prog_1_method_31_code
def yX5_isWithin : MethodName := ⟨RX5, "isWithin", "(III)Z"⟩
abbrev cX5_largestDivisor : ByteArray := prog_1_method_32_code
def yX5_largestDivisor : MethodName := ⟨RX5, "largestDivisor", "(II)I"⟩
abbrev cX5_drawFor : ByteArray := prog_1_method_33_code
def yX5_drawFor : MethodName := ⟨RX5, "drawFor", "(II)I"⟩
abbrev cX5_nextMissAhead : ByteArray := prog_1_method_34_code
def yX5_nextMissAhead : MethodName := ⟨RX5, "nextMissAhead", "(II)I"⟩
abbrev cX5_fitsAllSeen : ByteArray := prog_1_method_35_code
def yX5_fitsAllSeen : MethodName := ⟨RX5, "fitsAllSeen", "(III)Z"⟩
def RX6 : String := "NightLotsModel"
def TX6 : u_T := fun k => match k with
  | 0 => ("NightLotsModel", "many", "I", false)
  | 1 => ("NightLotsModel", "kindOf", "[I", true)
  | 2 => ("NightLotsModel", "strength", "[I", true)
  | 3 => ("NightLotsModel", "place", "[I", true)
  | 4 => ("NightLotsModel", "night", "I", false)
  | 5 => ("NightLotsModel", "gapMany", "I", false)
  | 6 => ("NightLotsModel", "hourOf", "[I", true)
  | 7 => ("NightLotsModel", "tired", "[I", true)
  | 8 => ("NightLotsModel", "missed", "[I", true)
  | 9 => ("NightLotsModel", "often", "[I", true)
  | 10 => ("NightLotsModel", "load", "[I", true)
  | 11 => ("NightLotsModel", "seenMany", "I", false)
  | 12 => ("NightLotsModel", "seenBehind", "[I", true)
  | 13 => ("NightLotsModel", "seenHour", "[I", true)
  | 14 => ("NightLotsModel", "seenIs", "[I", true)
  | 15 => ("NightLotsModel", "text", "[I", true)
  | 16 => ("NightLotsModel", "size", "I", false)
  | 17 => ("NightLotsModel", "readAt", "I", false)
  | 18 => ("NightLotsModel", "readHours", "I", false)
  | 19 => ("NightLotsModel", "readHouses", "I", false)
  | 20 => ("NightLotsModel", "readLoads", "[I", true)
  | 21 => ("NightLotsModel", "readHouse", "[I", true)
  | 22 => ("NightLotsModel", "readNumber", "I", false)
  | 23 => ("NightLotsModel", "ahead", "[I", true)
  | 24 => ("NightLotsModel", "undoMany", "I", false)
  | 25 => ("NightLotsModel", "aside", "[I", true)
  | 26 => ("NightLotsModel", "row", "[I", true)
  | 27 => ("NightLotsModel", "bestRow", "[I", true)
  | 28 => ("NightLotsModel", "kept", "[I", true)
  | _ => ("NightLotsModel", "keptMany", "I", false)
def tyX6 : Nat → FieldType := fun k => match k with
  | 0 => .int
  | 1 => .array .int
  | 2 => .array .int
  | 3 => .array .int
  | 4 => .int
  | 5 => .int
  | 6 => .array .int
  | 7 => .array .int
  | 8 => .array .int
  | 9 => .array .int
  | 10 => .array .int
  | 11 => .int
  | 12 => .array .int
  | 13 => .array .int
  | 14 => .array .int
  | 15 => .array .int
  | 16 => .int
  | 17 => .int
  | 18 => .int
  | 19 => .int
  | 20 => .array .int
  | 21 => .array .int
  | 22 => .int
  | 23 => .array .int
  | 24 => .int
  | 25 => .array .int
  | 26 => .array .int
  | 27 => .array .int
  | 28 => .array .int
  | _ => .int
abbrev wsX60 : List Cond := u_ws RX6 TX6 30
theorem nmX6 : ∀ a, a < 30 → ∀ b, b < 30 → a ≠ b → (TX6 a).2.1 ≠ (TX6 b).2.1 := by decide +kernel
theorem tyX6_ok : ∀ k, k < 30 → parseFieldDescriptor (TX6 k).2.2.1 = some (tyX6 k) := by decide +kernel
abbrev cX6_in : ByteArray := prog_8_method_1_code
def yX6_in : MethodName := ⟨RX6, "in", "(III)Z"⟩
abbrev cX6_has : ByteArray := prog_8_method_2_code
def yX6_has : MethodName := ⟨RX6, "has", "(II)Z"⟩
abbrev cX6_bits : ByteArray := prog_8_method_3_code
def yX6_bits : MethodName := ⟨RX6, "bits", "(I)I"⟩
abbrev cX6_lesser : ByteArray := prog_8_method_4_code
def yX6_lesser : MethodName := ⟨RX6, "lesser", "(II)I"⟩
abbrev cX6_greater : ByteArray := prog_8_method_5_code
def yX6_greater : MethodName := ⟨RX6, "greater", "(II)I"⟩
abbrev cX6_init : ByteArray := prog_8_method_6_code
def yX6_init : MethodName := ⟨RX6, "<init>", "()V"⟩
abbrev cX6_firstHouse : ByteArray := prog_8_method_7_code
def yX6_firstHouse : MethodName := ⟨RX6, "firstHouse", "(IIII)V"⟩
abbrev cX6_begin : ByteArray := prog_8_method_8_code
def yX6_begin : MethodName := ⟨RX6, "begin", "()V"⟩
abbrev cX6_isOne : ByteArray := prog_8_method_9_code
def yX6_isOne : MethodName := ⟨RX6, "isOne", "(I)Z"⟩
abbrev cX6_write : ByteArray := prog_8_method_10_code
def yX6_write : MethodName := ⟨RX6, "write", "(I)I"⟩
abbrev cX6_wipe : ByteArray := prog_8_method_11_code
def yX6_wipe : MethodName := ⟨RX6, "wipe", "()I"⟩
abbrev cX6_here : ByteArray := prog_8_method_12_code
def yX6_here : MethodName := ⟨RX6, "here", "()I"⟩
abbrev cX6_isFigure : ByteArray := prog_8_method_13_code
def yX6_isFigure : MethodName := ⟨RX6, "isFigure", "()Z"⟩
abbrev cX6_number : ByteArray := prog_8_method_14_code
def yX6_number : MethodName := ⟨RX6, "number", "(III)Z"⟩
abbrev cX6_readsHour : ByteArray := prog_8_method_15_code
def yX6_readsHour : MethodName := ⟨RX6, "readsHour", "()Z"⟩
abbrev cX6_readsHouse : ByteArray := prog_8_method_16_code
def yX6_readsHouse : MethodName := ⟨RX6, "readsHouse", "()Z"⟩
abbrev cX6_readsItem : ByteArray := prog_8_method_17_code
def yX6_readsItem : MethodName := ⟨RX6, "readsItem", "()Z"⟩
abbrev cX6_fault : ByteArray := prog_8_method_18_code
def yX6_fault : MethodName := ⟨RX6, "fault", "()I"⟩
abbrev cX6_lay : ByteArray := prog_8_method_19_code
def yX6_lay : MethodName := ⟨RX6, "lay", "()I"⟩
abbrev cX6_mostOften : ByteArray := prog_8_method_20_code
def yX6_mostOften : MethodName := ⟨RX6, "mostOften", "(I)I"⟩
abbrev cX6_weight : ByteArray := prog_8_method_21_code
def yX6_weight : MethodName := ⟨RX6, "weight", "(II)I"⟩
abbrev cX6_keeps : ByteArray := prog_8_method_22_code
def yX6_keeps : MethodName := ⟨RX6, "keeps", "(II)Z"⟩
abbrev cX6_gapSet : ByteArray := prog_8_method_23_code
def yX6_gapSet : MethodName := ⟨RX6, "gapSet", "()I"⟩
abbrev cX6_passes : ByteArray := prog_8_method_24_code
def yX6_passes : MethodName := ⟨RX6, "passes", "()I"⟩
abbrev cX6_goesOn : ByteArray := prog_8_method_25_code
def yX6_goesOn : MethodName := ⟨RX6, "goesOn", "(I)I"⟩
abbrev cX6_house : ByteArray := prog_8_method_26_code
def yX6_house : MethodName := ⟨RX6, "house", "(II)I"⟩
abbrev cX6_whoHas : ByteArray := prog_8_method_27_code
def yX6_whoHas : MethodName := ⟨RX6, "whoHas", "(I)I"⟩
abbrev cX6_hour : ByteArray := prog_8_method_28_code
def yX6_hour : MethodName := ⟨RX6, "hour", "(II)I"⟩
abbrev cX6_heavy : ByteArray := prog_8_method_29_code
def yX6_heavy : MethodName := ⟨RX6, "heavy", "(II)I"⟩
abbrev cX6_had : ByteArray := prog_8_method_30_code
def yX6_had : MethodName := ⟨RX6, "had", "(II)I"⟩
abbrev cX6_lays : ByteArray := prog_8_method_31_code
def yX6_lays : MethodName := ⟨RX6, "lays", "([II)V"⟩
abbrev cX6_takes : ByteArray := prog_8_method_32_code
def yX6_takes : MethodName := ⟨RX6, "takes", "([II)V"⟩
abbrev cX6_notes : ByteArray := prog_8_method_33_code
def yX6_notes : MethodName := ⟨RX6, "notes", "()V"⟩
abbrev cX6_pass : ByteArray := prog_8_method_34_code
def yX6_pass : MethodName := ⟨RX6, "pass", "(I)I"⟩
abbrev cX6_trades : ByteArray := prog_8_method_35_code
def yX6_trades : MethodName := ⟨RX6, "trades", "(II)V"⟩
abbrev cX6_swap : ByteArray := prog_8_method_36_code
def yX6_swap : MethodName := ⟨RX6, "swap", "(II)I"⟩
abbrev cX6_rests : ByteArray := prog_8_method_37_code
def yX6_rests : MethodName := ⟨RX6, "rests", "(I)V"⟩
abbrev cX6_rest : ByteArray := prog_8_method_38_code
def yX6_rest : MethodName := ⟨RX6, "rest", "(I)I"⟩
abbrev cX6_burden : ByteArray := prog_8_method_39_code
def yX6_burden : MethodName := ⟨RX6, "burden", "(II)I"⟩
abbrev cX6_undo : ByteArray := prog_8_method_40_code
def yX6_undo : MethodName := ⟨RX6, "undo", "()I"⟩
abbrev cX6_start : ByteArray := prog_8_method_41_code
def yX6_start : MethodName := ⟨RX6, "start", "()V"⟩
abbrev cX6_putBack : ByteArray := prog_8_method_42_code
def yX6_putBack : MethodName := ⟨RX6, "putBack", "()V"⟩
abbrev cX6_behind : ByteArray := prog_8_method_43_code
def yX6_behind : MethodName := ⟨RX6, "behind", "(III)I"⟩
abbrev cX6_gaps : ByteArray := prog_8_method_44_code
def yX6_gaps : MethodName := ⟨RX6, "gaps", "()I"⟩
abbrev cX6_first : ByteArray := prog_8_method_45_code
def yX6_first : MethodName := ⟨RX6, "first", "(I)I"⟩
abbrev cX6_firstRow : ByteArray := prog_8_method_46_code
def yX6_firstRow : MethodName := ⟨RX6, "firstRow", "()V"⟩
abbrev cX6_nextRow : ByteArray := prog_8_method_47_code
def yX6_nextRow : MethodName := ⟨RX6, "nextRow", "()Z"⟩
abbrev cX6_gapsBy : ByteArray := prog_8_method_48_code
def yX6_gapsBy : MethodName := ⟨RX6, "gapsBy", "()I"⟩
abbrev cX6_keptWeight : ByteArray := prog_8_method_49_code
def yX6_keptWeight : MethodName := ⟨RX6, "keptWeight", "()I"⟩
abbrev cX6_even : ByteArray := prog_8_method_50_code
def yX6_even : MethodName := ⟨RX6, "even", "(I)I"⟩
abbrev cX6_swapsTo : ByteArray := prog_8_method_51_code
def yX6_swapsTo : MethodName := ⟨RX6, "swapsTo", "()I"⟩
abbrev cX6_swaps : ByteArray := prog_8_method_52_code
def yX6_swaps : MethodName := ⟨RX6, "swaps", "()I"⟩
abbrev cX6_off : ByteArray := prog_8_method_53_code
def yX6_off : MethodName := ⟨RX6, "off", "(II)I"⟩
abbrev cX6_far : ByteArray := prog_8_method_54_code
def yX6_far : MethodName := ⟨RX6, "far", "(I)I"⟩
abbrev cX6_lamps : ByteArray := prog_8_method_55_code
def yX6_lamps : MethodName := ⟨RX6, "lamps", "(II)I"⟩
abbrev cX6_seen : ByteArray := prog_8_method_56_code
def yX6_seen : MethodName := ⟨RX6, "seen", "(III)I"⟩
abbrev cX6_forget : ByteArray := prog_8_method_57_code
def yX6_forget : MethodName := ⟨RX6, "forget", "()I"⟩
abbrev cX6_isSo : ByteArray := prog_8_method_58_code
def yX6_isSo : MethodName := ⟨RX6, "isSo", "()Z"⟩
abbrev cX6_kinds : ByteArray := prog_8_method_59_code
def yX6_kinds : MethodName := ⟨RX6, "kinds", "(I)I"⟩
abbrev cX6_strengths : ByteArray := prog_8_method_60_code
def yX6_strengths : MethodName := ⟨RX6, "strengths", "(II)I"⟩
abbrev cX6_common : ByteArray := prog_8_method_61_code
def yX6_common : MethodName := ⟨RX6, "common", "(JJ)J"⟩
abbrev cX6_likely : ByteArray := prog_8_method_62_code
def yX6_likely : MethodName := ⟨RX6, "likely", "(III)I"⟩
abbrev cX6_tiredAll : ByteArray := prog_8_method_63_code
def yX6_tiredAll : MethodName := ⟨RX6, "tiredAll", "()I"⟩
abbrev cX6_winter : ByteArray := prog_8_method_64_code
def yX6_winter : MethodName := ⟨RX6, "winter", "(III)I"⟩
abbrev cX6_keep : ByteArray := prog_8_method_65_code
def yX6_keep : MethodName := ⟨RX6, "keep", "()I"⟩
abbrev cX6_back : ByteArray := prog_8_method_66_code
def yX6_back : MethodName := ⟨RX6, "back", "()I"⟩
abbrev cX6_count : ByteArray := prog_8_method_67_code
def yX6_count : MethodName := ⟨RX6, "count", "(I)I"⟩
def RJ6 : String := "java/lang/Integer"
def TJ6 : u_T := fun k => match k with
  | _ => ("", "", "", false)
def tyJ6 : Nat → FieldType := fun k => match k with
  | _ => .int
abbrev wsJ60 : List Cond := u_ws RJ6 TJ6 0
theorem nmJ6 : ∀ a, a < 0 → ∀ b, b < 0 → a ≠ b → (TJ6 a).2.1 ≠ (TJ6 b).2.1 := by decide +kernel
theorem tyJ6_ok : ∀ k, k < 0 → parseFieldDescriptor (TJ6 k).2.2.1 = some (tyJ6 k) := by decide +kernel
abbrev cJ6_bitCount_0f7a4 : ByteArray := prog_9_method_49_code
def yJ6_bitCount_0f7a4 : MethodName := ⟨RJ6, "bitCount", "(I)I"⟩
def RJ9 : String := "java/lang/Math"
def TJ9 : u_T := fun k => match k with
  | _ => ("", "", "", false)
def tyJ9 : Nat → FieldType := fun k => match k with
  | _ => .int
abbrev wsJ90 : List Cond := u_ws RJ9 TJ9 0
theorem nmJ9 : ∀ a, a < 0 → ∀ b, b < 0 → a ≠ b → (TJ9 a).2.1 ≠ (TJ9 b).2.1 := by decide +kernel
theorem tyJ9_ok : ∀ k, k < 0 → parseFieldDescriptor (TJ9 k).2.2.1 = some (tyJ9 k) := by decide +kernel
abbrev cJ9_abs_0f7a4 : ByteArray := prog_10_method_59_code
def yJ9_abs_0f7a4 : MethodName := ⟨RJ9, "abs", "(I)I"⟩
abbrev cJ9_max_7cf53 : ByteArray := prog_10_method_65_code
def yJ9_max_7cf53 : MethodName := ⟨RJ9, "max", "(II)I"⟩
abbrev cJ9_min_7cf53 : ByteArray := prog_10_method_69_code
def yJ9_min_7cf53 : MethodName := ⟨RJ9, "min", "(II)I"⟩
def RJ0 : String := "java/lang/String"
def TJ0 : u_T := fun k => match k with
  | _ => ("", "", "", false)
def tyJ0 : Nat → FieldType := fun k => match k with
  | _ => .int
abbrev wsJ00 : List Cond := u_ws RJ0 TJ0 0
theorem nmJ0 : ∀ a, a < 0 → ∀ b, b < 0 → a ≠ b → (TJ0 a).2.1 ≠ (TJ0 b).2.1 := by decide +kernel
theorem tyJ0_ok : ∀ k, k < 0 → parseFieldDescriptor (TJ0 k).2.2.1 = some (tyJ0 k) := by decide +kernel
abbrev cJ0_length_8abf5 : ByteArray := prog_11_method_54_code
def yJ0_length_8abf5 : MethodName := ⟨RJ0, "length", "()I"⟩
abbrev cJ0_charAt_5068e : ByteArray := prog_11_method_56_code
def yJ0_charAt_5068e : MethodName := ⟨RJ0, "charAt", "(I)C"⟩
abbrev cJ0_coder_7d493 : ByteArray := prog_11_method_152_code
def yJ0_coder_7d493 : MethodName := ⟨RJ0, "coder", "()B"⟩
abbrev cJ0_isLatin1_aae02 : ByteArray := prog_11_method_154_code
def yJ0_isLatin1_aae02 : MethodName := ⟨RJ0, "isLatin1", "()Z"⟩
abbrev cJ0_checkIndex_df160 : ByteArray := prog_11_method_155_code
def yJ0_checkIndex_df160 : MethodName := ⟨RJ0, "checkIndex", "(II)V"⟩
def RJ1 : String := "java/lang/StringLatin1"
def TJ1 : u_T := fun k => match k with
  | _ => ("", "", "", false)
def tyJ1 : Nat → FieldType := fun k => match k with
  | _ => .int
abbrev wsJ10 : List Cond := u_ws RJ1 TJ1 0
theorem nmJ1 : ∀ a, a < 0 → ∀ b, b < 0 → a ≠ b → (TJ1 a).2.1 ≠ (TJ1 b).2.1 := by decide +kernel
theorem tyJ1_ok : ∀ k, k < 0 → parseFieldDescriptor (TJ1 k).2.2.1 = some (tyJ1 k) := by decide +kernel
abbrev cJ1_charAt_3b067 : ByteArray := prog_12_method_2_code
def yJ1_charAt_3b067 : MethodName := ⟨RJ1, "charAt", "([BI)C"⟩
def RJ2 : String := "java/lang/StringUTF16"
def TJ2 : u_T := fun k => match k with
  | _ => ("", "", "", false)
def tyJ2 : Nat → FieldType := fun k => match k with
  | _ => .int
abbrev wsJ20 : List Cond := u_ws RJ2 TJ2 0
theorem nmJ2 : ∀ a, a < 0 → ∀ b, b < 0 → a ≠ b → (TJ2 a).2.1 ≠ (TJ2 b).2.1 := by decide +kernel
theorem tyJ2_ok : ∀ k, k < 0 → parseFieldDescriptor (TJ2 k).2.2.1 = some (tyJ2 k) := by decide +kernel
abbrev cJ2_getChar_3b067 : ByteArray := prog_13_method_5_code
def yJ2_getChar_3b067 : MethodName := ⟨RJ2, "getChar", "([BI)C"⟩
abbrev cJ2_length_9d52b : ByteArray := prog_13_method_6_code
def yJ2_length_9d52b : MethodName := ⟨RJ2, "length", "([B)I"⟩
abbrev cJ2_charAt_3b067 : ByteArray := prog_13_method_83_code
def yJ2_charAt_3b067 : MethodName := ⟨RJ2, "charAt", "([BI)C"⟩
abbrev cJ2_checkIndex_2214a : ByteArray := prog_13_method_91_code
def yJ2_checkIndex_2214a : MethodName := ⟨RJ2, "checkIndex", "(I[B)V"⟩
def RJ3 : String := "jdk/internal/util/Preconditions"
def TJ3 : u_T := fun k => match k with
  | _ => ("", "", "", false)
def tyJ3 : Nat → FieldType := fun k => match k with
  | _ => .int
abbrev wsJ30 : List Cond := u_ws RJ3 TJ3 0
theorem nmJ3 : ∀ a, a < 0 → ∀ b, b < 0 → a ≠ b → (TJ3 a).2.1 ≠ (TJ3 b).2.1 := by decide +kernel
theorem tyJ3_ok : ∀ k, k < 0 → parseFieldDescriptor (TJ3 k).2.2.1 = some (tyJ3 k) := by decide +kernel
abbrev cJ3_checkIndex_8e157 : ByteArray := prog_14_method_11_code
def yJ3_checkIndex_8e157 : MethodName := ⟨RJ3, "checkIndex", "(IILjava/util/function/BiFunction;)I"⟩
def RL : String := "NightLotsLaw"
abbrev cL_law : ByteArray := code
def yL_law : MethodName := ⟨RL, "law", "([I)Z"⟩
