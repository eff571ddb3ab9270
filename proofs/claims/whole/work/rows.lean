section
-- ===== PART A: goes FIRST, ahead of the names: the tables' words, and 'selects' of the private methods out of them =====
/-- a private method of a class that the tables say can be made, by its rows of tables_1 -/
def lw_okq (q : MethodName × Nat) : Prop := (q.1.cls ≠ "java/lang/invoke/MethodHandle" ∧ q.1.cls ≠ "java/lang/invoke/VarHandle") ∧ Cond.instantiable q.1.cls q.2 ∈ tables_1 ∧ Cond.privateMethod q.1 ∈ tables_1 ∧ Cond.instanceMethod q.1 ∈ tables_1
theorem lw_p0 : lw_okq (⟨"HourDoors", "faulted", "(I)I"⟩, 14) := ⟨⟨by decide +kernel, by decide +kernel⟩, List.mem_of_getElem? (i := 8) (by decide +kernel), List.mem_of_getElem? (i := 126) (by decide +kernel), List.mem_of_getElem? (i := 127) (by decide +kernel)⟩
theorem lw_p1 : lw_okq (⟨"HourDoors", "build", "(LHourDoors$Sheet;II)V"⟩, 14) := ⟨⟨by decide +kernel, by decide +kernel⟩, List.mem_of_getElem? (i := 8) (by decide +kernel), List.mem_of_getElem? (i := 136) (by decide +kernel), List.mem_of_getElem? (i := 137) (by decide +kernel)⟩
theorem lw_p2 : lw_okq (⟨"HourDoors", "isDoor", "(I)Z"⟩, 14) := ⟨⟨by decide +kernel, by decide +kernel⟩, List.mem_of_getElem? (i := 8) (by decide +kernel), List.mem_of_getElem? (i := 147) (by decide +kernel), List.mem_of_getElem? (i := 148) (by decide +kernel)⟩
theorem lw_p3 : lw_okq (⟨"HourDoors", "isRoom", "(I)Z"⟩, 14) := ⟨⟨by decide +kernel, by decide +kernel⟩, List.mem_of_getElem? (i := 8) (by decide +kernel), List.mem_of_getElem? (i := 170) (by decide +kernel), List.mem_of_getElem? (i := 171) (by decide +kernel)⟩
theorem lw_p4 : lw_okq (⟨"HourDoors", "areActs", "(LHourDoors$Sheet;II)Z"⟩, 14) := ⟨⟨by decide +kernel, by decide +kernel⟩, List.mem_of_getElem? (i := 8) (by decide +kernel), List.mem_of_getElem? (i := 178) (by decide +kernel), List.mem_of_getElem? (i := 179) (by decide +kernel)⟩
theorem lw_p5 : lw_okq (⟨"HourDoors", "walked", "(IILHourDoors$Sheet;III)I"⟩, 14) := ⟨⟨by decide +kernel, by decide +kernel⟩, List.mem_of_getElem? (i := 8) (by decide +kernel), List.mem_of_getElem? (i := 182) (by decide +kernel), List.mem_of_getElem? (i := 183) (by decide +kernel)⟩
theorem lw_p6 : lw_okq (⟨"HourDoors", "roomAfter", "(III)I"⟩, 14) := ⟨⟨by decide +kernel, by decide +kernel⟩, List.mem_of_getElem? (i := 8) (by decide +kernel), List.mem_of_getElem? (i := 186) (by decide +kernel), List.mem_of_getElem? (i := 187) (by decide +kernel)⟩
theorem lw_p7 : lw_okq (⟨"HourDoors", "fewestHours", "(IIII)I"⟩, 14) := ⟨⟨by decide +kernel, by decide +kernel⟩, List.mem_of_getElem? (i := 8) (by decide +kernel), List.mem_of_getElem? (i := 194) (by decide +kernel), List.mem_of_getElem? (i := 195) (by decide +kernel)⟩
theorem lw_p8 : lw_okq (⟨"HourDoors", "anHourOn", "(III)I"⟩, 14) := ⟨⟨by decide +kernel, by decide +kernel⟩, List.mem_of_getElem? (i := 8) (by decide +kernel), List.mem_of_getElem? (i := 201) (by decide +kernel), List.mem_of_getElem? (i := 202) (by decide +kernel)⟩
theorem lw_p9 : lw_okq (⟨"HourDoors", "actOfSoonest", "(IIIII)I"⟩, 14) := ⟨⟨by decide +kernel, by decide +kernel⟩, List.mem_of_getElem? (i := 8) (by decide +kernel), List.mem_of_getElem? (i := 205) (by decide +kernel), List.mem_of_getElem? (i := 206) (by decide +kernel)⟩
theorem lw_p10 : lw_okq (⟨"HourDoors", "fillHopeful", "(III)V"⟩, 14) := ⟨⟨by decide +kernel, by decide +kernel⟩, List.mem_of_getElem? (i := 8) (by decide +kernel), List.mem_of_getElem? (i := 209) (by decide +kernel), List.mem_of_getElem? (i := 210) (by decide +kernel)⟩
theorem lw_p11 : lw_okq (⟨"HourDoors", "anHourAhead", "(II)I"⟩, 14) := ⟨⟨by decide +kernel, by decide +kernel⟩, List.mem_of_getElem? (i := 8) (by decide +kernel), List.mem_of_getElem? (i := 213) (by decide +kernel), List.mem_of_getElem? (i := 214) (by decide +kernel)⟩
theorem lw_p12 : lw_okq (⟨"HourDoors", "firstHopefulAct", "(III)I"⟩, 14) := ⟨⟨by decide +kernel, by decide +kernel⟩, List.mem_of_getElem? (i := 8) (by decide +kernel), List.mem_of_getElem? (i := 217) (by decide +kernel), List.mem_of_getElem? (i := 218) (by decide +kernel)⟩
theorem lw_p13 : lw_okq (⟨"HourDoors", "allRooms", "()I"⟩, 14) := ⟨⟨by decide +kernel, by decide +kernel⟩, List.mem_of_getElem? (i := 8) (by decide +kernel), List.mem_of_getElem? (i := 225) (by decide +kernel), List.mem_of_getElem? (i := 226) (by decide +kernel)⟩
theorem lw_p14 : lw_okq (⟨"HourDoors", "errandHours", "(III)I"⟩, 14) := ⟨⟨by decide +kernel, by decide +kernel⟩, List.mem_of_getElem? (i := 8) (by decide +kernel), List.mem_of_getElem? (i := 229) (by decide +kernel), List.mem_of_getElem? (i := 230) (by decide +kernel)⟩
theorem lw_p15 : lw_okq (⟨"HourDoors", "anySeen", "(J)Z"⟩, 14) := ⟨⟨by decide +kernel, by decide +kernel⟩, List.mem_of_getElem? (i := 8) (by decide +kernel), List.mem_of_getElem? (i := 242) (by decide +kernel), List.mem_of_getElem? (i := 243) (by decide +kernel)⟩
def lw_privs_1 : List (MethodName × Nat) := [(⟨"HourDoors", "faulted", "(I)I"⟩, 14), (⟨"HourDoors", "build", "(LHourDoors$Sheet;II)V"⟩, 14), (⟨"HourDoors", "isDoor", "(I)Z"⟩, 14), (⟨"HourDoors", "isRoom", "(I)Z"⟩, 14), (⟨"HourDoors", "areActs", "(LHourDoors$Sheet;II)Z"⟩, 14), (⟨"HourDoors", "walked", "(IILHourDoors$Sheet;III)I"⟩, 14), (⟨"HourDoors", "roomAfter", "(III)I"⟩, 14), (⟨"HourDoors", "fewestHours", "(IIII)I"⟩, 14), (⟨"HourDoors", "anHourOn", "(III)I"⟩, 14), (⟨"HourDoors", "actOfSoonest", "(IIIII)I"⟩, 14), (⟨"HourDoors", "fillHopeful", "(III)V"⟩, 14), (⟨"HourDoors", "anHourAhead", "(II)I"⟩, 14), (⟨"HourDoors", "firstHopefulAct", "(III)I"⟩, 14), (⟨"HourDoors", "allRooms", "()I"⟩, 14), (⟨"HourDoors", "errandHours", "(III)I"⟩, 14), (⟨"HourDoors", "anySeen", "(J)Z"⟩, 14)]
theorem lw_r1 : ∀ q ∈ lw_privs_1, lw_okq q := List.forall_mem_cons.mpr ⟨lw_p0, List.forall_mem_cons.mpr ⟨lw_p1, List.forall_mem_cons.mpr ⟨lw_p2, List.forall_mem_cons.mpr ⟨lw_p3, List.forall_mem_cons.mpr ⟨lw_p4, List.forall_mem_cons.mpr ⟨lw_p5, List.forall_mem_cons.mpr ⟨lw_p6, List.forall_mem_cons.mpr ⟨lw_p7, List.forall_mem_cons.mpr ⟨lw_p8, List.forall_mem_cons.mpr ⟨lw_p9, List.forall_mem_cons.mpr ⟨lw_p10, List.forall_mem_cons.mpr ⟨lw_p11, List.forall_mem_cons.mpr ⟨lw_p12, List.forall_mem_cons.mpr ⟨lw_p13, List.forall_mem_cons.mpr ⟨lw_p14, List.forall_mem_cons.mpr ⟨lw_p15, fun _ h => absurd h List.not_mem_nil⟩⟩⟩⟩⟩⟩⟩⟩⟩⟩⟩⟩⟩⟩⟩⟩
theorem lw_p16 : lw_okq (⟨"HourDoors", "seeAnHourOn", "(I)V"⟩, 14) := ⟨⟨by decide +kernel, by decide +kernel⟩, List.mem_of_getElem? (i := 8) (by decide +kernel), List.mem_of_getElem? (i := 246) (by decide +kernel), List.mem_of_getElem? (i := 247) (by decide +kernel)⟩
theorem lw_p17 : lw_okq (⟨"HourDoors", "roomsInTime", "(II)I"⟩, 14) := ⟨⟨by decide +kernel, by decide +kernel⟩, List.mem_of_getElem? (i := 8) (by decide +kernel), List.mem_of_getElem? (i := 268) (by decide +kernel), List.mem_of_getElem? (i := 269) (by decide +kernel)⟩
theorem lw_p18 : lw_okq (⟨"HourDoors", "readingsHold", "(I)Z"⟩, 14) := ⟨⟨by decide +kernel, by decide +kernel⟩, List.mem_of_getElem? (i := 8) (by decide +kernel), List.mem_of_getElem? (i := 288) (by decide +kernel), List.mem_of_getElem? (i := 289) (by decide +kernel)⟩
theorem lw_p19 : lw_okq (⟨"HourDoors", "lateTelling", "(LHourDoors$Door;)I"⟩, 14) := ⟨⟨by decide +kernel, by decide +kernel⟩, List.mem_of_getElem? (i := 8) (by decide +kernel), List.mem_of_getElem? (i := 348) (by decide +kernel), List.mem_of_getElem? (i := 349) (by decide +kernel)⟩
theorem lw_p20 : lw_okq (⟨"HourDoors", "leaveNumber", "(I)V"⟩, 14) := ⟨⟨by decide +kernel, by decide +kernel⟩, List.mem_of_getElem? (i := 8) (by decide +kernel), List.mem_of_getElem? (i := 352) (by decide +kernel), List.mem_of_getElem? (i := 353) (by decide +kernel)⟩
theorem lw_p21 : lw_okq (⟨"HourDoors", "plainTelling", "(LHourDoors$Door;)I"⟩, 14) := ⟨⟨by decide +kernel, by decide +kernel⟩, List.mem_of_getElem? (i := 8) (by decide +kernel), List.mem_of_getElem? (i := 356) (by decide +kernel), List.mem_of_getElem? (i := 357) (by decide +kernel)⟩
theorem lw_p22 : lw_okq (⟨"HourDoors", "cupboardTelling", "(LHourDoors$Door;)I"⟩, 14) := ⟨⟨by decide +kernel, by decide +kernel⟩, List.mem_of_getElem? (i := 8) (by decide +kernel), List.mem_of_getElem? (i := 360) (by decide +kernel), List.mem_of_getElem? (i := 361) (by decide +kernel)⟩
theorem lw_p23 : lw_okq (⟨"HourDoorsModel", "refused", "(I)I"⟩, 30) := ⟨⟨by decide +kernel, by decide +kernel⟩, List.mem_of_getElem? (i := 384) (by decide +kernel), List.mem_of_getElem? (i := 492) (by decide +kernel), List.mem_of_getElem? (i := 493) (by decide +kernel)⟩
theorem lw_p24 : lw_okq (⟨"HourDoorsModel", "cellsBarred", "(IIIJ)I"⟩, 30) := ⟨⟨by decide +kernel, by decide +kernel⟩, List.mem_of_getElem? (i := 384) (by decide +kernel), List.mem_of_getElem? (i := 497) (by decide +kernel), List.mem_of_getElem? (i := 498) (by decide +kernel)⟩
theorem lw_p25 : lw_okq (⟨"HourDoorsModel", "failed", "(I)I"⟩, 30) := ⟨⟨by decide +kernel, by decide +kernel⟩, List.mem_of_getElem? (i := 384) (by decide +kernel), List.mem_of_getElem? (i := 501) (by decide +kernel), List.mem_of_getElem? (i := 502) (by decide +kernel)⟩
theorem lw_p26 : lw_okq (⟨"HourDoorsModel", "readsHouse", "(II)Z"⟩, 30) := ⟨⟨by decide +kernel, by decide +kernel⟩, List.mem_of_getElem? (i := 384) (by decide +kernel), List.mem_of_getElem? (i := 508) (by decide +kernel), List.mem_of_getElem? (i := 509) (by decide +kernel)⟩
theorem lw_p27 : lw_okq (⟨"HourDoorsModel", "codeAt", "(II)I"⟩, 30) := ⟨⟨by decide +kernel, by decide +kernel⟩, List.mem_of_getElem? (i := 384) (by decide +kernel), List.mem_of_getElem? (i := 512) (by decide +kernel), List.mem_of_getElem? (i := 513) (by decide +kernel)⟩
theorem lw_p28 : lw_okq (⟨"HourDoorsModel", "figure", "(IIII)I"⟩, 30) := ⟨⟨by decide +kernel, by decide +kernel⟩, List.mem_of_getElem? (i := 384) (by decide +kernel), List.mem_of_getElem? (i := 516) (by decide +kernel), List.mem_of_getElem? (i := 517) (by decide +kernel)⟩
theorem lw_p29 : lw_okq (⟨"HourDoorsModel", "readsDoor", "(II)Z"⟩, 30) := ⟨⟨by decide +kernel, by decide +kernel⟩, List.mem_of_getElem? (i := 384) (by decide +kernel), List.mem_of_getElem? (i := 520) (by decide +kernel), List.mem_of_getElem? (i := 521) (by decide +kernel)⟩
theorem lw_p30 : lw_okq (⟨"HourDoorsModel", "noDoor", "(I)Z"⟩, 30) := ⟨⟨by decide +kernel, by decide +kernel⟩, List.mem_of_getElem? (i := 384) (by decide +kernel), List.mem_of_getElem? (i := 528) (by decide +kernel), List.mem_of_getElem? (i := 529) (by decide +kernel)⟩
theorem lw_p31 : lw_okq (⟨"HourDoorsModel", "leadsAt", "(II)I"⟩, 30) := ⟨⟨by decide +kernel, by decide +kernel⟩, List.mem_of_getElem? (i := 384) (by decide +kernel), List.mem_of_getElem? (i := 540) (by decide +kernel), List.mem_of_getElem? (i := 541) (by decide +kernel)⟩
def lw_privs_2 : List (MethodName × Nat) := [(⟨"HourDoors", "seeAnHourOn", "(I)V"⟩, 14), (⟨"HourDoors", "roomsInTime", "(II)I"⟩, 14), (⟨"HourDoors", "readingsHold", "(I)Z"⟩, 14), (⟨"HourDoors", "lateTelling", "(LHourDoors$Door;)I"⟩, 14), (⟨"HourDoors", "leaveNumber", "(I)V"⟩, 14), (⟨"HourDoors", "plainTelling", "(LHourDoors$Door;)I"⟩, 14), (⟨"HourDoors", "cupboardTelling", "(LHourDoors$Door;)I"⟩, 14), (⟨"HourDoorsModel", "refused", "(I)I"⟩, 30), (⟨"HourDoorsModel", "cellsBarred", "(IIIJ)I"⟩, 30), (⟨"HourDoorsModel", "failed", "(I)I"⟩, 30), (⟨"HourDoorsModel", "readsHouse", "(II)Z"⟩, 30), (⟨"HourDoorsModel", "codeAt", "(II)I"⟩, 30), (⟨"HourDoorsModel", "figure", "(IIII)I"⟩, 30), (⟨"HourDoorsModel", "readsDoor", "(II)Z"⟩, 30), (⟨"HourDoorsModel", "noDoor", "(I)Z"⟩, 30), (⟨"HourDoorsModel", "leadsAt", "(II)I"⟩, 30)]
theorem lw_r2 : ∀ q ∈ lw_privs_2, lw_okq q := List.forall_mem_cons.mpr ⟨lw_p16, List.forall_mem_cons.mpr ⟨lw_p17, List.forall_mem_cons.mpr ⟨lw_p18, List.forall_mem_cons.mpr ⟨lw_p19, List.forall_mem_cons.mpr ⟨lw_p20, List.forall_mem_cons.mpr ⟨lw_p21, List.forall_mem_cons.mpr ⟨lw_p22, List.forall_mem_cons.mpr ⟨lw_p23, List.forall_mem_cons.mpr ⟨lw_p24, List.forall_mem_cons.mpr ⟨lw_p25, List.forall_mem_cons.mpr ⟨lw_p26, List.forall_mem_cons.mpr ⟨lw_p27, List.forall_mem_cons.mpr ⟨lw_p28, List.forall_mem_cons.mpr ⟨lw_p29, List.forall_mem_cons.mpr ⟨lw_p30, List.forall_mem_cons.mpr ⟨lw_p31, fun _ h => absurd h List.not_mem_nil⟩⟩⟩⟩⟩⟩⟩⟩⟩⟩⟩⟩⟩⟩⟩⟩
theorem lw_p32 : lw_okq (⟨"HourDoorsModel", "noRoom", "(I)Z"⟩, 30) := ⟨⟨by decide +kernel, by decide +kernel⟩, List.mem_of_getElem? (i := 384) (by decide +kernel), List.mem_of_getElem? (i := 553) (by decide +kernel), List.mem_of_getElem? (i := 554) (by decide +kernel)⟩
theorem lw_p33 : lw_okq (⟨"HourDoorsModel", "goWalk", "(IIII)V"⟩, 30) := ⟨⟨by decide +kernel, by decide +kernel⟩, List.mem_of_getElem? (i := 384) (by decide +kernel), List.mem_of_getElem? (i := 563) (by decide +kernel), List.mem_of_getElem? (i := 564) (by decide +kernel)⟩
theorem lw_p34 : lw_okq (⟨"HourDoorsModel", "behind", "(III)I"⟩, 30) := ⟨⟨by decide +kernel, by decide +kernel⟩, List.mem_of_getElem? (i := 384) (by decide +kernel), List.mem_of_getElem? (i := 567) (by decide +kernel), List.mem_of_getElem? (i := 568) (by decide +kernel)⟩
theorem lw_p35 : lw_okq (⟨"HourDoorsModel", "soonestOf", "(IIII)I"⟩, 30) := ⟨⟨by decide +kernel, by decide +kernel⟩, List.mem_of_getElem? (i := 384) (by decide +kernel), List.mem_of_getElem? (i := 577) (by decide +kernel), List.mem_of_getElem? (i := 578) (by decide +kernel)⟩
theorem lw_p36 : lw_okq (⟨"HourDoorsModel", "setBehind", "(II)I"⟩, 30) := ⟨⟨by decide +kernel, by decide +kernel⟩, List.mem_of_getElem? (i := 384) (by decide +kernel), List.mem_of_getElem? (i := 584) (by decide +kernel), List.mem_of_getElem? (i := 585) (by decide +kernel)⟩
theorem lw_p37 : lw_okq (⟨"HourDoorsModel", "haveBeen", "(I)Z"⟩, 30) := ⟨⟨by decide +kernel, by decide +kernel⟩, List.mem_of_getElem? (i := 384) (by decide +kernel), List.mem_of_getElem? (i := 592) (by decide +kernel), List.mem_of_getElem? (i := 593) (by decide +kernel)⟩
theorem lw_p38 : lw_okq (⟨"HourDoorsModel", "goHour", "(I)V"⟩, 30) := ⟨⟨by decide +kernel, by decide +kernel⟩, List.mem_of_getElem? (i := 384) (by decide +kernel), List.mem_of_getElem? (i := 596) (by decide +kernel), List.mem_of_getElem? (i := 597) (by decide +kernel)⟩
theorem lw_p39 : lw_okq (⟨"HourDoorsModel", "goOn", "(III)V"⟩, 30) := ⟨⟨by decide +kernel, by decide +kernel⟩, List.mem_of_getElem? (i := 384) (by decide +kernel), List.mem_of_getElem? (i := 600) (by decide +kernel), List.mem_of_getElem? (i := 601) (by decide +kernel)⟩
theorem lw_p40 : lw_okq (⟨"HourDoorsModel", "areSo", "()Z"⟩, 30) := ⟨⟨by decide +kernel, by decide +kernel⟩, List.mem_of_getElem? (i := 384) (by decide +kernel), List.mem_of_getElem? (i := 628) (by decide +kernel), List.mem_of_getElem? (i := 629) (by decide +kernel)⟩
theorem lw_p41 : lw_okq (⟨"HourDoorsModel", "noCell", "(II)I"⟩, 30) := ⟨⟨by decide +kernel, by decide +kernel⟩, List.mem_of_getElem? (i := 384) (by decide +kernel), List.mem_of_getElem? (i := 665) (by decide +kernel), List.mem_of_getElem? (i := 666) (by decide +kernel)⟩
theorem lw_p42 : lw_okq (⟨"HourDoorsModel", "failedLong", "(I)J"⟩, 30) := ⟨⟨by decide +kernel, by decide +kernel⟩, List.mem_of_getElem? (i := 384) (by decide +kernel), List.mem_of_getElem? (i := 673) (by decide +kernel), List.mem_of_getElem? (i := 674) (by decide +kernel)⟩
theorem lw_p43 : lw_okq (⟨"HourDoorsModel", "traced", "(I)V"⟩, 30) := ⟨⟨by decide +kernel, by decide +kernel⟩, List.mem_of_getElem? (i := 384) (by decide +kernel), List.mem_of_getElem? (i := 685) (by decide +kernel), List.mem_of_getElem? (i := 686) (by decide +kernel)⟩
def lw_privs_3 : List (MethodName × Nat) := [(⟨"HourDoorsModel", "noRoom", "(I)Z"⟩, 30), (⟨"HourDoorsModel", "goWalk", "(IIII)V"⟩, 30), (⟨"HourDoorsModel", "behind", "(III)I"⟩, 30), (⟨"HourDoorsModel", "soonestOf", "(IIII)I"⟩, 30), (⟨"HourDoorsModel", "setBehind", "(II)I"⟩, 30), (⟨"HourDoorsModel", "haveBeen", "(I)Z"⟩, 30), (⟨"HourDoorsModel", "goHour", "(I)V"⟩, 30), (⟨"HourDoorsModel", "goOn", "(III)V"⟩, 30), (⟨"HourDoorsModel", "areSo", "()Z"⟩, 30), (⟨"HourDoorsModel", "noCell", "(II)I"⟩, 30), (⟨"HourDoorsModel", "failedLong", "(I)J"⟩, 30), (⟨"HourDoorsModel", "traced", "(I)V"⟩, 30)]
theorem lw_r3 : ∀ q ∈ lw_privs_3, lw_okq q := List.forall_mem_cons.mpr ⟨lw_p32, List.forall_mem_cons.mpr ⟨lw_p33, List.forall_mem_cons.mpr ⟨lw_p34, List.forall_mem_cons.mpr ⟨lw_p35, List.forall_mem_cons.mpr ⟨lw_p36, List.forall_mem_cons.mpr ⟨lw_p37, List.forall_mem_cons.mpr ⟨lw_p38, List.forall_mem_cons.mpr ⟨lw_p39, List.forall_mem_cons.mpr ⟨lw_p40, List.forall_mem_cons.mpr ⟨lw_p41, List.forall_mem_cons.mpr ⟨lw_p42, List.forall_mem_cons.mpr ⟨lw_p43, fun _ h => absurd h List.not_mem_nil⟩⟩⟩⟩⟩⟩⟩⟩⟩⟩⟩⟩
def lw_privs : List (MethodName × Nat) := lw_privs_1 ++ (lw_privs_2 ++ (lw_privs_3))
def lw_tbl : List Cond := k2_sels lw_privs ++ tables_1
theorem lw_privs_ok : ∀ q ∈ lw_privs, lw_okq q := by
  show ∀ q ∈ lw_privs_1 ++ (lw_privs_2 ++ (lw_privs_3)), lw_okq q
  exact List.forall_mem_append.mpr ⟨lw_r1, List.forall_mem_append.mpr ⟨lw_r2, lw_r3⟩⟩
end
section
def RX0 : String := "HourDoors$Door"
def TX0 : u_T := fun k => match k with
  | 0 => ("HourDoors$Door", "kind", "I", false)
  | 1 => ("HourDoors$Door", "room", "I", false)
  | 2 => ("HourDoors$Door", "to", "I", false)
  | _ => ("HourDoors$Door", "step", "I", false)
def tyX0 : Nat → FieldType := fun k => match k with
  | 0 => .int
  | 1 => .int
  | 2 => .int
  | _ => .int
abbrev wsX00 : List Cond := u_ws RX0 TX0 4
theorem nmX0 : ∀ a, a < 4 → ∀ b, b < 4 → a ≠ b → (TX0 a).2.1 ≠ (TX0 b).2.1 := by decide +kernel
theorem tyX0_ok : ∀ k, k < 4 → parseFieldDescriptor (TX0 k).2.2.1 = some (tyX0 k) := by decide +kernel
abbrev cX0_init : ByteArray := prog_2_method_1_code
def yX0_init : MethodName := ⟨RX0, "<init>", "()V"⟩
abbrev cX0_becomeLike : ByteArray := prog_2_method_2_code
def yX0_becomeLike : MethodName := ⟨RX0, "becomeLike", "(LHourDoors$Door;)V"⟩
abbrev cX0_leadsTo : ByteArray := prog_2_method_3_code
def yX0_leadsTo : MethodName := ⟨RX0, "leadsTo", "(II)I"⟩
def RX1 : String := "HourDoors$Sheet"
def TX1 : u_T := fun k => match k with
  | 0 => ("HourDoors$Sheet", "cells", "[I", true)
  | 1 => ("HourDoors$Sheet", "lane", "I", false)
  | _ => ("HourDoors$Sheet", "size", "I", false)
def tyX1 : Nat → FieldType := fun k => match k with
  | 0 => .array .int
  | 1 => .int
  | _ => .int
abbrev wsX10 : List Cond := u_ws RX1 TX1 3
theorem nmX1 : ∀ a, a < 3 → ∀ b, b < 3 → a ≠ b → (TX1 a).2.1 ≠ (TX1 b).2.1 := by decide +kernel
theorem tyX1_ok : ∀ k, k < 3 → parseFieldDescriptor (TX1 k).2.2.1 = some (tyX1 k) := by decide +kernel
abbrev cX1_init : ByteArray := prog_3_method_1_code
def yX1_init : MethodName := ⟨RX1, "<init>", "()V"⟩
abbrev cX1_hasNothing : ByteArray := prog_3_method_2_code
def yX1_hasNothing : MethodName := ⟨RX1, "hasNothing", "()Z"⟩
abbrev cX1_empty : ByteArray := prog_3_method_3_code
def yX1_empty : MethodName := ⟨RX1, "empty", "()V"⟩
abbrev cX1_begin : ByteArray := prog_3_method_4_code
def yX1_begin : MethodName := ⟨RX1, "begin", "(II)V"⟩
abbrev cX1_hasCells : ByteArray := prog_3_method_5_code
def yX1_hasCells : MethodName := ⟨RX1, "hasCells", "(II)Z"⟩
abbrev cX1_faultOfTaking : ByteArray := prog_3_method_6_code
def yX1_faultOfTaking : MethodName := ⟨RX1, "faultOfTaking", "(III)I"⟩
def RX2 : String := "HourDoors"
def TX2 : u_T := fun k => match k with
  | 0 => ("HourDoors", "rooms", "I", false)
  | 1 => ("HourDoors", "doorCount", "I", false)
  | 2 => ("HourDoors", "doors", "[LHourDoors$Door;", true)
  | 3 => ("HourDoors", "trial", "LHourDoors$Door;", true)
  | 4 => ("HourDoors", "readingCount", "I", false)
  | 5 => ("HourDoors", "readDoor", "[I", true)
  | 6 => ("HourDoors", "readHour", "[I", true)
  | 7 => ("HourDoors", "readRoom", "[I", true)
  | 8 => ("HourDoors", "sheets", "[LHourDoors$Sheet;", true)
  | 9 => ("HourDoors", "left", "I", false)
  | 10 => ("HourDoors", "latestFault", "I", false)
  | 11 => ("HourDoors", "hopeful", "[I", true)
  | 12 => ("HourDoors", "seen", "[J", true)
  | _ => ("HourDoors", "seenNext", "[J", true)
def tyX2 : Nat → FieldType := fun k => match k with
  | 0 => .int
  | 1 => .int
  | 2 => .array (.object "HourDoors$Door")
  | 3 => .object "HourDoors$Door"
  | 4 => .int
  | 5 => .array .int
  | 6 => .array .int
  | 7 => .array .int
  | 8 => .array (.object "HourDoors$Sheet")
  | 9 => .int
  | 10 => .int
  | 11 => .array .int
  | 12 => .array .long
  | _ => .array .long
abbrev wsX20 : List Cond := u_ws RX2 TX2 14
theorem nmX2 : ∀ a, a < 14 → ∀ b, b < 14 → a ≠ b → (TX2 a).2.1 ≠ (TX2 b).2.1 := by decide +kernel
theorem tyX2_ok : ∀ k, k < 14 → parseFieldDescriptor (TX2 k).2.2.1 = some (tyX2 k) := by decide +kernel
abbrev cX2_init : ByteArray := prog_1_method_1_code
def yX2_init : MethodName := ⟨RX2, "<init>", "()V"⟩
abbrev cX2_house : ByteArray := prog_1_method_2_code
def yX2_house : MethodName := ⟨RX2, "house", "(IIII)I"⟩
abbrev cX2_ofDoor : ByteArray := prog_1_method_3_code
def yX2_ofDoor : MethodName := ⟨RX2, "ofDoor", "(II)I"⟩
abbrev cX2_leads : ByteArray := prog_1_method_4_code
def yX2_leads : MethodName := ⟨RX2, "leads", "(II)I"⟩
abbrev cX2_step : ByteArray := prog_1_method_5_code
def yX2_step : MethodName := ⟨RX2, "step", "(II)I"⟩
abbrev cX2_turn : ByteArray := prog_1_method_6_code
def yX2_turn : MethodName := ⟨RX2, "turn", "(II)I"⟩
abbrev cX2_walk : ByteArray := prog_1_method_7_code
def yX2_walk : MethodName := ⟨RX2, "walk", "(IIIIIII)I"⟩
abbrev cX2_soonest : ByteArray := prog_1_method_8_code
def yX2_soonest : MethodName := ⟨RX2, "soonest", "(IIII)I"⟩
abbrev cX2_errands : ByteArray := prog_1_method_9_code
def yX2_errands : MethodName := ⟨RX2, "errands", "(III)I"⟩
abbrev cX2_meet : ByteArray := prog_1_method_10_code
def yX2_meet : MethodName := ⟨RX2, "meet", "(III)I"⟩
abbrev cX2_cut : ByteArray := prog_1_method_11_code
def yX2_cut : MethodName := ⟨RX2, "cut", "(III)I"⟩
abbrev cX2_reach : ByteArray := prog_1_method_12_code
def yX2_reach : MethodName := ⟨RX2, "reach", "(I)I"⟩
abbrev cX2_reading : ByteArray := prog_1_method_13_code
def yX2_reading : MethodName := ⟨RX2, "reading", "(III)I"⟩
abbrev cX2_back : ByteArray := prog_1_method_14_code
def yX2_back : MethodName := ⟨RX2, "back", "(I)I"⟩
abbrev cX2_steps : ByteArray := prog_1_method_15_code
def yX2_steps : MethodName := ⟨RX2, "steps", "(I)I"⟩
abbrev cX2_targets : ByteArray := prog_1_method_16_code
def yX2_targets : MethodName := ⟨RX2, "targets", "(I)I"⟩
abbrev cX2_kinds : ByteArray := prog_1_method_17_code
def yX2_kinds : MethodName := ⟨RX2, "kinds", "(I)I"⟩
abbrev cX2_odds : ByteArray := prog_1_method_18_code
def yX2_odds : MethodName := ⟨RX2, "odds", "(IIII)J"⟩
abbrev cX2_sheet : ByteArray := prog_1_method_19_code
def yX2_sheet : MethodName := ⟨RX2, "sheet", "(III)I"⟩
abbrev cX2_lose : ByteArray := prog_1_method_20_code
def yX2_lose : MethodName := ⟨RX2, "lose", "(I)I"⟩
abbrev cX2_put : ByteArray := prog_1_method_21_code
def yX2_put : MethodName := ⟨RX2, "put", "(III)I"⟩
abbrev cX2_cell : ByteArray := prog_1_method_22_code
def yX2_cell : MethodName := ⟨RX2, "cell", "(III)J"⟩
abbrev cX2_copy : ByteArray := prog_1_method_23_code
def yX2_copy : MethodName := ⟨RX2, "copy", "(IIIII)I"⟩
abbrev cX2_tell : ByteArray := prog_1_method_24_code
def yX2_tell : MethodName := ⟨RX2, "tell", "(I)I"⟩
abbrev cX2_knock : ByteArray := prog_1_method_25_code
def yX2_knock : MethodName := ⟨RX2, "knock", "(I)I"⟩
abbrev cX2_as : ByteArray := prog_1_method_26_code
def yX2_as : MethodName := ⟨RX2, "as", "(II)I"⟩
abbrev cX2_trace : ByteArray := prog_1_method_27_code
def yX2_trace : MethodName := ⟨RX2, "trace", "()I"⟩
abbrev cX2_fault : ByteArray := prog_1_method_28_code
def yX2_fault : MethodName := ⟨RX2, "fault", "()I"⟩
abbrev cX2_many : ByteArray := prog_1_method_29_code
def yX2_many : MethodName := ⟨RX2, "many", "(I)I"⟩
abbrev cX2_isRoom : ByteArray := prog_1_method_30_code
def yX2_isRoom : MethodName := ⟨RX2, "isRoom", "(I)Z"⟩
abbrev cX2_isDoor : ByteArray := prog_1_method_31_code
def yX2_isDoor : MethodName := ⟨RX2, "isDoor", "(I)Z"⟩
abbrev cX2_isHour : ByteArray := prog_1_method_32_code
def yX2_isHour : MethodName := ⟨RX2, "isHour", "(I)Z"⟩
abbrev cX2_isSheet : ByteArray := prog_1_method_33_code
def yX2_isSheet : MethodName := ⟨RX2, "isSheet", "(I)Z"⟩
abbrev cX2_isLane : ByteArray := prog_1_method_34_code
def yX2_isLane : MethodName := ⟨RX2, "isLane", "(I)Z"⟩
abbrev cX2_allRooms : ByteArray := prog_1_method_35_code
def yX2_allRooms : MethodName := ⟨RX2, "allRooms", "()I"⟩
abbrev cX2_faulted : ByteArray := prog_1_method_36_code
def yX2_faulted : MethodName := ⟨RX2, "faulted", "(I)I"⟩
abbrev cX2_firstFault : ByteArray := prog_1_method_37_code
def yX2_firstFault : MethodName := ⟨RX2, "firstFault", "(LHourDoors$Sheet;II)I"⟩
abbrev cX2_goesOn : ByteArray := prog_1_method_38_code
def yX2_goesOn : MethodName := ⟨RX2, "goesOn", "(III)Z"⟩
abbrev cX2_build : ByteArray := prog_1_method_39_code
def yX2_build : MethodName := ⟨RX2, "build", "(LHourDoors$Sheet;II)V"⟩
abbrev cX2_kindOfLetter : ByteArray := prog_1_method_40_code
def yX2_kindOfLetter : MethodName := ⟨RX2, "kindOfLetter", "(I)I"⟩
abbrev cX2_areActs : ByteArray := prog_1_method_41_code
def yX2_areActs : MethodName := ⟨RX2, "areActs", "(LHourDoors$Sheet;II)Z"⟩
abbrev cX2_roomAfter : ByteArray := prog_1_method_42_code
def yX2_roomAfter : MethodName := ⟨RX2, "roomAfter", "(III)I"⟩
abbrev cX2_walked : ByteArray := prog_1_method_43_code
def yX2_walked : MethodName := ⟨RX2, "walked", "(IILHourDoors$Sheet;III)I"⟩
abbrev cX2_anHourOn : ByteArray := prog_1_method_44_code
def yX2_anHourOn : MethodName := ⟨RX2, "anHourOn", "(III)I"⟩
abbrev cX2_fewestHours : ByteArray := prog_1_method_45_code
def yX2_fewestHours : MethodName := ⟨RX2, "fewestHours", "(IIII)I"⟩
abbrev cX2_roomsInTime : ByteArray := prog_1_method_46_code
def yX2_roomsInTime : MethodName := ⟨RX2, "roomsInTime", "(II)I"⟩
abbrev cX2_actOfSoonest : ByteArray := prog_1_method_47_code
def yX2_actOfSoonest : MethodName := ⟨RX2, "actOfSoonest", "(IIIII)I"⟩
abbrev cX2_fillHopeful : ByteArray := prog_1_method_48_code
def yX2_fillHopeful : MethodName := ⟨RX2, "fillHopeful", "(III)V"⟩
abbrev cX2_anHourAhead : ByteArray := prog_1_method_49_code
def yX2_anHourAhead : MethodName := ⟨RX2, "anHourAhead", "(II)I"⟩
abbrev cX2_firstHopefulAct : ByteArray := prog_1_method_50_code
def yX2_firstHopefulAct : MethodName := ⟨RX2, "firstHopefulAct", "(III)I"⟩
abbrev cX2_has : ByteArray := prog_1_method_51_code
def yX2_has : MethodName := ⟨RX2, "has", "(II)Z"⟩
abbrev cX2_errandHours : ByteArray := prog_1_method_52_code
def yX2_errandHours : MethodName := ⟨RX2, "errandHours", "(III)I"⟩
abbrev cX2_setsWithAll : ByteArray := prog_1_method_53_code
def yX2_setsWithAll : MethodName := ⟨RX2, "setsWithAll", "(I)J"⟩
abbrev cX2_anySeen : ByteArray := prog_1_method_54_code
def yX2_anySeen : MethodName := ⟨RX2, "anySeen", "(J)Z"⟩
abbrev cX2_seeAnHourOn : ByteArray := prog_1_method_55_code
def yX2_seeAnHourOn : MethodName := ⟨RX2, "seeAnHourOn", "(I)V"⟩
abbrev cX2_eachWith : ByteArray := prog_1_method_56_code
def yX2_eachWith : MethodName := ⟨RX2, "eachWith", "(JI)J"⟩
abbrev cX2_readingsHold : ByteArray := prog_1_method_57_code
def yX2_readingsHold : MethodName := ⟨RX2, "readingsHold", "(I)Z"⟩
abbrev cX2_commonWithHours : ByteArray := prog_1_method_58_code
def yX2_commonWithHours : MethodName := ⟨RX2, "commonWithHours", "(I)I"⟩
abbrev cX2_cutToLane : ByteArray := prog_1_method_59_code
def yX2_cutToLane : MethodName := ⟨RX2, "cutToLane", "(II)I"⟩
abbrev cX2_leaveNumber : ByteArray := prog_1_method_60_code
def yX2_leaveNumber : MethodName := ⟨RX2, "leaveNumber", "(I)V"⟩
abbrev cX2_plainTelling : ByteArray := prog_1_method_61_code
def yX2_plainTelling : MethodName := ⟨RX2, "plainTelling", "(LHourDoors$Door;)I"⟩
abbrev cX2_lateTelling : ByteArray := prog_1_method_62_code
def yX2_lateTelling : MethodName := ⟨RX2, "lateTelling", "(LHourDoors$Door;)I"⟩
abbrev cX2_cupboardTelling : ByteArray := prog_1_method_63_code
def yX2_cupboardTelling : MethodName := ⟨RX2, "cupboardTelling", "(LHourDoors$Door;)I"⟩
def RX3 : String := "HourDoorsModel"
def TX3 : u_T := fun k => match k with
  | 0 => ("HourDoorsModel", "fault", "I", false)
  | 1 => ("HourDoorsModel", "rooms", "I", false)
  | 2 => ("HourDoorsModel", "doors", "I", false)
  | 3 => ("HourDoorsModel", "kindOf", "[I", true)
  | 4 => ("HourDoorsModel", "roomOf", "[I", true)
  | 5 => ("HourDoorsModel", "toOf", "[I", true)
  | 6 => ("HourDoorsModel", "stepOf", "[I", true)
  | 7 => ("HourDoorsModel", "gone", "I", false)
  | 8 => ("HourDoorsModel", "readAt", "I", false)
  | 9 => ("HourDoorsModel", "readRooms", "I", false)
  | 10 => ("HourDoorsModel", "readDoors", "I", false)
  | 11 => ("HourDoorsModel", "readKind", "[I", true)
  | 12 => ("HourDoorsModel", "readRoom", "[I", true)
  | 13 => ("HourDoorsModel", "readTo", "[I", true)
  | 14 => ("HourDoorsModel", "readStep", "[I", true)
  | 15 => ("HourDoorsModel", "firstWrong", "I", false)
  | 16 => ("HourDoorsModel", "endsAt", "I", false)
  | 17 => ("HourDoorsModel", "seen", "I", false)
  | 18 => ("HourDoorsModel", "goings", "I", false)
  | 19 => ("HourDoorsModel", "beenIn", "[I", true)
  | 20 => ("HourDoorsModel", "thenIn", "[I", true)
  | 21 => ("HourDoorsModel", "readings", "I", false)
  | 22 => ("HourDoorsModel", "readingOf", "[I", true)
  | 23 => ("HourDoorsModel", "readingBy", "[I", true)
  | 24 => ("HourDoorsModel", "readingAt", "[I", true)
  | 25 => ("HourDoorsModel", "sheetSize", "[I", true)
  | 26 => ("HourDoorsModel", "sheetLane", "[I", true)
  | 27 => ("HourDoorsModel", "sheet", "[I", true)
  | 28 => ("HourDoorsModel", "hands", "[I", true)
  | _ => ("HourDoorsModel", "traceNow", "I", false)
def tyX3 : Nat → FieldType := fun k => match k with
  | 0 => .int
  | 1 => .int
  | 2 => .int
  | 3 => .array .int
  | 4 => .array .int
  | 5 => .array .int
  | 6 => .array .int
  | 7 => .int
  | 8 => .int
  | 9 => .int
  | 10 => .int
  | 11 => .array .int
  | 12 => .array .int
  | 13 => .array .int
  | 14 => .array .int
  | 15 => .int
  | 16 => .int
  | 17 => .int
  | 18 => .int
  | 19 => .array .int
  | 20 => .array .int
  | 21 => .int
  | 22 => .array .int
  | 23 => .array .int
  | 24 => .array .int
  | 25 => .array .int
  | 26 => .array .int
  | 27 => .array .int
  | 28 => .array .int
  | _ => .int
abbrev wsX30 : List Cond := u_ws RX3 TX3 30
theorem nmX3 : ∀ a, a < 30 → ∀ b, b < 30 → a ≠ b → (TX3 a).2.1 ≠ (TX3 b).2.1 := by decide +kernel
theorem tyX3_ok : ∀ k, k < 30 → parseFieldDescriptor (TX3 k).2.2.1 = some (tyX3 k) := by decide +kernel
abbrev cX3_init : ByteArray := prog_5_method_1_code
def yX3_init : MethodName := ⟨RX3, "<init>", "()V"⟩
abbrev cX3_in : ByteArray := prog_5_method_2_code
def yX3_in : MethodName := ⟨RX3, "in", "(JJJ)Z"⟩
abbrev cX3_lost : ByteArray := prog_5_method_3_code
def yX3_lost : MethodName := ⟨RX3, "lost", "()J"⟩
abbrev cX3_isIn : ByteArray := prog_5_method_4_code
def yX3_isIn : MethodName := ⟨RX3, "isIn", "(II)Z"⟩
abbrev cX3_share : ByteArray := prog_5_method_5_code
def yX3_share : MethodName := ⟨RX3, "share", "(JJI)J"⟩
abbrev cX3_refused : ByteArray := prog_5_method_6_code
def yX3_refused : MethodName := ⟨RX3, "refused", "(I)I"⟩
abbrev cX3_failed : ByteArray := prog_5_method_7_code
def yX3_failed : MethodName := ⟨RX3, "failed", "(I)I"⟩
abbrev cX3_failedLong : ByteArray := prog_5_method_8_code
def yX3_failedLong : MethodName := ⟨RX3, "failedLong", "(I)J"⟩
abbrev cX3_noRoom : ByteArray := prog_5_method_9_code
def yX3_noRoom : MethodName := ⟨RX3, "noRoom", "(I)Z"⟩
abbrev cX3_noDoor : ByteArray := prog_5_method_10_code
def yX3_noDoor : MethodName := ⟨RX3, "noDoor", "(I)Z"⟩
abbrev cX3_noHour : ByteArray := prog_5_method_11_code
def yX3_noHour : MethodName := ⟨RX3, "noHour", "(I)Z"⟩
abbrev cX3_codeAt : ByteArray := prog_5_method_12_code
def yX3_codeAt : MethodName := ⟨RX3, "codeAt", "(II)I"⟩
abbrev cX3_figure : ByteArray := prog_5_method_13_code
def yX3_figure : MethodName := ⟨RX3, "figure", "(IIII)I"⟩
abbrev cX3_readsDoor : ByteArray := prog_5_method_14_code
def yX3_readsDoor : MethodName := ⟨RX3, "readsDoor", "(II)Z"⟩
abbrev cX3_readsHouse : ByteArray := prog_5_method_15_code
def yX3_readsHouse : MethodName := ⟨RX3, "readsHouse", "(II)Z"⟩
abbrev cX3_cellsBarred : ByteArray := prog_5_method_16_code
def yX3_cellsBarred : MethodName := ⟨RX3, "cellsBarred", "(IIIJ)I"⟩
abbrev cX3_house : ByteArray := prog_5_method_17_code
def yX3_house : MethodName := ⟨RX3, "house", "(IIII)I"⟩
abbrev cX3_ofDoor : ByteArray := prog_5_method_18_code
def yX3_ofDoor : MethodName := ⟨RX3, "ofDoor", "(II)I"⟩
abbrev cX3_leadsAt : ByteArray := prog_5_method_19_code
def yX3_leadsAt : MethodName := ⟨RX3, "leadsAt", "(II)I"⟩
abbrev cX3_leads : ByteArray := prog_5_method_20_code
def yX3_leads : MethodName := ⟨RX3, "leads", "(II)I"⟩
abbrev cX3_step : ByteArray := prog_5_method_21_code
def yX3_step : MethodName := ⟨RX3, "step", "(II)I"⟩
abbrev cX3_turn : ByteArray := prog_5_method_22_code
def yX3_turn : MethodName := ⟨RX3, "turn", "(II)I"⟩
abbrev cX3_behind : ByteArray := prog_5_method_23_code
def yX3_behind : MethodName := ⟨RX3, "behind", "(III)I"⟩
abbrev cX3_goWalk : ByteArray := prog_5_method_24_code
def yX3_goWalk : MethodName := ⟨RX3, "goWalk", "(IIII)V"⟩
abbrev cX3_walk : ByteArray := prog_5_method_25_code
def yX3_walk : MethodName := ⟨RX3, "walk", "(IIIIIII)I"⟩
abbrev cX3_setBehind : ByteArray := prog_5_method_26_code
def yX3_setBehind : MethodName := ⟨RX3, "setBehind", "(II)I"⟩
abbrev cX3_soonestOf : ByteArray := prog_5_method_27_code
def yX3_soonestOf : MethodName := ⟨RX3, "soonestOf", "(IIII)I"⟩
abbrev cX3_soonest : ByteArray := prog_5_method_28_code
def yX3_soonest : MethodName := ⟨RX3, "soonest", "(IIII)I"⟩
abbrev cX3_goHour : ByteArray := prog_5_method_29_code
def yX3_goHour : MethodName := ⟨RX3, "goHour", "(I)V"⟩
abbrev cX3_goOn : ByteArray := prog_5_method_30_code
def yX3_goOn : MethodName := ⟨RX3, "goOn", "(III)V"⟩
abbrev cX3_haveBeen : ByteArray := prog_5_method_31_code
def yX3_haveBeen : MethodName := ⟨RX3, "haveBeen", "(I)Z"⟩
abbrev cX3_errands : ByteArray := prog_5_method_32_code
def yX3_errands : MethodName := ⟨RX3, "errands", "(III)I"⟩
abbrev cX3_meet : ByteArray := prog_5_method_33_code
def yX3_meet : MethodName := ⟨RX3, "meet", "(III)I"⟩
abbrev cX3_cut : ByteArray := prog_5_method_34_code
def yX3_cut : MethodName := ⟨RX3, "cut", "(III)I"⟩
abbrev cX3_reach : ByteArray := prog_5_method_35_code
def yX3_reach : MethodName := ⟨RX3, "reach", "(I)I"⟩
abbrev cX3_reading : ByteArray := prog_5_method_36_code
def yX3_reading : MethodName := ⟨RX3, "reading", "(III)I"⟩
abbrev cX3_back : ByteArray := prog_5_method_37_code
def yX3_back : MethodName := ⟨RX3, "back", "(I)I"⟩
abbrev cX3_areSo : ByteArray := prog_5_method_38_code
def yX3_areSo : MethodName := ⟨RX3, "areSo", "()Z"⟩
abbrev cX3_steps : ByteArray := prog_5_method_39_code
def yX3_steps : MethodName := ⟨RX3, "steps", "(I)I"⟩
abbrev cX3_targets : ByteArray := prog_5_method_40_code
def yX3_targets : MethodName := ⟨RX3, "targets", "(I)I"⟩
abbrev cX3_kinds : ByteArray := prog_5_method_41_code
def yX3_kinds : MethodName := ⟨RX3, "kinds", "(I)I"⟩
abbrev cX3_odds : ByteArray := prog_5_method_42_code
def yX3_odds : MethodName := ⟨RX3, "odds", "(IIII)J"⟩
abbrev cX3_noSheet : ByteArray := prog_5_method_43_code
def yX3_noSheet : MethodName := ⟨RX3, "noSheet", "(I)Z"⟩
abbrev cX3_sheet : ByteArray := prog_5_method_44_code
def yX3_sheet : MethodName := ⟨RX3, "sheet", "(III)I"⟩
abbrev cX3_lose : ByteArray := prog_5_method_45_code
def yX3_lose : MethodName := ⟨RX3, "lose", "(I)I"⟩
abbrev cX3_noCell : ByteArray := prog_5_method_46_code
def yX3_noCell : MethodName := ⟨RX3, "noCell", "(II)I"⟩
abbrev cX3_put : ByteArray := prog_5_method_47_code
def yX3_put : MethodName := ⟨RX3, "put", "(III)I"⟩
abbrev cX3_cell : ByteArray := prog_5_method_48_code
def yX3_cell : MethodName := ⟨RX3, "cell", "(III)J"⟩
abbrev cX3_isBeyond : ByteArray := prog_5_method_49_code
def yX3_isBeyond : MethodName := ⟨RX3, "isBeyond", "(IJI)Z"⟩
abbrev cX3_copy : ByteArray := prog_5_method_50_code
def yX3_copy : MethodName := ⟨RX3, "copy", "(IIIII)I"⟩
abbrev cX3_traced : ByteArray := prog_5_method_51_code
def yX3_traced : MethodName := ⟨RX3, "traced", "(I)V"⟩
abbrev cX3_tell : ByteArray := prog_5_method_52_code
def yX3_tell : MethodName := ⟨RX3, "tell", "(I)I"⟩
abbrev cX3_knock : ByteArray := prog_5_method_53_code
def yX3_knock : MethodName := ⟨RX3, "knock", "(I)I"⟩
abbrev cX3_as : ByteArray := prog_5_method_54_code
def yX3_as : MethodName := ⟨RX3, "as", "(II)I"⟩
abbrev cX3_trace : ByteArray := prog_5_method_55_code
def yX3_trace : MethodName := ⟨RX3, "trace", "()I"⟩
abbrev cX3_fault : ByteArray := prog_5_method_56_code
def yX3_fault : MethodName := ⟨RX3, "fault", "()I"⟩
abbrev cX3_many : ByteArray := prog_5_method_57_code
def yX3_many : MethodName := ⟨RX3, "many", "(I)I"⟩
def RJ10 : String := "java/lang/System"
def RJ7 : String := "java/util/Arrays"
abbrev cJ7_fill_d0a16 : ByteArray := prog_7_method_101_code
def yJ7_fill_d0a16 : MethodName := ⟨RJ7, "fill", "([JJ)V"⟩
abbrev cJ7_fill_53178 : ByteArray := prog_7_method_103_code
def yJ7_fill_53178 : MethodName := ⟨RJ7, "fill", "([II)V"⟩
def RL : String := "HourDoorsLaw"
abbrev cL_law : ByteArray := code
def yL_law : MethodName := ⟨RL, "law", "([I)Z"⟩
abbrev vwCl : List vw_C := [(RX0, TX0, 4), (RX1, TX1, 3), (RX2, TX2, 14), (RX3, TX3, 30)]
end
section
theorem dX0_init_0 : decode cX0_init 0 = .ok (.aload_n 0, 1) := by decide +kernel
theorem dX0_init_1 : decode cX0_init 1 = .ok (.invokespecial 3, 3) := by decide +kernel
theorem dX0_init_4 : decode cX0_init 4 = .ok (.return_, 1) := by decide +kernel
theorem dX0_becomeLike_0 : decode cX0_becomeLike 0 = .ok (.aload_n 0, 1) := by decide +kernel
theorem dX0_becomeLike_1 : decode cX0_becomeLike 1 = .ok (.aload_n 1, 1) := by decide +kernel
theorem dX0_becomeLike_2 : decode cX0_becomeLike 2 = .ok (.getfield 9, 3) := by decide +kernel
theorem dX0_becomeLike_5 : decode cX0_becomeLike 5 = .ok (.putfield 9, 3) := by decide +kernel
theorem dX0_becomeLike_8 : decode cX0_becomeLike 8 = .ok (.aload_n 0, 1) := by decide +kernel
theorem dX0_becomeLike_9 : decode cX0_becomeLike 9 = .ok (.aload_n 1, 1) := by decide +kernel
theorem dX0_becomeLike_10 : decode cX0_becomeLike 10 = .ok (.getfield 15, 3) := by decide +kernel
theorem dX0_becomeLike_13 : decode cX0_becomeLike 13 = .ok (.putfield 15, 3) := by decide +kernel
theorem dX0_becomeLike_16 : decode cX0_becomeLike 16 = .ok (.aload_n 0, 1) := by decide +kernel
theorem dX0_becomeLike_17 : decode cX0_becomeLike 17 = .ok (.aload_n 1, 1) := by decide +kernel
theorem dX0_becomeLike_18 : decode cX0_becomeLike 18 = .ok (.getfield 18, 3) := by decide +kernel
theorem dX0_becomeLike_21 : decode cX0_becomeLike 21 = .ok (.putfield 18, 3) := by decide +kernel
theorem dX0_becomeLike_24 : decode cX0_becomeLike 24 = .ok (.aload_n 0, 1) := by decide +kernel
theorem dX0_becomeLike_25 : decode cX0_becomeLike 25 = .ok (.aload_n 1, 1) := by decide +kernel
theorem dX0_becomeLike_26 : decode cX0_becomeLike 26 = .ok (.getfield 21, 3) := by decide +kernel
theorem dX0_becomeLike_29 : decode cX0_becomeLike 29 = .ok (.putfield 21, 3) := by decide +kernel
theorem dX0_becomeLike_32 : decode cX0_becomeLike 32 = .ok (.return_, 1) := by decide +kernel
theorem dX0_leadsTo_0 : decode cX0_leadsTo 0 = .ok (.iload_n 2, 1) := by decide +kernel
theorem dX0_leadsTo_1 : decode cX0_leadsTo 1 = .ok (.ifCond .gt 6, 3) := by decide +kernel
theorem dX0_leadsTo_4 : decode cX0_leadsTo 4 = .ok (.bipush (-9), 2) := by decide +kernel
theorem dX0_leadsTo_6 : decode cX0_leadsTo 6 = .ok (.ireturn, 1) := by decide +kernel
theorem dX0_leadsTo_7 : decode cX0_leadsTo 7 = .ok (.aload_n 0, 1) := by decide +kernel
theorem dX0_leadsTo_8 : decode cX0_leadsTo 8 = .ok (.getfield 9, 3) := by decide +kernel
theorem dX0_leadsTo_11 : decode cX0_leadsTo 11 = .ok (.iconst 2, 1) := by decide +kernel
theorem dX0_leadsTo_12 : decode cX0_leadsTo 12 = .ok (.if_icmp .ne 12, 3) := by decide +kernel
theorem dX0_leadsTo_15 : decode cX0_leadsTo 15 = .ok (.iload_n 1, 1) := by decide +kernel
theorem dX0_leadsTo_16 : decode cX0_leadsTo 16 = .ok (.iconst 3, 1) := by decide +kernel
theorem dX0_leadsTo_17 : decode cX0_leadsTo 17 = .ok (.irem, 1) := by decide +kernel
theorem dX0_leadsTo_18 : decode cX0_leadsTo 18 = .ok (.ifCond .eq 6, 3) := by decide +kernel
theorem dX0_leadsTo_21 : decode cX0_leadsTo 21 = .ok (.bipush (-9), 2) := by decide +kernel
theorem dX0_leadsTo_23 : decode cX0_leadsTo 23 = .ok (.ireturn, 1) := by decide +kernel
theorem dX0_leadsTo_24 : decode cX0_leadsTo 24 = .ok (.aload_n 0, 1) := by decide +kernel
theorem dX0_leadsTo_25 : decode cX0_leadsTo 25 = .ok (.getfield 9, 3) := by decide +kernel
theorem dX0_leadsTo_28 : decode cX0_leadsTo 28 = .ok (.ifCond .ne 7, 3) := by decide +kernel
theorem dX0_leadsTo_31 : decode cX0_leadsTo 31 = .ok (.iload_n 1, 1) := by decide +kernel
theorem dX0_leadsTo_32 : decode cX0_leadsTo 32 = .ok (.goto 12, 3) := by decide +kernel
theorem dX0_leadsTo_35 : decode cX0_leadsTo 35 = .ok (.iload_n 1, 1) := by decide +kernel
theorem dX0_leadsTo_36 : decode cX0_leadsTo 36 = .ok (.bipush 12, 2) := by decide +kernel
theorem dX0_leadsTo_38 : decode cX0_leadsTo 38 = .ok (.iadd, 1) := by decide +kernel
theorem dX0_leadsTo_39 : decode cX0_leadsTo 39 = .ok (.iconst 1, 1) := by decide +kernel
theorem dX0_leadsTo_40 : decode cX0_leadsTo 40 = .ok (.isub, 1) := by decide +kernel
theorem dX0_leadsTo_41 : decode cX0_leadsTo 41 = .ok (.bipush 12, 2) := by decide +kernel
theorem dX0_leadsTo_43 : decode cX0_leadsTo 43 = .ok (.irem, 1) := by decide +kernel
theorem dX0_leadsTo_44 : decode cX0_leadsTo 44 = .ok (.istore_n 3, 1) := by decide +kernel
theorem dX0_leadsTo_45 : decode cX0_leadsTo 45 = .ok (.aload_n 0, 1) := by decide +kernel
theorem dX0_leadsTo_46 : decode cX0_leadsTo 46 = .ok (.getfield 18, 3) := by decide +kernel
theorem dX0_leadsTo_49 : decode cX0_leadsTo 49 = .ok (.aload_n 0, 1) := by decide +kernel
theorem dX0_leadsTo_50 : decode cX0_leadsTo 50 = .ok (.getfield 21, 3) := by decide +kernel
theorem dX0_leadsTo_53 : decode cX0_leadsTo 53 = .ok (.iload_n 3, 1) := by decide +kernel
theorem dX0_leadsTo_54 : decode cX0_leadsTo 54 = .ok (.imul, 1) := by decide +kernel
theorem dX0_leadsTo_55 : decode cX0_leadsTo 55 = .ok (.iadd, 1) := by decide +kernel
theorem dX0_leadsTo_56 : decode cX0_leadsTo 56 = .ok (.iload_n 2, 1) := by decide +kernel
theorem dX0_leadsTo_57 : decode cX0_leadsTo 57 = .ok (.irem, 1) := by decide +kernel
theorem dX0_leadsTo_58 : decode cX0_leadsTo 58 = .ok (.ireturn, 1) := by decide +kernel
theorem dX1_init_0 : decode cX1_init 0 = .ok (.aload_n 0, 1) := by decide +kernel
theorem dX1_init_1 : decode cX1_init 1 = .ok (.invokespecial 3, 3) := by decide +kernel
theorem dX1_init_4 : decode cX1_init 4 = .ok (.aload_n 0, 1) := by decide +kernel
theorem dX1_init_5 : decode cX1_init 5 = .ok (.bipush 60, 2) := by decide +kernel
theorem dX1_init_7 : decode cX1_init 7 = .ok (.newarray .int, 2) := by decide +kernel
theorem dX1_init_9 : decode cX1_init 9 = .ok (.putfield 9, 3) := by decide +kernel
theorem dX1_init_12 : decode cX1_init 12 = .ok (.aload_n 0, 1) := by decide +kernel
theorem dX1_init_13 : decode cX1_init 13 = .ok (.iconst (-1), 1) := by decide +kernel
theorem dX1_init_14 : decode cX1_init 14 = .ok (.putfield 15, 3) := by decide +kernel
theorem dX1_init_17 : decode cX1_init 17 = .ok (.return_, 1) := by decide +kernel
theorem dX1_hasNothing_0 : decode cX1_hasNothing 0 = .ok (.aload_n 0, 1) := by decide +kernel
theorem dX1_hasNothing_1 : decode cX1_hasNothing 1 = .ok (.getfield 15, 3) := by decide +kernel
theorem dX1_hasNothing_4 : decode cX1_hasNothing 4 = .ok (.iconst (-1), 1) := by decide +kernel
theorem dX1_hasNothing_5 : decode cX1_hasNothing 5 = .ok (.if_icmp .ne 7, 3) := by decide +kernel
theorem dX1_hasNothing_8 : decode cX1_hasNothing 8 = .ok (.iconst 1, 1) := by decide +kernel
theorem dX1_hasNothing_9 : decode cX1_hasNothing 9 = .ok (.goto 4, 3) := by decide +kernel
theorem dX1_hasNothing_12 : decode cX1_hasNothing 12 = .ok (.iconst 0, 1) := by decide +kernel
theorem dX1_hasNothing_13 : decode cX1_hasNothing 13 = .ok (.ireturn, 1) := by decide +kernel
theorem dX1_empty_0 : decode cX1_empty 0 = .ok (.aload_n 0, 1) := by decide +kernel
theorem dX1_empty_1 : decode cX1_empty 1 = .ok (.iconst (-1), 1) := by decide +kernel
theorem dX1_empty_2 : decode cX1_empty 2 = .ok (.putfield 15, 3) := by decide +kernel
theorem dX1_empty_5 : decode cX1_empty 5 = .ok (.return_, 1) := by decide +kernel
theorem dX1_begin_0 : decode cX1_begin 0 = .ok (.aload_n 0, 1) := by decide +kernel
theorem dX1_begin_1 : decode cX1_begin 1 = .ok (.getfield 9, 3) := by decide +kernel
theorem dX1_begin_4 : decode cX1_begin 4 = .ok (.iconst 0, 1) := by decide +kernel
theorem dX1_begin_5 : decode cX1_begin 5 = .ok (.invokestatic 19, 3) := by decide +kernel
theorem dX1_begin_8 : decode cX1_begin 8 = .ok (.aload_n 0, 1) := by decide +kernel
theorem dX1_begin_9 : decode cX1_begin 9 = .ok (.iload_n 1, 1) := by decide +kernel
theorem dX1_begin_10 : decode cX1_begin 10 = .ok (.putfield 25, 3) := by decide +kernel
theorem dX1_begin_13 : decode cX1_begin 13 = .ok (.aload_n 0, 1) := by decide +kernel
theorem dX1_begin_14 : decode cX1_begin 14 = .ok (.iload_n 2, 1) := by decide +kernel
theorem dX1_begin_15 : decode cX1_begin 15 = .ok (.putfield 15, 3) := by decide +kernel
theorem dX1_begin_18 : decode cX1_begin 18 = .ok (.return_, 1) := by decide +kernel
theorem dX1_hasCells_0 : decode cX1_hasCells 0 = .ok (.iload_n 1, 1) := by decide +kernel
theorem dX1_hasCells_1 : decode cX1_hasCells 1 = .ok (.ifCond .lt 29, 3) := by decide +kernel
theorem dX1_hasCells_4 : decode cX1_hasCells 4 = .ok (.iload_n 1, 1) := by decide +kernel
theorem dX1_hasCells_5 : decode cX1_hasCells 5 = .ok (.aload_n 0, 1) := by decide +kernel
theorem dX1_hasCells_6 : decode cX1_hasCells 6 = .ok (.getfield 15, 3) := by decide +kernel
theorem dX1_hasCells_9 : decode cX1_hasCells 9 = .ok (.if_icmp .gt 21, 3) := by decide +kernel
theorem dX1_hasCells_12 : decode cX1_hasCells 12 = .ok (.iload_n 2, 1) := by decide +kernel
theorem dX1_hasCells_13 : decode cX1_hasCells 13 = .ok (.ifCond .lt 17, 3) := by decide +kernel
theorem dX1_hasCells_16 : decode cX1_hasCells 16 = .ok (.iload_n 2, 1) := by decide +kernel
theorem dX1_hasCells_17 : decode cX1_hasCells 17 = .ok (.aload_n 0, 1) := by decide +kernel
theorem dX1_hasCells_18 : decode cX1_hasCells 18 = .ok (.getfield 15, 3) := by decide +kernel
theorem dX1_hasCells_21 : decode cX1_hasCells 21 = .ok (.iload_n 1, 1) := by decide +kernel
theorem dX1_hasCells_22 : decode cX1_hasCells 22 = .ok (.isub, 1) := by decide +kernel
theorem dX1_hasCells_23 : decode cX1_hasCells 23 = .ok (.if_icmp .gt 7, 3) := by decide +kernel
theorem dX1_hasCells_26 : decode cX1_hasCells 26 = .ok (.iconst 1, 1) := by decide +kernel
theorem dX1_hasCells_27 : decode cX1_hasCells 27 = .ok (.goto 4, 3) := by decide +kernel
theorem dX1_hasCells_30 : decode cX1_hasCells 30 = .ok (.iconst 0, 1) := by decide +kernel
theorem dX1_hasCells_31 : decode cX1_hasCells 31 = .ok (.ireturn, 1) := by decide +kernel
theorem dX1_faultOfTaking_0 : decode cX1_faultOfTaking 0 = .ok (.aload_n 0, 1) := by decide +kernel
theorem dX1_faultOfTaking_1 : decode cX1_faultOfTaking 1 = .ok (.invokevirtual 28, 3) := by decide +kernel
theorem dX1_faultOfTaking_4 : decode cX1_faultOfTaking 4 = .ok (.ifCond .eq 5, 3) := by decide +kernel
theorem dX1_faultOfTaking_7 : decode cX1_faultOfTaking 7 = .ok (.iconst 1, 1) := by decide +kernel
theorem dX1_faultOfTaking_8 : decode cX1_faultOfTaking 8 = .ok (.ireturn, 1) := by decide +kernel
theorem dX1_faultOfTaking_9 : decode cX1_faultOfTaking 9 = .ok (.aload_n 0, 1) := by decide +kernel
theorem dX1_faultOfTaking_10 : decode cX1_faultOfTaking 10 = .ok (.getfield 25, 3) := by decide +kernel
theorem dX1_faultOfTaking_13 : decode cX1_faultOfTaking 13 = .ok (.iload_n 1, 1) := by decide +kernel
theorem dX1_faultOfTaking_14 : decode cX1_faultOfTaking 14 = .ok (.if_icmp .eq 5, 3) := by decide +kernel
theorem dX1_faultOfTaking_17 : decode cX1_faultOfTaking 17 = .ok (.iconst 2, 1) := by decide +kernel
theorem dX1_faultOfTaking_18 : decode cX1_faultOfTaking 18 = .ok (.ireturn, 1) := by decide +kernel
theorem dX1_faultOfTaking_19 : decode cX1_faultOfTaking 19 = .ok (.iload_n 3, 1) := by decide +kernel
theorem dX1_faultOfTaking_20 : decode cX1_faultOfTaking 20 = .ok (.ifCond .ge 5, 3) := by decide +kernel
theorem dX1_faultOfTaking_23 : decode cX1_faultOfTaking 23 = .ok (.iconst 4, 1) := by decide +kernel
theorem dX1_faultOfTaking_24 : decode cX1_faultOfTaking 24 = .ok (.ireturn, 1) := by decide +kernel
theorem dX1_faultOfTaking_25 : decode cX1_faultOfTaking 25 = .ok (.aload_n 0, 1) := by decide +kernel
theorem dX1_faultOfTaking_26 : decode cX1_faultOfTaking 26 = .ok (.iload_n 2, 1) := by decide +kernel
theorem dX1_faultOfTaking_27 : decode cX1_faultOfTaking 27 = .ok (.iload_n 3, 1) := by decide +kernel
theorem dX1_faultOfTaking_28 : decode cX1_faultOfTaking 28 = .ok (.invokevirtual 32, 3) := by decide +kernel
theorem dX1_faultOfTaking_31 : decode cX1_faultOfTaking 31 = .ok (.ifCond .eq 7, 3) := by decide +kernel
theorem dX1_faultOfTaking_34 : decode cX1_faultOfTaking 34 = .ok (.iconst 0, 1) := by decide +kernel
theorem dX1_faultOfTaking_35 : decode cX1_faultOfTaking 35 = .ok (.goto 4, 3) := by decide +kernel
theorem dX1_faultOfTaking_38 : decode cX1_faultOfTaking 38 = .ok (.iconst 3, 1) := by decide +kernel
theorem dX1_faultOfTaking_39 : decode cX1_faultOfTaking 39 = .ok (.ireturn, 1) := by decide +kernel
theorem dX2_init_0 : decode cX2_init 0 = .ok (.aload_n 0, 1) := by decide +kernel
theorem dX2_init_1 : decode cX2_init 1 = .ok (.invokespecial 3, 3) := by decide +kernel
theorem dX2_init_4 : decode cX2_init 4 = .ok (.aload_n 0, 1) := by decide +kernel
theorem dX2_init_5 : decode cX2_init 5 = .ok (.bipush 8, 2) := by decide +kernel
theorem dX2_init_7 : decode cX2_init 7 = .ok (.anewarray 11, 3) := by decide +kernel
theorem dX2_init_10 : decode cX2_init 10 = .ok (.putfield 13, 3) := by decide +kernel
theorem dX2_init_13 : decode cX2_init 13 = .ok (.iconst 0, 1) := by decide +kernel
theorem dX2_init_14 : decode cX2_init 14 = .ok (.istore_n 1, 1) := by decide +kernel
theorem dX2_init_15 : decode cX2_init 15 = .ok (.iload_n 1, 1) := by decide +kernel
theorem dX2_init_16 : decode cX2_init 16 = .ok (.bipush 8, 2) := by decide +kernel
theorem dX2_init_18 : decode cX2_init 18 = .ok (.if_icmp .ge 22, 3) := by decide +kernel
theorem dX2_init_21 : decode cX2_init 21 = .ok (.aload_n 0, 1) := by decide +kernel
theorem dX2_init_22 : decode cX2_init 22 = .ok (.getfield 13, 3) := by decide +kernel
theorem dX2_init_25 : decode cX2_init 25 = .ok (.iload_n 1, 1) := by decide +kernel
theorem dX2_init_26 : decode cX2_init 26 = .ok (.new 11, 3) := by decide +kernel
theorem dX2_init_29 : decode cX2_init 29 = .ok (.dup, 1) := by decide +kernel
theorem dX2_init_30 : decode cX2_init 30 = .ok (.invokespecial 17, 3) := by decide +kernel
theorem dX2_init_33 : decode cX2_init 33 = .ok (.aastore, 1) := by decide +kernel
theorem dX2_init_34 : decode cX2_init 34 = .ok (.iinc 1 1, 3) := by decide +kernel
theorem dX2_init_37 : decode cX2_init 37 = .ok (.goto (-22), 3) := by decide +kernel
theorem dX2_init_40 : decode cX2_init 40 = .ok (.aload_n 0, 1) := by decide +kernel
theorem dX2_init_41 : decode cX2_init 41 = .ok (.new 11, 3) := by decide +kernel
theorem dX2_init_44 : decode cX2_init 44 = .ok (.dup, 1) := by decide +kernel
theorem dX2_init_45 : decode cX2_init 45 = .ok (.invokespecial 17, 3) := by decide +kernel
theorem dX2_init_48 : decode cX2_init 48 = .ok (.putfield 18, 3) := by decide +kernel
theorem dX2_init_51 : decode cX2_init 51 = .ok (.aload_n 0, 1) := by decide +kernel
theorem dX2_init_52 : decode cX2_init 52 = .ok (.bipush 8, 2) := by decide +kernel
theorem dX2_init_54 : decode cX2_init 54 = .ok (.newarray .int, 2) := by decide +kernel
theorem dX2_init_56 : decode cX2_init 56 = .ok (.putfield 22, 3) := by decide +kernel
theorem dX2_init_59 : decode cX2_init 59 = .ok (.aload_n 0, 1) := by decide +kernel
theorem dX2_init_60 : decode cX2_init 60 = .ok (.bipush 8, 2) := by decide +kernel
theorem dX2_init_62 : decode cX2_init 62 = .ok (.newarray .int, 2) := by decide +kernel
theorem dX2_init_64 : decode cX2_init 64 = .ok (.putfield 26, 3) := by decide +kernel
theorem dX2_init_67 : decode cX2_init 67 = .ok (.aload_n 0, 1) := by decide +kernel
theorem dX2_init_68 : decode cX2_init 68 = .ok (.bipush 8, 2) := by decide +kernel
theorem dX2_init_70 : decode cX2_init 70 = .ok (.newarray .int, 2) := by decide +kernel
theorem dX2_init_72 : decode cX2_init 72 = .ok (.putfield 29, 3) := by decide +kernel
theorem dX2_init_75 : decode cX2_init 75 = .ok (.aload_n 0, 1) := by decide +kernel
theorem dX2_init_76 : decode cX2_init 76 = .ok (.iconst 4, 1) := by decide +kernel
theorem dX2_init_77 : decode cX2_init 77 = .ok (.anewarray 32, 3) := by decide +kernel
theorem dX2_init_80 : decode cX2_init 80 = .ok (.putfield 34, 3) := by decide +kernel
theorem dX2_init_83 : decode cX2_init 83 = .ok (.iconst 0, 1) := by decide +kernel
theorem dX2_init_84 : decode cX2_init 84 = .ok (.istore_n 1, 1) := by decide +kernel
theorem dX2_init_85 : decode cX2_init 85 = .ok (.iload_n 1, 1) := by decide +kernel
theorem dX2_init_86 : decode cX2_init 86 = .ok (.iconst 4, 1) := by decide +kernel
theorem dX2_init_87 : decode cX2_init 87 = .ok (.if_icmp .ge 22, 3) := by decide +kernel
theorem dX2_init_90 : decode cX2_init 90 = .ok (.aload_n 0, 1) := by decide +kernel
theorem dX2_init_91 : decode cX2_init 91 = .ok (.getfield 34, 3) := by decide +kernel
theorem dX2_init_94 : decode cX2_init 94 = .ok (.iload_n 1, 1) := by decide +kernel
theorem dX2_init_95 : decode cX2_init 95 = .ok (.new 32, 3) := by decide +kernel
theorem dX2_init_98 : decode cX2_init 98 = .ok (.dup, 1) := by decide +kernel
theorem dX2_init_99 : decode cX2_init 99 = .ok (.invokespecial 38, 3) := by decide +kernel
theorem dX2_init_102 : decode cX2_init 102 = .ok (.aastore, 1) := by decide +kernel
theorem dX2_init_103 : decode cX2_init 103 = .ok (.iinc 1 1, 3) := by decide +kernel
theorem dX2_init_106 : decode cX2_init 106 = .ok (.goto (-21), 3) := by decide +kernel
theorem dX2_init_109 : decode cX2_init 109 = .ok (.aload_n 0, 1) := by decide +kernel
theorem dX2_init_110 : decode cX2_init 110 = .ok (.bipush 25, 2) := by decide +kernel
theorem dX2_init_112 : decode cX2_init 112 = .ok (.newarray .int, 2) := by decide +kernel
theorem dX2_init_114 : decode cX2_init 114 = .ok (.putfield 39, 3) := by decide +kernel
theorem dX2_init_117 : decode cX2_init 117 = .ok (.aload_n 0, 1) := by decide +kernel
theorem dX2_init_118 : decode cX2_init 118 = .ok (.bipush 6, 2) := by decide +kernel
theorem dX2_init_120 : decode cX2_init 120 = .ok (.newarray .long, 2) := by decide +kernel
theorem dX2_init_122 : decode cX2_init 122 = .ok (.putfield 42, 3) := by decide +kernel
theorem dX2_init_125 : decode cX2_init 125 = .ok (.aload_n 0, 1) := by decide +kernel
theorem dX2_init_126 : decode cX2_init 126 = .ok (.bipush 6, 2) := by decide +kernel
theorem dX2_init_128 : decode cX2_init 128 = .ok (.newarray .long, 2) := by decide +kernel
theorem dX2_init_130 : decode cX2_init 130 = .ok (.putfield 46, 3) := by decide +kernel
theorem dX2_init_133 : decode cX2_init 133 = .ok (.return_, 1) := by decide +kernel
theorem dX2_house_0 : decode cX2_house 0 = .ok (.aload_n 0, 1) := by decide +kernel
theorem dX2_house_1 : decode cX2_house 1 = .ok (.iconst 0, 1) := by decide +kernel
theorem dX2_house_2 : decode cX2_house 2 = .ok (.putfield 49, 3) := by decide +kernel
theorem dX2_house_5 : decode cX2_house 5 = .ok (.iload_n 1, 1) := by decide +kernel
theorem dX2_house_6 : decode cX2_house 6 = .ok (.invokestatic 53, 3) := by decide +kernel
theorem dX2_house_9 : decode cX2_house 9 = .ok (.ifCond .ne 5, 3) := by decide +kernel
theorem dX2_house_12 : decode cX2_house 12 = .ok (.iconst (-1), 1) := by decide +kernel
theorem dX2_house_13 : decode cX2_house 13 = .ok (.ireturn, 1) := by decide +kernel
theorem dX2_house_14 : decode cX2_house 14 = .ok (.iload_n 2, 1) := by decide +kernel
theorem dX2_house_15 : decode cX2_house 15 = .ok (.invokestatic 57, 3) := by decide +kernel
theorem dX2_house_18 : decode cX2_house 18 = .ok (.ifCond .ne 6, 3) := by decide +kernel
theorem dX2_house_21 : decode cX2_house 21 = .ok (.bipush (-2), 2) := by decide +kernel
theorem dX2_house_23 : decode cX2_house 23 = .ok (.ireturn, 1) := by decide +kernel
theorem dX2_house_24 : decode cX2_house 24 = .ok (.aload_n 0, 1) := by decide +kernel
theorem dX2_house_25 : decode cX2_house 25 = .ok (.getfield 34, 3) := by decide +kernel
theorem dX2_house_28 : decode cX2_house 28 = .ok (.iload_n 1, 1) := by decide +kernel
theorem dX2_house_29 : decode cX2_house 29 = .ok (.aaload, 1) := by decide +kernel
theorem dX2_house_30 : decode cX2_house 30 = .ok (.astore 5, 2) := by decide +kernel
theorem dX2_house_32 : decode cX2_house 32 = .ok (.aload 5, 2) := by decide +kernel
theorem dX2_house_34 : decode cX2_house 34 = .ok (.iload_n 2, 1) := by decide +kernel
theorem dX2_house_35 : decode cX2_house 35 = .ok (.iload_n 3, 1) := by decide +kernel
theorem dX2_house_36 : decode cX2_house 36 = .ok (.iload 4, 2) := by decide +kernel
theorem dX2_house_38 : decode cX2_house 38 = .ok (.invokevirtual 60, 3) := by decide +kernel
theorem dX2_house_41 : decode cX2_house 41 = .ok (.istore 6, 2) := by decide +kernel
theorem dX2_house_43 : decode cX2_house 43 = .ok (.iload 6, 2) := by decide +kernel
theorem dX2_house_45 : decode cX2_house 45 = .ok (.ifCond .eq 10, 3) := by decide +kernel
theorem dX2_house_48 : decode cX2_house 48 = .ok (.aload_n 0, 1) := by decide +kernel
theorem dX2_house_49 : decode cX2_house 49 = .ok (.iload 6, 2) := by decide +kernel
theorem dX2_house_51 : decode cX2_house 51 = .ok (.invokevirtual 64, 3) := by decide +kernel
theorem dX2_house_54 : decode cX2_house 54 = .ok (.ireturn, 1) := by decide +kernel
theorem dX2_house_55 : decode cX2_house 55 = .ok (.aload 5, 2) := by decide +kernel
theorem dX2_house_57 : decode cX2_house 57 = .ok (.iload_n 3, 1) := by decide +kernel
theorem dX2_house_58 : decode cX2_house 58 = .ok (.iload 4, 2) := by decide +kernel
theorem dX2_house_60 : decode cX2_house 60 = .ok (.invokestatic 68, 3) := by decide +kernel
theorem dX2_house_63 : decode cX2_house 63 = .ok (.istore 7, 2) := by decide +kernel
theorem dX2_house_65 : decode cX2_house 65 = .ok (.iload 7, 2) := by decide +kernel
theorem dX2_house_67 : decode cX2_house 67 = .ok (.bipush (-9), 2) := by decide +kernel
theorem dX2_house_69 : decode cX2_house 69 = .ok (.if_icmp .eq 9, 3) := by decide +kernel
theorem dX2_house_72 : decode cX2_house 72 = .ok (.bipush (-100), 2) := by decide +kernel
theorem dX2_house_74 : decode cX2_house 74 = .ok (.iload 7, 2) := by decide +kernel
theorem dX2_house_76 : decode cX2_house 76 = .ok (.isub, 1) := by decide +kernel
theorem dX2_house_77 : decode cX2_house 77 = .ok (.ireturn, 1) := by decide +kernel
theorem dX2_house_78 : decode cX2_house 78 = .ok (.aload_n 0, 1) := by decide +kernel
theorem dX2_house_79 : decode cX2_house 79 = .ok (.aload 5, 2) := by decide +kernel
theorem dX2_house_81 : decode cX2_house 81 = .ok (.iload_n 3, 1) := by decide +kernel
theorem dX2_house_82 : decode cX2_house 82 = .ok (.iload 4, 2) := by decide +kernel
theorem dX2_house_84 : decode cX2_house 84 = .ok (.invokevirtual 72, 3) := by decide +kernel
theorem dX2_house_87 : decode cX2_house 87 = .ok (.aload_n 0, 1) := by decide +kernel
theorem dX2_house_88 : decode cX2_house 88 = .ok (.getfield 76, 3) := by decide +kernel
theorem dX2_house_91 : decode cX2_house 91 = .ok (.ireturn, 1) := by decide +kernel
theorem dX2_ofDoor_0 : decode cX2_ofDoor 0 = .ok (.aload_n 0, 1) := by decide +kernel
theorem dX2_ofDoor_1 : decode cX2_ofDoor 1 = .ok (.iload_n 1, 1) := by decide +kernel
theorem dX2_ofDoor_2 : decode cX2_ofDoor 2 = .ok (.invokevirtual 79, 3) := by decide +kernel
theorem dX2_ofDoor_5 : decode cX2_ofDoor 5 = .ok (.ifCond .ne 5, 3) := by decide +kernel
theorem dX2_ofDoor_8 : decode cX2_ofDoor 8 = .ok (.iconst (-1), 1) := by decide +kernel
theorem dX2_ofDoor_9 : decode cX2_ofDoor 9 = .ok (.ireturn, 1) := by decide +kernel
theorem dX2_ofDoor_10 : decode cX2_ofDoor 10 = .ok (.iload_n 2, 1) := by decide +kernel
theorem dX2_ofDoor_11 : decode cX2_ofDoor 11 = .ok (.tableswitch 69 0 3 #[29, 39, 49, 59], 29) := by decide +kernel
theorem dX2_ofDoor_40 : decode cX2_ofDoor 40 = .ok (.aload_n 0, 1) := by decide +kernel
theorem dX2_ofDoor_41 : decode cX2_ofDoor 41 = .ok (.getfield 13, 3) := by decide +kernel
theorem dX2_ofDoor_44 : decode cX2_ofDoor 44 = .ok (.iload_n 1, 1) := by decide +kernel
theorem dX2_ofDoor_45 : decode cX2_ofDoor 45 = .ok (.aaload, 1) := by decide +kernel
theorem dX2_ofDoor_46 : decode cX2_ofDoor 46 = .ok (.getfield 82, 3) := by decide +kernel
theorem dX2_ofDoor_49 : decode cX2_ofDoor 49 = .ok (.ireturn, 1) := by decide +kernel
theorem dX2_ofDoor_50 : decode cX2_ofDoor 50 = .ok (.aload_n 0, 1) := by decide +kernel
theorem dX2_ofDoor_51 : decode cX2_ofDoor 51 = .ok (.getfield 13, 3) := by decide +kernel
theorem dX2_ofDoor_54 : decode cX2_ofDoor 54 = .ok (.iload_n 1, 1) := by decide +kernel
theorem dX2_ofDoor_55 : decode cX2_ofDoor 55 = .ok (.aaload, 1) := by decide +kernel
theorem dX2_ofDoor_56 : decode cX2_ofDoor 56 = .ok (.getfield 85, 3) := by decide +kernel
theorem dX2_ofDoor_59 : decode cX2_ofDoor 59 = .ok (.ireturn, 1) := by decide +kernel
theorem dX2_ofDoor_60 : decode cX2_ofDoor 60 = .ok (.aload_n 0, 1) := by decide +kernel
theorem dX2_ofDoor_61 : decode cX2_ofDoor 61 = .ok (.getfield 13, 3) := by decide +kernel
theorem dX2_ofDoor_64 : decode cX2_ofDoor 64 = .ok (.iload_n 1, 1) := by decide +kernel
theorem dX2_ofDoor_65 : decode cX2_ofDoor 65 = .ok (.aaload, 1) := by decide +kernel
theorem dX2_ofDoor_66 : decode cX2_ofDoor 66 = .ok (.getfield 88, 3) := by decide +kernel
theorem dX2_ofDoor_69 : decode cX2_ofDoor 69 = .ok (.ireturn, 1) := by decide +kernel
theorem dX2_ofDoor_70 : decode cX2_ofDoor 70 = .ok (.aload_n 0, 1) := by decide +kernel
theorem dX2_ofDoor_71 : decode cX2_ofDoor 71 = .ok (.getfield 13, 3) := by decide +kernel
theorem dX2_ofDoor_74 : decode cX2_ofDoor 74 = .ok (.iload_n 1, 1) := by decide +kernel
theorem dX2_ofDoor_75 : decode cX2_ofDoor 75 = .ok (.aaload, 1) := by decide +kernel
theorem dX2_ofDoor_76 : decode cX2_ofDoor 76 = .ok (.getfield 91, 3) := by decide +kernel
theorem dX2_ofDoor_79 : decode cX2_ofDoor 79 = .ok (.ireturn, 1) := by decide +kernel
theorem dX2_ofDoor_80 : decode cX2_ofDoor 80 = .ok (.bipush (-2), 2) := by decide +kernel
theorem dX2_ofDoor_82 : decode cX2_ofDoor 82 = .ok (.ireturn, 1) := by decide +kernel
theorem dX2_leads_0 : decode cX2_leads 0 = .ok (.aload_n 0, 1) := by decide +kernel
theorem dX2_leads_1 : decode cX2_leads 1 = .ok (.iload_n 1, 1) := by decide +kernel
theorem dX2_leads_2 : decode cX2_leads 2 = .ok (.invokevirtual 79, 3) := by decide +kernel
theorem dX2_leads_5 : decode cX2_leads 5 = .ok (.ifCond .ne 5, 3) := by decide +kernel
theorem dX2_leads_8 : decode cX2_leads 8 = .ok (.iconst (-1), 1) := by decide +kernel
theorem dX2_leads_9 : decode cX2_leads 9 = .ok (.ireturn, 1) := by decide +kernel
theorem dX2_leads_10 : decode cX2_leads 10 = .ok (.iload_n 2, 1) := by decide +kernel
theorem dX2_leads_11 : decode cX2_leads 11 = .ok (.invokestatic 94, 3) := by decide +kernel
theorem dX2_leads_14 : decode cX2_leads 14 = .ok (.ifCond .ne 6, 3) := by decide +kernel
theorem dX2_leads_17 : decode cX2_leads 17 = .ok (.bipush (-2), 2) := by decide +kernel
theorem dX2_leads_19 : decode cX2_leads 19 = .ok (.ireturn, 1) := by decide +kernel
theorem dX2_leads_20 : decode cX2_leads 20 = .ok (.aload_n 0, 1) := by decide +kernel
theorem dX2_leads_21 : decode cX2_leads 21 = .ok (.getfield 13, 3) := by decide +kernel
theorem dX2_leads_24 : decode cX2_leads 24 = .ok (.iload_n 1, 1) := by decide +kernel
theorem dX2_leads_25 : decode cX2_leads 25 = .ok (.aaload, 1) := by decide +kernel
theorem dX2_leads_26 : decode cX2_leads 26 = .ok (.iload_n 2, 1) := by decide +kernel
theorem dX2_leads_27 : decode cX2_leads 27 = .ok (.aload_n 0, 1) := by decide +kernel
theorem dX2_leads_28 : decode cX2_leads 28 = .ok (.getfield 97, 3) := by decide +kernel
theorem dX2_leads_31 : decode cX2_leads 31 = .ok (.invokevirtual 100, 3) := by decide +kernel
theorem dX2_leads_34 : decode cX2_leads 34 = .ok (.ireturn, 1) := by decide +kernel
theorem dX2_step_0 : decode cX2_step 0 = .ok (.aload_n 0, 1) := by decide +kernel
theorem dX2_step_1 : decode cX2_step 1 = .ok (.iload_n 1, 1) := by decide +kernel
theorem dX2_step_2 : decode cX2_step 2 = .ok (.invokevirtual 79, 3) := by decide +kernel
theorem dX2_step_5 : decode cX2_step 5 = .ok (.ifCond .ne 5, 3) := by decide +kernel
theorem dX2_step_8 : decode cX2_step 8 = .ok (.iconst (-1), 1) := by decide +kernel
theorem dX2_step_9 : decode cX2_step 9 = .ok (.ireturn, 1) := by decide +kernel
theorem dX2_step_10 : decode cX2_step 10 = .ok (.iload_n 2, 1) := by decide +kernel
theorem dX2_step_11 : decode cX2_step 11 = .ok (.ifCond .lt 8, 3) := by decide +kernel
theorem dX2_step_14 : decode cX2_step 14 = .ok (.iload_n 2, 1) := by decide +kernel
theorem dX2_step_15 : decode cX2_step 15 = .ok (.iconst 5, 1) := by decide +kernel
theorem dX2_step_16 : decode cX2_step 16 = .ok (.if_icmp .le 6, 3) := by decide +kernel
theorem dX2_step_19 : decode cX2_step 19 = .ok (.bipush (-2), 2) := by decide +kernel
theorem dX2_step_21 : decode cX2_step 21 = .ok (.ireturn, 1) := by decide +kernel
theorem dX2_step_22 : decode cX2_step 22 = .ok (.aload_n 0, 1) := by decide +kernel
theorem dX2_step_23 : decode cX2_step 23 = .ok (.getfield 13, 3) := by decide +kernel
theorem dX2_step_26 : decode cX2_step 26 = .ok (.iload_n 1, 1) := by decide +kernel
theorem dX2_step_27 : decode cX2_step 27 = .ok (.aaload, 1) := by decide +kernel
theorem dX2_step_28 : decode cX2_step 28 = .ok (.getfield 91, 3) := by decide +kernel
theorem dX2_step_31 : decode cX2_step 31 = .ok (.istore_n 3, 1) := by decide +kernel
theorem dX2_step_32 : decode cX2_step 32 = .ok (.aload_n 0, 1) := by decide +kernel
theorem dX2_step_33 : decode cX2_step 33 = .ok (.getfield 13, 3) := by decide +kernel
theorem dX2_step_36 : decode cX2_step 36 = .ok (.iload_n 1, 1) := by decide +kernel
theorem dX2_step_37 : decode cX2_step 37 = .ok (.aaload, 1) := by decide +kernel
theorem dX2_step_38 : decode cX2_step 38 = .ok (.iload_n 2, 1) := by decide +kernel
theorem dX2_step_39 : decode cX2_step 39 = .ok (.putfield 91, 3) := by decide +kernel
theorem dX2_step_42 : decode cX2_step 42 = .ok (.iload_n 3, 1) := by decide +kernel
theorem dX2_step_43 : decode cX2_step 43 = .ok (.ireturn, 1) := by decide +kernel
theorem dX2_turn_0 : decode cX2_turn 0 = .ok (.aload_n 0, 1) := by decide +kernel
theorem dX2_turn_1 : decode cX2_turn 1 = .ok (.iload_n 1, 1) := by decide +kernel
theorem dX2_turn_2 : decode cX2_turn 2 = .ok (.invokevirtual 79, 3) := by decide +kernel
theorem dX2_turn_5 : decode cX2_turn 5 = .ok (.ifCond .eq 11, 3) := by decide +kernel
theorem dX2_turn_8 : decode cX2_turn 8 = .ok (.aload_n 0, 1) := by decide +kernel
theorem dX2_turn_9 : decode cX2_turn 9 = .ok (.iload_n 2, 1) := by decide +kernel
theorem dX2_turn_10 : decode cX2_turn 10 = .ok (.invokevirtual 104, 3) := by decide +kernel
theorem dX2_turn_13 : decode cX2_turn 13 = .ok (.ifCond .ne 5, 3) := by decide +kernel
theorem dX2_turn_16 : decode cX2_turn 16 = .ok (.iconst (-1), 1) := by decide +kernel
theorem dX2_turn_17 : decode cX2_turn 17 = .ok (.ireturn, 1) := by decide +kernel
theorem dX2_turn_18 : decode cX2_turn 18 = .ok (.aload_n 0, 1) := by decide +kernel
theorem dX2_turn_19 : decode cX2_turn 19 = .ok (.getfield 13, 3) := by decide +kernel
theorem dX2_turn_22 : decode cX2_turn 22 = .ok (.iload_n 1, 1) := by decide +kernel
theorem dX2_turn_23 : decode cX2_turn 23 = .ok (.aaload, 1) := by decide +kernel
theorem dX2_turn_24 : decode cX2_turn 24 = .ok (.getfield 88, 3) := by decide +kernel
theorem dX2_turn_27 : decode cX2_turn 27 = .ok (.istore_n 3, 1) := by decide +kernel
theorem dX2_turn_28 : decode cX2_turn 28 = .ok (.aload_n 0, 1) := by decide +kernel
theorem dX2_turn_29 : decode cX2_turn 29 = .ok (.getfield 13, 3) := by decide +kernel
theorem dX2_turn_32 : decode cX2_turn 32 = .ok (.iload_n 1, 1) := by decide +kernel
theorem dX2_turn_33 : decode cX2_turn 33 = .ok (.aaload, 1) := by decide +kernel
theorem dX2_turn_34 : decode cX2_turn 34 = .ok (.iload_n 2, 1) := by decide +kernel
theorem dX2_turn_35 : decode cX2_turn 35 = .ok (.putfield 88, 3) := by decide +kernel
theorem dX2_turn_38 : decode cX2_turn 38 = .ok (.iload_n 3, 1) := by decide +kernel
theorem dX2_turn_39 : decode cX2_turn 39 = .ok (.ireturn, 1) := by decide +kernel
theorem dX2_walk_0 : decode cX2_walk 0 = .ok (.aload_n 0, 1) := by decide +kernel
theorem dX2_walk_1 : decode cX2_walk 1 = .ok (.iconst 0, 1) := by decide +kernel
theorem dX2_walk_2 : decode cX2_walk 2 = .ok (.putfield 49, 3) := by decide +kernel
theorem dX2_walk_5 : decode cX2_walk 5 = .ok (.aload_n 0, 1) := by decide +kernel
theorem dX2_walk_6 : decode cX2_walk 6 = .ok (.iload_n 1, 1) := by decide +kernel
theorem dX2_walk_7 : decode cX2_walk 7 = .ok (.invokevirtual 104, 3) := by decide +kernel
theorem dX2_walk_10 : decode cX2_walk 10 = .ok (.ifCond .eq 10, 3) := by decide +kernel
theorem dX2_walk_13 : decode cX2_walk 13 = .ok (.iload_n 3, 1) := by decide +kernel
theorem dX2_walk_14 : decode cX2_walk 14 = .ok (.invokestatic 53, 3) := by decide +kernel
theorem dX2_walk_17 : decode cX2_walk 17 = .ok (.ifCond .ne 5, 3) := by decide +kernel
theorem dX2_walk_20 : decode cX2_walk 20 = .ok (.iconst (-1), 1) := by decide +kernel
theorem dX2_walk_21 : decode cX2_walk 21 = .ok (.ireturn, 1) := by decide +kernel
theorem dX2_walk_22 : decode cX2_walk 22 = .ok (.iload_n 2, 1) := by decide +kernel
theorem dX2_walk_23 : decode cX2_walk 23 = .ok (.invokestatic 94, 3) := by decide +kernel
theorem dX2_walk_26 : decode cX2_walk 26 = .ok (.ifCond .eq 11, 3) := by decide +kernel
theorem dX2_walk_29 : decode cX2_walk 29 = .ok (.iload 4, 2) := by decide +kernel
theorem dX2_walk_31 : decode cX2_walk 31 = .ok (.invokestatic 57, 3) := by decide +kernel
theorem dX2_walk_34 : decode cX2_walk 34 = .ok (.ifCond .ne 6, 3) := by decide +kernel
theorem dX2_walk_37 : decode cX2_walk 37 = .ok (.bipush (-2), 2) := by decide +kernel
theorem dX2_walk_39 : decode cX2_walk 39 = .ok (.ireturn, 1) := by decide +kernel
theorem dX2_walk_40 : decode cX2_walk 40 = .ok (.iload 6, 2) := by decide +kernel
theorem dX2_walk_42 : decode cX2_walk 42 = .ok (.ifCond .lt 21, 3) := by decide +kernel
theorem dX2_walk_45 : decode cX2_walk 45 = .ok (.iload 6, 2) := by decide +kernel
theorem dX2_walk_47 : decode cX2_walk 47 = .ok (.bipush 40, 2) := by decide +kernel
theorem dX2_walk_49 : decode cX2_walk 49 = .ok (.if_icmp .gt 14, 3) := by decide +kernel
theorem dX2_walk_52 : decode cX2_walk 52 = .ok (.iload 7, 2) := by decide +kernel
theorem dX2_walk_54 : decode cX2_walk 54 = .ok (.ifCond .lt 9, 3) := by decide +kernel
theorem dX2_walk_57 : decode cX2_walk 57 = .ok (.iload 7, 2) := by decide +kernel
theorem dX2_walk_59 : decode cX2_walk 59 = .ok (.iconst 4, 1) := by decide +kernel
theorem dX2_walk_60 : decode cX2_walk 60 = .ok (.if_icmp .le 6, 3) := by decide +kernel
theorem dX2_walk_63 : decode cX2_walk 63 = .ok (.bipush (-2), 2) := by decide +kernel
theorem dX2_walk_65 : decode cX2_walk 65 = .ok (.ireturn, 1) := by decide +kernel
theorem dX2_walk_66 : decode cX2_walk 66 = .ok (.aload_n 0, 1) := by decide +kernel
theorem dX2_walk_67 : decode cX2_walk 67 = .ok (.getfield 34, 3) := by decide +kernel
theorem dX2_walk_70 : decode cX2_walk 70 = .ok (.iload_n 3, 1) := by decide +kernel
theorem dX2_walk_71 : decode cX2_walk 71 = .ok (.aaload, 1) := by decide +kernel
theorem dX2_walk_72 : decode cX2_walk 72 = .ok (.astore 8, 2) := by decide +kernel
theorem dX2_walk_74 : decode cX2_walk 74 = .ok (.aload 8, 2) := by decide +kernel
theorem dX2_walk_76 : decode cX2_walk 76 = .ok (.iload 4, 2) := by decide +kernel
theorem dX2_walk_78 : decode cX2_walk 78 = .ok (.iload 5, 2) := by decide +kernel
theorem dX2_walk_80 : decode cX2_walk 80 = .ok (.iload 6, 2) := by decide +kernel
theorem dX2_walk_82 : decode cX2_walk 82 = .ok (.invokevirtual 60, 3) := by decide +kernel
theorem dX2_walk_85 : decode cX2_walk 85 = .ok (.istore 9, 2) := by decide +kernel
theorem dX2_walk_87 : decode cX2_walk 87 = .ok (.iload 9, 2) := by decide +kernel
theorem dX2_walk_89 : decode cX2_walk 89 = .ok (.ifCond .eq 10, 3) := by decide +kernel
theorem dX2_walk_92 : decode cX2_walk 92 = .ok (.aload_n 0, 1) := by decide +kernel
theorem dX2_walk_93 : decode cX2_walk 93 = .ok (.iload 9, 2) := by decide +kernel
theorem dX2_walk_95 : decode cX2_walk 95 = .ok (.invokevirtual 64, 3) := by decide +kernel
theorem dX2_walk_98 : decode cX2_walk 98 = .ok (.ireturn, 1) := by decide +kernel
theorem dX2_walk_99 : decode cX2_walk 99 = .ok (.aload_n 0, 1) := by decide +kernel
theorem dX2_walk_100 : decode cX2_walk 100 = .ok (.aload 8, 2) := by decide +kernel
theorem dX2_walk_102 : decode cX2_walk 102 = .ok (.iload 5, 2) := by decide +kernel
theorem dX2_walk_104 : decode cX2_walk 104 = .ok (.iload 6, 2) := by decide +kernel
theorem dX2_walk_106 : decode cX2_walk 106 = .ok (.invokevirtual 107, 3) := by decide +kernel
theorem dX2_walk_109 : decode cX2_walk 109 = .ok (.ifCond .ne 6, 3) := by decide +kernel
theorem dX2_walk_112 : decode cX2_walk 112 = .ok (.bipush (-2), 2) := by decide +kernel
theorem dX2_walk_114 : decode cX2_walk 114 = .ok (.ireturn, 1) := by decide +kernel
theorem dX2_walk_115 : decode cX2_walk 115 = .ok (.aload_n 0, 1) := by decide +kernel
theorem dX2_walk_116 : decode cX2_walk 116 = .ok (.iload_n 1, 1) := by decide +kernel
theorem dX2_walk_117 : decode cX2_walk 117 = .ok (.iload_n 2, 1) := by decide +kernel
theorem dX2_walk_118 : decode cX2_walk 118 = .ok (.aload 8, 2) := by decide +kernel
theorem dX2_walk_120 : decode cX2_walk 120 = .ok (.iload 5, 2) := by decide +kernel
theorem dX2_walk_122 : decode cX2_walk 122 = .ok (.iload 6, 2) := by decide +kernel
theorem dX2_walk_124 : decode cX2_walk 124 = .ok (.iload 7, 2) := by decide +kernel
theorem dX2_walk_126 : decode cX2_walk 126 = .ok (.invokevirtual 111, 3) := by decide +kernel
theorem dX2_walk_129 : decode cX2_walk 129 = .ok (.ireturn, 1) := by decide +kernel
theorem dX2_soonest_0 : decode cX2_soonest 0 = .ok (.aload_n 0, 1) := by decide +kernel
theorem dX2_soonest_1 : decode cX2_soonest 1 = .ok (.iload_n 1, 1) := by decide +kernel
theorem dX2_soonest_2 : decode cX2_soonest 2 = .ok (.invokevirtual 104, 3) := by decide +kernel
theorem dX2_soonest_5 : decode cX2_soonest 5 = .ok (.ifCond .eq 11, 3) := by decide +kernel
theorem dX2_soonest_8 : decode cX2_soonest 8 = .ok (.aload_n 0, 1) := by decide +kernel
theorem dX2_soonest_9 : decode cX2_soonest 9 = .ok (.iload_n 2, 1) := by decide +kernel
theorem dX2_soonest_10 : decode cX2_soonest 10 = .ok (.invokevirtual 104, 3) := by decide +kernel
theorem dX2_soonest_13 : decode cX2_soonest 13 = .ok (.ifCond .ne 5, 3) := by decide +kernel
theorem dX2_soonest_16 : decode cX2_soonest 16 = .ok (.iconst (-1), 1) := by decide +kernel
theorem dX2_soonest_17 : decode cX2_soonest 17 = .ok (.ireturn, 1) := by decide +kernel
theorem dX2_soonest_18 : decode cX2_soonest 18 = .ok (.iload_n 3, 1) := by decide +kernel
theorem dX2_soonest_19 : decode cX2_soonest 19 = .ok (.invokestatic 94, 3) := by decide +kernel
theorem dX2_soonest_22 : decode cX2_soonest 22 = .ok (.ifCond .eq 16, 3) := by decide +kernel
theorem dX2_soonest_25 : decode cX2_soonest 25 = .ok (.iload 4, 2) := by decide +kernel
theorem dX2_soonest_27 : decode cX2_soonest 27 = .ok (.iconst (-1), 1) := by decide +kernel
theorem dX2_soonest_28 : decode cX2_soonest 28 = .ok (.if_icmp .lt 10, 3) := by decide +kernel
theorem dX2_soonest_31 : decode cX2_soonest 31 = .ok (.iload 4, 2) := by decide +kernel
theorem dX2_soonest_33 : decode cX2_soonest 33 = .ok (.bipush 24, 2) := by decide +kernel
theorem dX2_soonest_35 : decode cX2_soonest 35 = .ok (.if_icmp .lt 6, 3) := by decide +kernel
theorem dX2_soonest_38 : decode cX2_soonest 38 = .ok (.bipush (-2), 2) := by decide +kernel
theorem dX2_soonest_40 : decode cX2_soonest 40 = .ok (.ireturn, 1) := by decide +kernel
theorem dX2_soonest_41 : decode cX2_soonest 41 = .ok (.aload_n 0, 1) := by decide +kernel
theorem dX2_soonest_42 : decode cX2_soonest 42 = .ok (.iload_n 1, 1) := by decide +kernel
theorem dX2_soonest_43 : decode cX2_soonest 43 = .ok (.iload_n 2, 1) := by decide +kernel
theorem dX2_soonest_44 : decode cX2_soonest 44 = .ok (.iload_n 3, 1) := by decide +kernel
theorem dX2_soonest_45 : decode cX2_soonest 45 = .ok (.bipush (-9), 2) := by decide +kernel
theorem dX2_soonest_47 : decode cX2_soonest 47 = .ok (.invokevirtual 115, 3) := by decide +kernel
theorem dX2_soonest_50 : decode cX2_soonest 50 = .ok (.istore 5, 2) := by decide +kernel
theorem dX2_soonest_52 : decode cX2_soonest 52 = .ok (.iload 4, 2) := by decide +kernel
theorem dX2_soonest_54 : decode cX2_soonest 54 = .ok (.iconst (-1), 1) := by decide +kernel
theorem dX2_soonest_55 : decode cX2_soonest 55 = .ok (.if_icmp .ne 6, 3) := by decide +kernel
theorem dX2_soonest_58 : decode cX2_soonest 58 = .ok (.iload 5, 2) := by decide +kernel
theorem dX2_soonest_60 : decode cX2_soonest 60 = .ok (.ireturn, 1) := by decide +kernel
theorem dX2_soonest_61 : decode cX2_soonest 61 = .ok (.iload 4, 2) := by decide +kernel
theorem dX2_soonest_63 : decode cX2_soonest 63 = .ok (.iload 5, 2) := by decide +kernel
theorem dX2_soonest_65 : decode cX2_soonest 65 = .ok (.if_icmp .lt 6, 3) := by decide +kernel
theorem dX2_soonest_68 : decode cX2_soonest 68 = .ok (.bipush (-9), 2) := by decide +kernel
theorem dX2_soonest_70 : decode cX2_soonest 70 = .ok (.ireturn, 1) := by decide +kernel
theorem dX2_soonest_71 : decode cX2_soonest 71 = .ok (.aload_n 0, 1) := by decide +kernel
theorem dX2_soonest_72 : decode cX2_soonest 72 = .ok (.iload_n 1, 1) := by decide +kernel
theorem dX2_soonest_73 : decode cX2_soonest 73 = .ok (.iload_n 2, 1) := by decide +kernel
theorem dX2_soonest_74 : decode cX2_soonest 74 = .ok (.iload_n 3, 1) := by decide +kernel
theorem dX2_soonest_75 : decode cX2_soonest 75 = .ok (.iload 5, 2) := by decide +kernel
theorem dX2_soonest_77 : decode cX2_soonest 77 = .ok (.iload 4, 2) := by decide +kernel
theorem dX2_soonest_79 : decode cX2_soonest 79 = .ok (.invokevirtual 119, 3) := by decide +kernel
theorem dX2_soonest_82 : decode cX2_soonest 82 = .ok (.ireturn, 1) := by decide +kernel
theorem dX2_errands_0 : decode cX2_errands 0 = .ok (.aload_n 0, 1) := by decide +kernel
theorem dX2_errands_1 : decode cX2_errands 1 = .ok (.iload_n 1, 1) := by decide +kernel
theorem dX2_errands_2 : decode cX2_errands 2 = .ok (.invokevirtual 104, 3) := by decide +kernel
theorem dX2_errands_5 : decode cX2_errands 5 = .ok (.ifCond .ne 5, 3) := by decide +kernel
theorem dX2_errands_8 : decode cX2_errands 8 = .ok (.iconst (-1), 1) := by decide +kernel
theorem dX2_errands_9 : decode cX2_errands 9 = .ok (.ireturn, 1) := by decide +kernel
theorem dX2_errands_10 : decode cX2_errands 10 = .ok (.iload_n 2, 1) := by decide +kernel
theorem dX2_errands_11 : decode cX2_errands 11 = .ok (.ifCond .lt 18, 3) := by decide +kernel
theorem dX2_errands_14 : decode cX2_errands 14 = .ok (.iload_n 2, 1) := by decide +kernel
theorem dX2_errands_15 : decode cX2_errands 15 = .ok (.aload_n 0, 1) := by decide +kernel
theorem dX2_errands_16 : decode cX2_errands 16 = .ok (.invokevirtual 123, 3) := by decide +kernel
theorem dX2_errands_19 : decode cX2_errands 19 = .ok (.if_icmp .gt 10, 3) := by decide +kernel
theorem dX2_errands_22 : decode cX2_errands 22 = .ok (.iload_n 3, 1) := by decide +kernel
theorem dX2_errands_23 : decode cX2_errands 23 = .ok (.invokestatic 94, 3) := by decide +kernel
theorem dX2_errands_26 : decode cX2_errands 26 = .ok (.ifCond .ne 6, 3) := by decide +kernel
theorem dX2_errands_29 : decode cX2_errands 29 = .ok (.bipush (-2), 2) := by decide +kernel
theorem dX2_errands_31 : decode cX2_errands 31 = .ok (.ireturn, 1) := by decide +kernel
theorem dX2_errands_32 : decode cX2_errands 32 = .ok (.aload_n 0, 1) := by decide +kernel
theorem dX2_errands_33 : decode cX2_errands 33 = .ok (.iload_n 1, 1) := by decide +kernel
theorem dX2_errands_34 : decode cX2_errands 34 = .ok (.iload_n 2, 1) := by decide +kernel
theorem dX2_errands_35 : decode cX2_errands 35 = .ok (.iload_n 3, 1) := by decide +kernel
theorem dX2_errands_36 : decode cX2_errands 36 = .ok (.invokevirtual 127, 3) := by decide +kernel
theorem dX2_errands_39 : decode cX2_errands 39 = .ok (.ireturn, 1) := by decide +kernel
theorem dX2_meet_0 : decode cX2_meet 0 = .ok (.aload_n 0, 1) := by decide +kernel
theorem dX2_meet_1 : decode cX2_meet 1 = .ok (.iload_n 1, 1) := by decide +kernel
theorem dX2_meet_2 : decode cX2_meet 2 = .ok (.invokevirtual 104, 3) := by decide +kernel
theorem dX2_meet_5 : decode cX2_meet 5 = .ok (.ifCond .eq 11, 3) := by decide +kernel
theorem dX2_meet_8 : decode cX2_meet 8 = .ok (.aload_n 0, 1) := by decide +kernel
theorem dX2_meet_9 : decode cX2_meet 9 = .ok (.iload_n 2, 1) := by decide +kernel
theorem dX2_meet_10 : decode cX2_meet 10 = .ok (.invokevirtual 104, 3) := by decide +kernel
theorem dX2_meet_13 : decode cX2_meet 13 = .ok (.ifCond .ne 5, 3) := by decide +kernel
theorem dX2_meet_16 : decode cX2_meet 16 = .ok (.iconst (-1), 1) := by decide +kernel
theorem dX2_meet_17 : decode cX2_meet 17 = .ok (.ireturn, 1) := by decide +kernel
theorem dX2_meet_18 : decode cX2_meet 18 = .ok (.iload_n 3, 1) := by decide +kernel
theorem dX2_meet_19 : decode cX2_meet 19 = .ok (.invokestatic 94, 3) := by decide +kernel
theorem dX2_meet_22 : decode cX2_meet 22 = .ok (.ifCond .ne 6, 3) := by decide +kernel
theorem dX2_meet_25 : decode cX2_meet 25 = .ok (.bipush (-2), 2) := by decide +kernel
theorem dX2_meet_27 : decode cX2_meet 27 = .ok (.ireturn, 1) := by decide +kernel
theorem dX2_meet_28 : decode cX2_meet 28 = .ok (.iconst 1, 1) := by decide +kernel
theorem dX2_meet_29 : decode cX2_meet 29 = .ok (.iload_n 1, 1) := by decide +kernel
theorem dX2_meet_30 : decode cX2_meet 30 = .ok (.ishl, 1) := by decide +kernel
theorem dX2_meet_31 : decode cX2_meet 31 = .ok (.istore 4, 2) := by decide +kernel
theorem dX2_meet_33 : decode cX2_meet 33 = .ok (.iconst 1, 1) := by decide +kernel
theorem dX2_meet_34 : decode cX2_meet 34 = .ok (.iload_n 2, 1) := by decide +kernel
theorem dX2_meet_35 : decode cX2_meet 35 = .ok (.ishl, 1) := by decide +kernel
theorem dX2_meet_36 : decode cX2_meet 36 = .ok (.istore 5, 2) := by decide +kernel
theorem dX2_meet_38 : decode cX2_meet 38 = .ok (.iconst 0, 1) := by decide +kernel
theorem dX2_meet_39 : decode cX2_meet 39 = .ok (.istore 6, 2) := by decide +kernel
theorem dX2_meet_41 : decode cX2_meet 41 = .ok (.iload 6, 2) := by decide +kernel
theorem dX2_meet_43 : decode cX2_meet 43 = .ok (.bipush 24, 2) := by decide +kernel
theorem dX2_meet_45 : decode cX2_meet 45 = .ok (.if_icmp .gt 53, 3) := by decide +kernel
theorem dX2_meet_48 : decode cX2_meet 48 = .ok (.iload 4, 2) := by decide +kernel
theorem dX2_meet_50 : decode cX2_meet 50 = .ok (.iload 5, 2) := by decide +kernel
theorem dX2_meet_52 : decode cX2_meet 52 = .ok (.iand, 1) := by decide +kernel
theorem dX2_meet_53 : decode cX2_meet 53 = .ok (.ifCond .eq 6, 3) := by decide +kernel
theorem dX2_meet_56 : decode cX2_meet 56 = .ok (.iload 6, 2) := by decide +kernel
theorem dX2_meet_58 : decode cX2_meet 58 = .ok (.ireturn, 1) := by decide +kernel
theorem dX2_meet_59 : decode cX2_meet 59 = .ok (.iload_n 3, 1) := by decide +kernel
theorem dX2_meet_60 : decode cX2_meet 60 = .ok (.iload 6, 2) := by decide +kernel
theorem dX2_meet_62 : decode cX2_meet 62 = .ok (.iadd, 1) := by decide +kernel
theorem dX2_meet_63 : decode cX2_meet 63 = .ok (.bipush 12, 2) := by decide +kernel
theorem dX2_meet_65 : decode cX2_meet 65 = .ok (.irem, 1) := by decide +kernel
theorem dX2_meet_66 : decode cX2_meet 66 = .ok (.istore 7, 2) := by decide +kernel
theorem dX2_meet_68 : decode cX2_meet 68 = .ok (.aload_n 0, 1) := by decide +kernel
theorem dX2_meet_69 : decode cX2_meet 69 = .ok (.iload 4, 2) := by decide +kernel
theorem dX2_meet_71 : decode cX2_meet 71 = .ok (.iload 7, 2) := by decide +kernel
theorem dX2_meet_73 : decode cX2_meet 73 = .ok (.bipush (-9), 2) := by decide +kernel
theorem dX2_meet_75 : decode cX2_meet 75 = .ok (.invokevirtual 130, 3) := by decide +kernel
theorem dX2_meet_78 : decode cX2_meet 78 = .ok (.istore 4, 2) := by decide +kernel
theorem dX2_meet_80 : decode cX2_meet 80 = .ok (.aload_n 0, 1) := by decide +kernel
theorem dX2_meet_81 : decode cX2_meet 81 = .ok (.iload 5, 2) := by decide +kernel
theorem dX2_meet_83 : decode cX2_meet 83 = .ok (.iload 7, 2) := by decide +kernel
theorem dX2_meet_85 : decode cX2_meet 85 = .ok (.bipush (-9), 2) := by decide +kernel
theorem dX2_meet_87 : decode cX2_meet 87 = .ok (.invokevirtual 130, 3) := by decide +kernel
theorem dX2_meet_90 : decode cX2_meet 90 = .ok (.istore 5, 2) := by decide +kernel
theorem dX2_meet_92 : decode cX2_meet 92 = .ok (.iinc 6 1, 3) := by decide +kernel
theorem dX2_meet_95 : decode cX2_meet 95 = .ok (.goto (-54), 3) := by decide +kernel
theorem dX2_meet_98 : decode cX2_meet 98 = .ok (.bipush (-9), 2) := by decide +kernel
theorem dX2_meet_100 : decode cX2_meet 100 = .ok (.ireturn, 1) := by decide +kernel
theorem dX2_cut_0 : decode cX2_cut 0 = .ok (.aload_n 0, 1) := by decide +kernel
theorem dX2_cut_1 : decode cX2_cut 1 = .ok (.iload_n 1, 1) := by decide +kernel
theorem dX2_cut_2 : decode cX2_cut 2 = .ok (.invokevirtual 104, 3) := by decide +kernel
theorem dX2_cut_5 : decode cX2_cut 5 = .ok (.ifCond .eq 11, 3) := by decide +kernel
theorem dX2_cut_8 : decode cX2_cut 8 = .ok (.aload_n 0, 1) := by decide +kernel
theorem dX2_cut_9 : decode cX2_cut 9 = .ok (.iload_n 2, 1) := by decide +kernel
theorem dX2_cut_10 : decode cX2_cut 10 = .ok (.invokevirtual 104, 3) := by decide +kernel
theorem dX2_cut_13 : decode cX2_cut 13 = .ok (.ifCond .ne 5, 3) := by decide +kernel
theorem dX2_cut_16 : decode cX2_cut 16 = .ok (.iconst (-1), 1) := by decide +kernel
theorem dX2_cut_17 : decode cX2_cut 17 = .ok (.ireturn, 1) := by decide +kernel
theorem dX2_cut_18 : decode cX2_cut 18 = .ok (.iload_n 3, 1) := by decide +kernel
theorem dX2_cut_19 : decode cX2_cut 19 = .ok (.invokestatic 94, 3) := by decide +kernel
theorem dX2_cut_22 : decode cX2_cut 22 = .ok (.ifCond .ne 6, 3) := by decide +kernel
theorem dX2_cut_25 : decode cX2_cut 25 = .ok (.bipush (-2), 2) := by decide +kernel
theorem dX2_cut_27 : decode cX2_cut 27 = .ok (.ireturn, 1) := by decide +kernel
theorem dX2_cut_28 : decode cX2_cut 28 = .ok (.aload_n 0, 1) := by decide +kernel
theorem dX2_cut_29 : decode cX2_cut 29 = .ok (.iload_n 1, 1) := by decide +kernel
theorem dX2_cut_30 : decode cX2_cut 30 = .ok (.iload_n 2, 1) := by decide +kernel
theorem dX2_cut_31 : decode cX2_cut 31 = .ok (.iload_n 3, 1) := by decide +kernel
theorem dX2_cut_32 : decode cX2_cut 32 = .ok (.bipush (-9), 2) := by decide +kernel
theorem dX2_cut_34 : decode cX2_cut 34 = .ok (.invokevirtual 115, 3) := by decide +kernel
theorem dX2_cut_37 : decode cX2_cut 37 = .ok (.bipush (-9), 2) := by decide +kernel
theorem dX2_cut_39 : decode cX2_cut 39 = .ok (.if_icmp .ne 6, 3) := by decide +kernel
theorem dX2_cut_42 : decode cX2_cut 42 = .ok (.bipush (-9), 2) := by decide +kernel
theorem dX2_cut_44 : decode cX2_cut 44 = .ok (.ireturn, 1) := by decide +kernel
theorem dX2_cut_45 : decode cX2_cut 45 = .ok (.iconst 0, 1) := by decide +kernel
theorem dX2_cut_46 : decode cX2_cut 46 = .ok (.istore 4, 2) := by decide +kernel
theorem dX2_cut_48 : decode cX2_cut 48 = .ok (.iload 4, 2) := by decide +kernel
theorem dX2_cut_50 : decode cX2_cut 50 = .ok (.aload_n 0, 1) := by decide +kernel
theorem dX2_cut_51 : decode cX2_cut 51 = .ok (.getfield 76, 3) := by decide +kernel
theorem dX2_cut_54 : decode cX2_cut 54 = .ok (.if_icmp .ge 26, 3) := by decide +kernel
theorem dX2_cut_57 : decode cX2_cut 57 = .ok (.aload_n 0, 1) := by decide +kernel
theorem dX2_cut_58 : decode cX2_cut 58 = .ok (.iload_n 1, 1) := by decide +kernel
theorem dX2_cut_59 : decode cX2_cut 59 = .ok (.iload_n 2, 1) := by decide +kernel
theorem dX2_cut_60 : decode cX2_cut 60 = .ok (.iload_n 3, 1) := by decide +kernel
theorem dX2_cut_61 : decode cX2_cut 61 = .ok (.iload 4, 2) := by decide +kernel
theorem dX2_cut_63 : decode cX2_cut 63 = .ok (.invokevirtual 115, 3) := by decide +kernel
theorem dX2_cut_66 : decode cX2_cut 66 = .ok (.bipush (-9), 2) := by decide +kernel
theorem dX2_cut_68 : decode cX2_cut 68 = .ok (.if_icmp .ne 6, 3) := by decide +kernel
theorem dX2_cut_71 : decode cX2_cut 71 = .ok (.iload 4, 2) := by decide +kernel
theorem dX2_cut_73 : decode cX2_cut 73 = .ok (.ireturn, 1) := by decide +kernel
theorem dX2_cut_74 : decode cX2_cut 74 = .ok (.iinc 4 1, 3) := by decide +kernel
theorem dX2_cut_77 : decode cX2_cut 77 = .ok (.goto (-29), 3) := by decide +kernel
theorem dX2_cut_80 : decode cX2_cut 80 = .ok (.bipush (-9), 2) := by decide +kernel
theorem dX2_cut_82 : decode cX2_cut 82 = .ok (.ireturn, 1) := by decide +kernel
theorem dX2_reach_0 : decode cX2_reach 0 = .ok (.aload_n 0, 1) := by decide +kernel
theorem dX2_reach_1 : decode cX2_reach 1 = .ok (.getfield 97, 3) := by decide +kernel
theorem dX2_reach_4 : decode cX2_reach 4 = .ok (.ifCond .ne 6, 3) := by decide +kernel
theorem dX2_reach_7 : decode cX2_reach 7 = .ok (.bipush (-3), 2) := by decide +kernel
theorem dX2_reach_9 : decode cX2_reach 9 = .ok (.ireturn, 1) := by decide +kernel
theorem dX2_reach_10 : decode cX2_reach 10 = .ok (.iload_n 1, 1) := by decide +kernel
theorem dX2_reach_11 : decode cX2_reach 11 = .ok (.invokestatic 94, 3) := by decide +kernel
theorem dX2_reach_14 : decode cX2_reach 14 = .ok (.ifCond .ne 6, 3) := by decide +kernel
theorem dX2_reach_17 : decode cX2_reach 17 = .ok (.bipush (-2), 2) := by decide +kernel
theorem dX2_reach_19 : decode cX2_reach 19 = .ok (.ireturn, 1) := by decide +kernel
theorem dX2_reach_20 : decode cX2_reach 20 = .ok (.iconst 0, 1) := by decide +kernel
theorem dX2_reach_21 : decode cX2_reach 21 = .ok (.istore_n 2, 1) := by decide +kernel
theorem dX2_reach_22 : decode cX2_reach 22 = .ok (.iconst 0, 1) := by decide +kernel
theorem dX2_reach_23 : decode cX2_reach 23 = .ok (.istore_n 3, 1) := by decide +kernel
theorem dX2_reach_24 : decode cX2_reach 24 = .ok (.iload_n 3, 1) := by decide +kernel
theorem dX2_reach_25 : decode cX2_reach 25 = .ok (.aload_n 0, 1) := by decide +kernel
theorem dX2_reach_26 : decode cX2_reach 26 = .ok (.getfield 97, 3) := by decide +kernel
theorem dX2_reach_29 : decode cX2_reach 29 = .ok (.if_icmp .ge 28, 3) := by decide +kernel
theorem dX2_reach_32 : decode cX2_reach 32 = .ok (.aload_n 0, 1) := by decide +kernel
theorem dX2_reach_33 : decode cX2_reach 33 = .ok (.iload_n 3, 1) := by decide +kernel
theorem dX2_reach_34 : decode cX2_reach 34 = .ok (.iload_n 1, 1) := by decide +kernel
theorem dX2_reach_35 : decode cX2_reach 35 = .ok (.invokevirtual 133, 3) := by decide +kernel
theorem dX2_reach_38 : decode cX2_reach 38 = .ok (.aload_n 0, 1) := by decide +kernel
theorem dX2_reach_39 : decode cX2_reach 39 = .ok (.invokevirtual 123, 3) := by decide +kernel
theorem dX2_reach_42 : decode cX2_reach 42 = .ok (.if_icmp .ne 9, 3) := by decide +kernel
theorem dX2_reach_45 : decode cX2_reach 45 = .ok (.iload_n 2, 1) := by decide +kernel
theorem dX2_reach_46 : decode cX2_reach 46 = .ok (.iconst 1, 1) := by decide +kernel
theorem dX2_reach_47 : decode cX2_reach 47 = .ok (.iload_n 3, 1) := by decide +kernel
theorem dX2_reach_48 : decode cX2_reach 48 = .ok (.ishl, 1) := by decide +kernel
theorem dX2_reach_49 : decode cX2_reach 49 = .ok (.ior, 1) := by decide +kernel
theorem dX2_reach_50 : decode cX2_reach 50 = .ok (.istore_n 2, 1) := by decide +kernel
theorem dX2_reach_51 : decode cX2_reach 51 = .ok (.iinc 3 1, 3) := by decide +kernel
theorem dX2_reach_54 : decode cX2_reach 54 = .ok (.goto (-30), 3) := by decide +kernel
theorem dX2_reach_57 : decode cX2_reach 57 = .ok (.iload_n 2, 1) := by decide +kernel
theorem dX2_reach_58 : decode cX2_reach 58 = .ok (.ireturn, 1) := by decide +kernel
theorem dX2_reading_0 : decode cX2_reading 0 = .ok (.aload_n 0, 1) := by decide +kernel
theorem dX2_reading_1 : decode cX2_reading 1 = .ok (.iload_n 1, 1) := by decide +kernel
theorem dX2_reading_2 : decode cX2_reading 2 = .ok (.invokevirtual 79, 3) := by decide +kernel
theorem dX2_reading_5 : decode cX2_reading 5 = .ok (.ifCond .eq 17, 3) := by decide +kernel
theorem dX2_reading_8 : decode cX2_reading 8 = .ok (.aload_n 0, 1) := by decide +kernel
theorem dX2_reading_9 : decode cX2_reading 9 = .ok (.iload_n 3, 1) := by decide +kernel
theorem dX2_reading_10 : decode cX2_reading 10 = .ok (.invokevirtual 104, 3) := by decide +kernel
theorem dX2_reading_13 : decode cX2_reading 13 = .ok (.ifCond .ne 11, 3) := by decide +kernel
theorem dX2_reading_16 : decode cX2_reading 16 = .ok (.iload_n 3, 1) := by decide +kernel
theorem dX2_reading_17 : decode cX2_reading 17 = .ok (.bipush (-9), 2) := by decide +kernel
theorem dX2_reading_19 : decode cX2_reading 19 = .ok (.if_icmp .eq 5, 3) := by decide +kernel
theorem dX2_reading_22 : decode cX2_reading 22 = .ok (.iconst (-1), 1) := by decide +kernel
theorem dX2_reading_23 : decode cX2_reading 23 = .ok (.ireturn, 1) := by decide +kernel
theorem dX2_reading_24 : decode cX2_reading 24 = .ok (.iload_n 2, 1) := by decide +kernel
theorem dX2_reading_25 : decode cX2_reading 25 = .ok (.invokestatic 94, 3) := by decide +kernel
theorem dX2_reading_28 : decode cX2_reading 28 = .ok (.ifCond .ne 6, 3) := by decide +kernel
theorem dX2_reading_31 : decode cX2_reading 31 = .ok (.bipush (-2), 2) := by decide +kernel
theorem dX2_reading_33 : decode cX2_reading 33 = .ok (.ireturn, 1) := by decide +kernel
theorem dX2_reading_34 : decode cX2_reading 34 = .ok (.aload_n 0, 1) := by decide +kernel
theorem dX2_reading_35 : decode cX2_reading 35 = .ok (.getfield 136, 3) := by decide +kernel
theorem dX2_reading_38 : decode cX2_reading 38 = .ok (.bipush 8, 2) := by decide +kernel
theorem dX2_reading_40 : decode cX2_reading 40 = .ok (.if_icmp .lt 6, 3) := by decide +kernel
theorem dX2_reading_43 : decode cX2_reading 43 = .ok (.bipush (-4), 2) := by decide +kernel
theorem dX2_reading_45 : decode cX2_reading 45 = .ok (.ireturn, 1) := by decide +kernel
theorem dX2_reading_46 : decode cX2_reading 46 = .ok (.aload_n 0, 1) := by decide +kernel
theorem dX2_reading_47 : decode cX2_reading 47 = .ok (.getfield 22, 3) := by decide +kernel
theorem dX2_reading_50 : decode cX2_reading 50 = .ok (.aload_n 0, 1) := by decide +kernel
theorem dX2_reading_51 : decode cX2_reading 51 = .ok (.getfield 136, 3) := by decide +kernel
theorem dX2_reading_54 : decode cX2_reading 54 = .ok (.iload_n 1, 1) := by decide +kernel
theorem dX2_reading_55 : decode cX2_reading 55 = .ok (.iastore, 1) := by decide +kernel
theorem dX2_reading_56 : decode cX2_reading 56 = .ok (.aload_n 0, 1) := by decide +kernel
theorem dX2_reading_57 : decode cX2_reading 57 = .ok (.getfield 26, 3) := by decide +kernel
theorem dX2_reading_60 : decode cX2_reading 60 = .ok (.aload_n 0, 1) := by decide +kernel
theorem dX2_reading_61 : decode cX2_reading 61 = .ok (.getfield 136, 3) := by decide +kernel
theorem dX2_reading_64 : decode cX2_reading 64 = .ok (.iload_n 2, 1) := by decide +kernel
theorem dX2_reading_65 : decode cX2_reading 65 = .ok (.iastore, 1) := by decide +kernel
theorem dX2_reading_66 : decode cX2_reading 66 = .ok (.aload_n 0, 1) := by decide +kernel
theorem dX2_reading_67 : decode cX2_reading 67 = .ok (.getfield 29, 3) := by decide +kernel
theorem dX2_reading_70 : decode cX2_reading 70 = .ok (.aload_n 0, 1) := by decide +kernel
theorem dX2_reading_71 : decode cX2_reading 71 = .ok (.getfield 136, 3) := by decide +kernel
theorem dX2_reading_74 : decode cX2_reading 74 = .ok (.iload_n 3, 1) := by decide +kernel
theorem dX2_reading_75 : decode cX2_reading 75 = .ok (.iastore, 1) := by decide +kernel
theorem dX2_reading_76 : decode cX2_reading 76 = .ok (.aload_n 0, 1) := by decide +kernel
theorem dX2_reading_77 : decode cX2_reading 77 = .ok (.dup, 1) := by decide +kernel
theorem dX2_reading_78 : decode cX2_reading 78 = .ok (.getfield 136, 3) := by decide +kernel
theorem dX2_reading_81 : decode cX2_reading 81 = .ok (.iconst 1, 1) := by decide +kernel
theorem dX2_reading_82 : decode cX2_reading 82 = .ok (.iadd, 1) := by decide +kernel
theorem dX2_reading_83 : decode cX2_reading 83 = .ok (.putfield 136, 3) := by decide +kernel
theorem dX2_reading_86 : decode cX2_reading 86 = .ok (.aload_n 0, 1) := by decide +kernel
theorem dX2_reading_87 : decode cX2_reading 87 = .ok (.getfield 136, 3) := by decide +kernel
theorem dX2_reading_90 : decode cX2_reading 90 = .ok (.iconst 1, 1) := by decide +kernel
theorem dX2_reading_91 : decode cX2_reading 91 = .ok (.isub, 1) := by decide +kernel
theorem dX2_reading_92 : decode cX2_reading 92 = .ok (.ireturn, 1) := by decide +kernel
theorem dX2_back_0 : decode cX2_back 0 = .ok (.iload_n 1, 1) := by decide +kernel
theorem dX2_back_1 : decode cX2_back 1 = .ok (.ifCond .lt 11, 3) := by decide +kernel
theorem dX2_back_4 : decode cX2_back 4 = .ok (.iload_n 1, 1) := by decide +kernel
theorem dX2_back_5 : decode cX2_back 5 = .ok (.aload_n 0, 1) := by decide +kernel
theorem dX2_back_6 : decode cX2_back 6 = .ok (.getfield 136, 3) := by decide +kernel
theorem dX2_back_9 : decode cX2_back 9 = .ok (.if_icmp .le 6, 3) := by decide +kernel
theorem dX2_back_12 : decode cX2_back 12 = .ok (.bipush (-2), 2) := by decide +kernel
theorem dX2_back_14 : decode cX2_back 14 = .ok (.ireturn, 1) := by decide +kernel
theorem dX2_back_15 : decode cX2_back 15 = .ok (.aload_n 0, 1) := by decide +kernel
theorem dX2_back_16 : decode cX2_back 16 = .ok (.dup, 1) := by decide +kernel
theorem dX2_back_17 : decode cX2_back 17 = .ok (.getfield 136, 3) := by decide +kernel
theorem dX2_back_20 : decode cX2_back 20 = .ok (.iload_n 1, 1) := by decide +kernel
theorem dX2_back_21 : decode cX2_back 21 = .ok (.isub, 1) := by decide +kernel
theorem dX2_back_22 : decode cX2_back 22 = .ok (.putfield 136, 3) := by decide +kernel
theorem dX2_back_25 : decode cX2_back 25 = .ok (.aload_n 0, 1) := by decide +kernel
theorem dX2_back_26 : decode cX2_back 26 = .ok (.getfield 136, 3) := by decide +kernel
theorem dX2_back_29 : decode cX2_back 29 = .ok (.ireturn, 1) := by decide +kernel
theorem dX2_steps_0 : decode cX2_steps 0 = .ok (.aload_n 0, 1) := by decide +kernel
theorem dX2_steps_1 : decode cX2_steps 1 = .ok (.iload_n 1, 1) := by decide +kernel
theorem dX2_steps_2 : decode cX2_steps 2 = .ok (.invokevirtual 79, 3) := by decide +kernel
theorem dX2_steps_5 : decode cX2_steps 5 = .ok (.ifCond .ne 5, 3) := by decide +kernel
theorem dX2_steps_8 : decode cX2_steps 8 = .ok (.iconst (-1), 1) := by decide +kernel
theorem dX2_steps_9 : decode cX2_steps 9 = .ok (.ireturn, 1) := by decide +kernel
theorem dX2_steps_10 : decode cX2_steps 10 = .ok (.iconst 0, 1) := by decide +kernel
theorem dX2_steps_11 : decode cX2_steps 11 = .ok (.istore_n 2, 1) := by decide +kernel
theorem dX2_steps_12 : decode cX2_steps 12 = .ok (.aload_n 0, 1) := by decide +kernel
theorem dX2_steps_13 : decode cX2_steps 13 = .ok (.getfield 18, 3) := by decide +kernel
theorem dX2_steps_16 : decode cX2_steps 16 = .ok (.aload_n 0, 1) := by decide +kernel
theorem dX2_steps_17 : decode cX2_steps 17 = .ok (.getfield 13, 3) := by decide +kernel
theorem dX2_steps_20 : decode cX2_steps 20 = .ok (.iload_n 1, 1) := by decide +kernel
theorem dX2_steps_21 : decode cX2_steps 21 = .ok (.aaload, 1) := by decide +kernel
theorem dX2_steps_22 : decode cX2_steps 22 = .ok (.invokevirtual 139, 3) := by decide +kernel
theorem dX2_steps_25 : decode cX2_steps 25 = .ok (.iconst 0, 1) := by decide +kernel
theorem dX2_steps_26 : decode cX2_steps 26 = .ok (.istore_n 3, 1) := by decide +kernel
theorem dX2_steps_27 : decode cX2_steps 27 = .ok (.iload_n 3, 1) := by decide +kernel
theorem dX2_steps_28 : decode cX2_steps 28 = .ok (.iconst 5, 1) := by decide +kernel
theorem dX2_steps_29 : decode cX2_steps 29 = .ok (.if_icmp .gt 31, 3) := by decide +kernel
theorem dX2_steps_32 : decode cX2_steps 32 = .ok (.aload_n 0, 1) := by decide +kernel
theorem dX2_steps_33 : decode cX2_steps 33 = .ok (.getfield 18, 3) := by decide +kernel
theorem dX2_steps_36 : decode cX2_steps 36 = .ok (.iload_n 3, 1) := by decide +kernel
theorem dX2_steps_37 : decode cX2_steps 37 = .ok (.putfield 91, 3) := by decide +kernel
theorem dX2_steps_40 : decode cX2_steps 40 = .ok (.aload_n 0, 1) := by decide +kernel
theorem dX2_steps_41 : decode cX2_steps 41 = .ok (.iload_n 1, 1) := by decide +kernel
theorem dX2_steps_42 : decode cX2_steps 42 = .ok (.invokevirtual 143, 3) := by decide +kernel
theorem dX2_steps_45 : decode cX2_steps 45 = .ok (.ifCond .eq 9, 3) := by decide +kernel
theorem dX2_steps_48 : decode cX2_steps 48 = .ok (.iload_n 2, 1) := by decide +kernel
theorem dX2_steps_49 : decode cX2_steps 49 = .ok (.iconst 1, 1) := by decide +kernel
theorem dX2_steps_50 : decode cX2_steps 50 = .ok (.iload_n 3, 1) := by decide +kernel
theorem dX2_steps_51 : decode cX2_steps 51 = .ok (.ishl, 1) := by decide +kernel
theorem dX2_steps_52 : decode cX2_steps 52 = .ok (.ior, 1) := by decide +kernel
theorem dX2_steps_53 : decode cX2_steps 53 = .ok (.istore_n 2, 1) := by decide +kernel
theorem dX2_steps_54 : decode cX2_steps 54 = .ok (.iinc 3 1, 3) := by decide +kernel
theorem dX2_steps_57 : decode cX2_steps 57 = .ok (.goto (-30), 3) := by decide +kernel
theorem dX2_steps_60 : decode cX2_steps 60 = .ok (.iload_n 2, 1) := by decide +kernel
theorem dX2_steps_61 : decode cX2_steps 61 = .ok (.ireturn, 1) := by decide +kernel
theorem dX2_targets_0 : decode cX2_targets 0 = .ok (.aload_n 0, 1) := by decide +kernel
theorem dX2_targets_1 : decode cX2_targets 1 = .ok (.iload_n 1, 1) := by decide +kernel
theorem dX2_targets_2 : decode cX2_targets 2 = .ok (.invokevirtual 79, 3) := by decide +kernel
theorem dX2_targets_5 : decode cX2_targets 5 = .ok (.ifCond .ne 5, 3) := by decide +kernel
theorem dX2_targets_8 : decode cX2_targets 8 = .ok (.iconst (-1), 1) := by decide +kernel
theorem dX2_targets_9 : decode cX2_targets 9 = .ok (.ireturn, 1) := by decide +kernel
theorem dX2_targets_10 : decode cX2_targets 10 = .ok (.iconst 0, 1) := by decide +kernel
theorem dX2_targets_11 : decode cX2_targets 11 = .ok (.istore_n 2, 1) := by decide +kernel
theorem dX2_targets_12 : decode cX2_targets 12 = .ok (.aload_n 0, 1) := by decide +kernel
theorem dX2_targets_13 : decode cX2_targets 13 = .ok (.getfield 18, 3) := by decide +kernel
theorem dX2_targets_16 : decode cX2_targets 16 = .ok (.aload_n 0, 1) := by decide +kernel
theorem dX2_targets_17 : decode cX2_targets 17 = .ok (.getfield 13, 3) := by decide +kernel
theorem dX2_targets_20 : decode cX2_targets 20 = .ok (.iload_n 1, 1) := by decide +kernel
theorem dX2_targets_21 : decode cX2_targets 21 = .ok (.aaload, 1) := by decide +kernel
theorem dX2_targets_22 : decode cX2_targets 22 = .ok (.invokevirtual 139, 3) := by decide +kernel
theorem dX2_targets_25 : decode cX2_targets 25 = .ok (.iconst 0, 1) := by decide +kernel
theorem dX2_targets_26 : decode cX2_targets 26 = .ok (.istore_n 3, 1) := by decide +kernel
theorem dX2_targets_27 : decode cX2_targets 27 = .ok (.iload_n 3, 1) := by decide +kernel
theorem dX2_targets_28 : decode cX2_targets 28 = .ok (.aload_n 0, 1) := by decide +kernel
theorem dX2_targets_29 : decode cX2_targets 29 = .ok (.getfield 97, 3) := by decide +kernel
theorem dX2_targets_32 : decode cX2_targets 32 = .ok (.if_icmp .ge 31, 3) := by decide +kernel
theorem dX2_targets_35 : decode cX2_targets 35 = .ok (.aload_n 0, 1) := by decide +kernel
theorem dX2_targets_36 : decode cX2_targets 36 = .ok (.getfield 18, 3) := by decide +kernel
theorem dX2_targets_39 : decode cX2_targets 39 = .ok (.iload_n 3, 1) := by decide +kernel
theorem dX2_targets_40 : decode cX2_targets 40 = .ok (.putfield 88, 3) := by decide +kernel
theorem dX2_targets_43 : decode cX2_targets 43 = .ok (.aload_n 0, 1) := by decide +kernel
theorem dX2_targets_44 : decode cX2_targets 44 = .ok (.iload_n 1, 1) := by decide +kernel
theorem dX2_targets_45 : decode cX2_targets 45 = .ok (.invokevirtual 143, 3) := by decide +kernel
theorem dX2_targets_48 : decode cX2_targets 48 = .ok (.ifCond .eq 9, 3) := by decide +kernel
theorem dX2_targets_51 : decode cX2_targets 51 = .ok (.iload_n 2, 1) := by decide +kernel
theorem dX2_targets_52 : decode cX2_targets 52 = .ok (.iconst 1, 1) := by decide +kernel
theorem dX2_targets_53 : decode cX2_targets 53 = .ok (.iload_n 3, 1) := by decide +kernel
theorem dX2_targets_54 : decode cX2_targets 54 = .ok (.ishl, 1) := by decide +kernel
theorem dX2_targets_55 : decode cX2_targets 55 = .ok (.ior, 1) := by decide +kernel
theorem dX2_targets_56 : decode cX2_targets 56 = .ok (.istore_n 2, 1) := by decide +kernel
theorem dX2_targets_57 : decode cX2_targets 57 = .ok (.iinc 3 1, 3) := by decide +kernel
theorem dX2_targets_60 : decode cX2_targets 60 = .ok (.goto (-33), 3) := by decide +kernel
theorem dX2_targets_63 : decode cX2_targets 63 = .ok (.iload_n 2, 1) := by decide +kernel
theorem dX2_targets_64 : decode cX2_targets 64 = .ok (.ireturn, 1) := by decide +kernel
theorem dX2_kinds_0 : decode cX2_kinds 0 = .ok (.aload_n 0, 1) := by decide +kernel
theorem dX2_kinds_1 : decode cX2_kinds 1 = .ok (.iload_n 1, 1) := by decide +kernel
theorem dX2_kinds_2 : decode cX2_kinds 2 = .ok (.invokevirtual 79, 3) := by decide +kernel
theorem dX2_kinds_5 : decode cX2_kinds 5 = .ok (.ifCond .ne 5, 3) := by decide +kernel
theorem dX2_kinds_8 : decode cX2_kinds 8 = .ok (.iconst (-1), 1) := by decide +kernel
theorem dX2_kinds_9 : decode cX2_kinds 9 = .ok (.ireturn, 1) := by decide +kernel
theorem dX2_kinds_10 : decode cX2_kinds 10 = .ok (.iconst 0, 1) := by decide +kernel
theorem dX2_kinds_11 : decode cX2_kinds 11 = .ok (.istore_n 2, 1) := by decide +kernel
theorem dX2_kinds_12 : decode cX2_kinds 12 = .ok (.aload_n 0, 1) := by decide +kernel
theorem dX2_kinds_13 : decode cX2_kinds 13 = .ok (.getfield 18, 3) := by decide +kernel
theorem dX2_kinds_16 : decode cX2_kinds 16 = .ok (.aload_n 0, 1) := by decide +kernel
theorem dX2_kinds_17 : decode cX2_kinds 17 = .ok (.getfield 13, 3) := by decide +kernel
theorem dX2_kinds_20 : decode cX2_kinds 20 = .ok (.iload_n 1, 1) := by decide +kernel
theorem dX2_kinds_21 : decode cX2_kinds 21 = .ok (.aaload, 1) := by decide +kernel
theorem dX2_kinds_22 : decode cX2_kinds 22 = .ok (.invokevirtual 139, 3) := by decide +kernel
theorem dX2_kinds_25 : decode cX2_kinds 25 = .ok (.iconst 0, 1) := by decide +kernel
theorem dX2_kinds_26 : decode cX2_kinds 26 = .ok (.istore_n 3, 1) := by decide +kernel
theorem dX2_kinds_27 : decode cX2_kinds 27 = .ok (.iload_n 3, 1) := by decide +kernel
theorem dX2_kinds_28 : decode cX2_kinds 28 = .ok (.iconst 3, 1) := by decide +kernel
theorem dX2_kinds_29 : decode cX2_kinds 29 = .ok (.if_icmp .ge 31, 3) := by decide +kernel
theorem dX2_kinds_32 : decode cX2_kinds 32 = .ok (.aload_n 0, 1) := by decide +kernel
theorem dX2_kinds_33 : decode cX2_kinds 33 = .ok (.getfield 18, 3) := by decide +kernel
theorem dX2_kinds_36 : decode cX2_kinds 36 = .ok (.iload_n 3, 1) := by decide +kernel
theorem dX2_kinds_37 : decode cX2_kinds 37 = .ok (.putfield 82, 3) := by decide +kernel
theorem dX2_kinds_40 : decode cX2_kinds 40 = .ok (.aload_n 0, 1) := by decide +kernel
theorem dX2_kinds_41 : decode cX2_kinds 41 = .ok (.iload_n 1, 1) := by decide +kernel
theorem dX2_kinds_42 : decode cX2_kinds 42 = .ok (.invokevirtual 143, 3) := by decide +kernel
theorem dX2_kinds_45 : decode cX2_kinds 45 = .ok (.ifCond .eq 9, 3) := by decide +kernel
theorem dX2_kinds_48 : decode cX2_kinds 48 = .ok (.iload_n 2, 1) := by decide +kernel
theorem dX2_kinds_49 : decode cX2_kinds 49 = .ok (.iconst 1, 1) := by decide +kernel
theorem dX2_kinds_50 : decode cX2_kinds 50 = .ok (.iload_n 3, 1) := by decide +kernel
theorem dX2_kinds_51 : decode cX2_kinds 51 = .ok (.ishl, 1) := by decide +kernel
theorem dX2_kinds_52 : decode cX2_kinds 52 = .ok (.ior, 1) := by decide +kernel
theorem dX2_kinds_53 : decode cX2_kinds 53 = .ok (.istore_n 2, 1) := by decide +kernel
theorem dX2_kinds_54 : decode cX2_kinds 54 = .ok (.iinc 3 1, 3) := by decide +kernel
theorem dX2_kinds_57 : decode cX2_kinds 57 = .ok (.goto (-30), 3) := by decide +kernel
theorem dX2_kinds_60 : decode cX2_kinds 60 = .ok (.iload_n 2, 1) := by decide +kernel
theorem dX2_kinds_61 : decode cX2_kinds 61 = .ok (.ireturn, 1) := by decide +kernel
theorem dX2_odds_0 : decode cX2_odds 0 = .ok (.aload_n 0, 1) := by decide +kernel
theorem dX2_odds_1 : decode cX2_odds 1 = .ok (.iload_n 1, 1) := by decide +kernel
theorem dX2_odds_2 : decode cX2_odds 2 = .ok (.invokevirtual 104, 3) := by decide +kernel
theorem dX2_odds_5 : decode cX2_odds 5 = .ok (.ifCond .eq 11, 3) := by decide +kernel
theorem dX2_odds_8 : decode cX2_odds 8 = .ok (.aload_n 0, 1) := by decide +kernel
theorem dX2_odds_9 : decode cX2_odds 9 = .ok (.iload_n 2, 1) := by decide +kernel
theorem dX2_odds_10 : decode cX2_odds 10 = .ok (.invokevirtual 104, 3) := by decide +kernel
theorem dX2_odds_13 : decode cX2_odds 13 = .ok (.ifCond .ne 7, 3) := by decide +kernel
theorem dX2_odds_16 : decode cX2_odds 16 = .ok (.ldc2_w 146, 3) := by decide +kernel
theorem dX2_odds_19 : decode cX2_odds 19 = .ok (.lreturn, 1) := by decide +kernel
theorem dX2_odds_20 : decode cX2_odds 20 = .ok (.iload_n 3, 1) := by decide +kernel
theorem dX2_odds_21 : decode cX2_odds 21 = .ok (.ifCond .lt 20, 3) := by decide +kernel
theorem dX2_odds_24 : decode cX2_odds 24 = .ok (.iload_n 3, 1) := by decide +kernel
theorem dX2_odds_25 : decode cX2_odds 25 = .ok (.bipush 24, 2) := by decide +kernel
theorem dX2_odds_27 : decode cX2_odds 27 = .ok (.if_icmp .gt 14, 3) := by decide +kernel
theorem dX2_odds_30 : decode cX2_odds 30 = .ok (.iload 4, 2) := by decide +kernel
theorem dX2_odds_32 : decode cX2_odds 32 = .ok (.ifCond .lt 9, 3) := by decide +kernel
theorem dX2_odds_35 : decode cX2_odds 35 = .ok (.iload 4, 2) := by decide +kernel
theorem dX2_odds_37 : decode cX2_odds 37 = .ok (.iconst 1, 1) := by decide +kernel
theorem dX2_odds_38 : decode cX2_odds 38 = .ok (.if_icmp .le 7, 3) := by decide +kernel
theorem dX2_odds_41 : decode cX2_odds 41 = .ok (.ldc2_w 146, 3) := by decide +kernel
theorem dX2_odds_44 : decode cX2_odds 44 = .ok (.lreturn, 1) := by decide +kernel
theorem dX2_odds_45 : decode cX2_odds 45 = .ok (.iconst 0, 1) := by decide +kernel
theorem dX2_odds_46 : decode cX2_odds 46 = .ok (.istore 5, 2) := by decide +kernel
theorem dX2_odds_48 : decode cX2_odds 48 = .ok (.iconst 0, 1) := by decide +kernel
theorem dX2_odds_49 : decode cX2_odds 49 = .ok (.istore 6, 2) := by decide +kernel
theorem dX2_odds_51 : decode cX2_odds 51 = .ok (.iload 6, 2) := by decide +kernel
theorem dX2_odds_53 : decode cX2_odds 53 = .ok (.bipush 12, 2) := by decide +kernel
theorem dX2_odds_55 : decode cX2_odds 55 = .ok (.if_icmp .ge 37, 3) := by decide +kernel
theorem dX2_odds_58 : decode cX2_odds 58 = .ok (.aload_n 0, 1) := by decide +kernel
theorem dX2_odds_59 : decode cX2_odds 59 = .ok (.iload_n 1, 1) := by decide +kernel
theorem dX2_odds_60 : decode cX2_odds 60 = .ok (.iload_n 2, 1) := by decide +kernel
theorem dX2_odds_61 : decode cX2_odds 61 = .ok (.iload 6, 2) := by decide +kernel
theorem dX2_odds_63 : decode cX2_odds 63 = .ok (.bipush (-9), 2) := by decide +kernel
theorem dX2_odds_65 : decode cX2_odds 65 = .ok (.invokevirtual 115, 3) := by decide +kernel
theorem dX2_odds_68 : decode cX2_odds 68 = .ok (.istore 7, 2) := by decide +kernel
theorem dX2_odds_70 : decode cX2_odds 70 = .ok (.iload 7, 2) := by decide +kernel
theorem dX2_odds_72 : decode cX2_odds 72 = .ok (.bipush (-9), 2) := by decide +kernel
theorem dX2_odds_74 : decode cX2_odds 74 = .ok (.if_icmp .eq 12, 3) := by decide +kernel
theorem dX2_odds_77 : decode cX2_odds 77 = .ok (.iload 7, 2) := by decide +kernel
theorem dX2_odds_79 : decode cX2_odds 79 = .ok (.iload_n 3, 1) := by decide +kernel
theorem dX2_odds_80 : decode cX2_odds 80 = .ok (.if_icmp .gt 6, 3) := by decide +kernel
theorem dX2_odds_83 : decode cX2_odds 83 = .ok (.iinc 5 1, 3) := by decide +kernel
theorem dX2_odds_86 : decode cX2_odds 86 = .ok (.iinc 6 1, 3) := by decide +kernel
theorem dX2_odds_89 : decode cX2_odds 89 = .ok (.goto (-38), 3) := by decide +kernel
theorem dX2_odds_92 : decode cX2_odds 92 = .ok (.iload 5, 2) := by decide +kernel
theorem dX2_odds_94 : decode cX2_odds 94 = .ok (.invokestatic 148, 3) := by decide +kernel
theorem dX2_odds_97 : decode cX2_odds 97 = .ok (.istore 6, 2) := by decide +kernel
theorem dX2_odds_99 : decode cX2_odds 99 = .ok (.iload 4, 2) := by decide +kernel
theorem dX2_odds_101 : decode cX2_odds 101 = .ok (.ifCond .ne 8, 3) := by decide +kernel
theorem dX2_odds_104 : decode cX2_odds 104 = .ok (.iload 5, 2) := by decide +kernel
theorem dX2_odds_106 : decode cX2_odds 106 = .ok (.goto 5, 3) := by decide +kernel
theorem dX2_odds_109 : decode cX2_odds 109 = .ok (.bipush 12, 2) := by decide +kernel
theorem dX2_odds_111 : decode cX2_odds 111 = .ok (.iload 6, 2) := by decide +kernel
theorem dX2_odds_113 : decode cX2_odds 113 = .ok (.idiv, 1) := by decide +kernel
theorem dX2_odds_114 : decode cX2_odds 114 = .ok (.i2l, 1) := by decide +kernel
theorem dX2_odds_115 : decode cX2_odds 115 = .ok (.lreturn, 1) := by decide +kernel
theorem dX2_sheet_0 : decode cX2_sheet 0 = .ok (.aload_n 0, 1) := by decide +kernel
theorem dX2_sheet_1 : decode cX2_sheet 1 = .ok (.iconst 0, 1) := by decide +kernel
theorem dX2_sheet_2 : decode cX2_sheet 2 = .ok (.putfield 49, 3) := by decide +kernel
theorem dX2_sheet_5 : decode cX2_sheet 5 = .ok (.iload_n 1, 1) := by decide +kernel
theorem dX2_sheet_6 : decode cX2_sheet 6 = .ok (.invokestatic 53, 3) := by decide +kernel
theorem dX2_sheet_9 : decode cX2_sheet 9 = .ok (.ifCond .ne 5, 3) := by decide +kernel
theorem dX2_sheet_12 : decode cX2_sheet 12 = .ok (.iconst (-1), 1) := by decide +kernel
theorem dX2_sheet_13 : decode cX2_sheet 13 = .ok (.ireturn, 1) := by decide +kernel
theorem dX2_sheet_14 : decode cX2_sheet 14 = .ok (.iload_n 2, 1) := by decide +kernel
theorem dX2_sheet_15 : decode cX2_sheet 15 = .ok (.invokestatic 57, 3) := by decide +kernel
theorem dX2_sheet_18 : decode cX2_sheet 18 = .ok (.ifCond .eq 9, 3) := by decide +kernel
theorem dX2_sheet_21 : decode cX2_sheet 21 = .ok (.iload_n 3, 1) := by decide +kernel
theorem dX2_sheet_22 : decode cX2_sheet 22 = .ok (.bipush 60, 2) := by decide +kernel
theorem dX2_sheet_24 : decode cX2_sheet 24 = .ok (.if_icmp .le 6, 3) := by decide +kernel
theorem dX2_sheet_27 : decode cX2_sheet 27 = .ok (.bipush (-2), 2) := by decide +kernel
theorem dX2_sheet_29 : decode cX2_sheet 29 = .ok (.ireturn, 1) := by decide +kernel
theorem dX2_sheet_30 : decode cX2_sheet 30 = .ok (.iload_n 3, 1) := by decide +kernel
theorem dX2_sheet_31 : decode cX2_sheet 31 = .ok (.ifCond .ge 9, 3) := by decide +kernel
theorem dX2_sheet_34 : decode cX2_sheet 34 = .ok (.aload_n 0, 1) := by decide +kernel
theorem dX2_sheet_35 : decode cX2_sheet 35 = .ok (.iconst 4, 1) := by decide +kernel
theorem dX2_sheet_36 : decode cX2_sheet 36 = .ok (.invokevirtual 64, 3) := by decide +kernel
theorem dX2_sheet_39 : decode cX2_sheet 39 = .ok (.ireturn, 1) := by decide +kernel
theorem dX2_sheet_40 : decode cX2_sheet 40 = .ok (.aload_n 0, 1) := by decide +kernel
theorem dX2_sheet_41 : decode cX2_sheet 41 = .ok (.getfield 34, 3) := by decide +kernel
theorem dX2_sheet_44 : decode cX2_sheet 44 = .ok (.iload_n 1, 1) := by decide +kernel
theorem dX2_sheet_45 : decode cX2_sheet 45 = .ok (.aaload, 1) := by decide +kernel
theorem dX2_sheet_46 : decode cX2_sheet 46 = .ok (.iload_n 2, 1) := by decide +kernel
theorem dX2_sheet_47 : decode cX2_sheet 47 = .ok (.iload_n 3, 1) := by decide +kernel
theorem dX2_sheet_48 : decode cX2_sheet 48 = .ok (.invokevirtual 151, 3) := by decide +kernel
theorem dX2_sheet_51 : decode cX2_sheet 51 = .ok (.iconst 1, 1) := by decide +kernel
theorem dX2_sheet_52 : decode cX2_sheet 52 = .ok (.ireturn, 1) := by decide +kernel
theorem dX2_lose_0 : decode cX2_lose 0 = .ok (.iload_n 1, 1) := by decide +kernel
theorem dX2_lose_1 : decode cX2_lose 1 = .ok (.invokestatic 53, 3) := by decide +kernel
theorem dX2_lose_4 : decode cX2_lose 4 = .ok (.ifCond .ne 5, 3) := by decide +kernel
theorem dX2_lose_7 : decode cX2_lose 7 = .ok (.iconst (-1), 1) := by decide +kernel
theorem dX2_lose_8 : decode cX2_lose 8 = .ok (.ireturn, 1) := by decide +kernel
theorem dX2_lose_9 : decode cX2_lose 9 = .ok (.aload_n 0, 1) := by decide +kernel
theorem dX2_lose_10 : decode cX2_lose 10 = .ok (.getfield 34, 3) := by decide +kernel
theorem dX2_lose_13 : decode cX2_lose 13 = .ok (.iload_n 1, 1) := by decide +kernel
theorem dX2_lose_14 : decode cX2_lose 14 = .ok (.aaload, 1) := by decide +kernel
theorem dX2_lose_15 : decode cX2_lose 15 = .ok (.invokevirtual 155, 3) := by decide +kernel
theorem dX2_lose_18 : decode cX2_lose 18 = .ok (.ifCond .eq 5, 3) := by decide +kernel
theorem dX2_lose_21 : decode cX2_lose 21 = .ok (.iconst 0, 1) := by decide +kernel
theorem dX2_lose_22 : decode cX2_lose 22 = .ok (.ireturn, 1) := by decide +kernel
theorem dX2_lose_23 : decode cX2_lose 23 = .ok (.aload_n 0, 1) := by decide +kernel
theorem dX2_lose_24 : decode cX2_lose 24 = .ok (.getfield 34, 3) := by decide +kernel
theorem dX2_lose_27 : decode cX2_lose 27 = .ok (.iload_n 1, 1) := by decide +kernel
theorem dX2_lose_28 : decode cX2_lose 28 = .ok (.aaload, 1) := by decide +kernel
theorem dX2_lose_29 : decode cX2_lose 29 = .ok (.invokevirtual 159, 3) := by decide +kernel
theorem dX2_lose_32 : decode cX2_lose 32 = .ok (.iconst 1, 1) := by decide +kernel
theorem dX2_lose_33 : decode cX2_lose 33 = .ok (.ireturn, 1) := by decide +kernel
theorem dX2_put_0 : decode cX2_put 0 = .ok (.aload_n 0, 1) := by decide +kernel
theorem dX2_put_1 : decode cX2_put 1 = .ok (.iconst 0, 1) := by decide +kernel
theorem dX2_put_2 : decode cX2_put 2 = .ok (.putfield 49, 3) := by decide +kernel
theorem dX2_put_5 : decode cX2_put 5 = .ok (.iload_n 1, 1) := by decide +kernel
theorem dX2_put_6 : decode cX2_put 6 = .ok (.invokestatic 53, 3) := by decide +kernel
theorem dX2_put_9 : decode cX2_put 9 = .ok (.ifCond .ne 5, 3) := by decide +kernel
theorem dX2_put_12 : decode cX2_put 12 = .ok (.iconst (-1), 1) := by decide +kernel
theorem dX2_put_13 : decode cX2_put 13 = .ok (.ireturn, 1) := by decide +kernel
theorem dX2_put_14 : decode cX2_put 14 = .ok (.aload_n 0, 1) := by decide +kernel
theorem dX2_put_15 : decode cX2_put 15 = .ok (.getfield 34, 3) := by decide +kernel
theorem dX2_put_18 : decode cX2_put 18 = .ok (.iload_n 1, 1) := by decide +kernel
theorem dX2_put_19 : decode cX2_put 19 = .ok (.aaload, 1) := by decide +kernel
theorem dX2_put_20 : decode cX2_put 20 = .ok (.astore 4, 2) := by decide +kernel
theorem dX2_put_22 : decode cX2_put 22 = .ok (.aload 4, 2) := by decide +kernel
theorem dX2_put_24 : decode cX2_put 24 = .ok (.aload 4, 2) := by decide +kernel
theorem dX2_put_26 : decode cX2_put 26 = .ok (.getfield 162, 3) := by decide +kernel
theorem dX2_put_29 : decode cX2_put 29 = .ok (.iload_n 2, 1) := by decide +kernel
theorem dX2_put_30 : decode cX2_put 30 = .ok (.iconst 1, 1) := by decide +kernel
theorem dX2_put_31 : decode cX2_put 31 = .ok (.invokevirtual 60, 3) := by decide +kernel
theorem dX2_put_34 : decode cX2_put 34 = .ok (.istore 5, 2) := by decide +kernel
theorem dX2_put_36 : decode cX2_put 36 = .ok (.iload 5, 2) := by decide +kernel
theorem dX2_put_38 : decode cX2_put 38 = .ok (.ifCond .eq 10, 3) := by decide +kernel
theorem dX2_put_41 : decode cX2_put 41 = .ok (.aload_n 0, 1) := by decide +kernel
theorem dX2_put_42 : decode cX2_put 42 = .ok (.iload 5, 2) := by decide +kernel
theorem dX2_put_44 : decode cX2_put 44 = .ok (.invokevirtual 64, 3) := by decide +kernel
theorem dX2_put_47 : decode cX2_put 47 = .ok (.ireturn, 1) := by decide +kernel
theorem dX2_put_48 : decode cX2_put 48 = .ok (.aload 4, 2) := by decide +kernel
theorem dX2_put_50 : decode cX2_put 50 = .ok (.getfield 165, 3) := by decide +kernel
theorem dX2_put_53 : decode cX2_put 53 = .ok (.iload_n 2, 1) := by decide +kernel
theorem dX2_put_54 : decode cX2_put 54 = .ok (.iload_n 3, 1) := by decide +kernel
theorem dX2_put_55 : decode cX2_put 55 = .ok (.aload 4, 2) := by decide +kernel
theorem dX2_put_57 : decode cX2_put 57 = .ok (.getfield 162, 3) := by decide +kernel
theorem dX2_put_60 : decode cX2_put 60 = .ok (.invokestatic 168, 3) := by decide +kernel
theorem dX2_put_63 : decode cX2_put 63 = .ok (.iastore, 1) := by decide +kernel
theorem dX2_put_64 : decode cX2_put 64 = .ok (.iconst 1, 1) := by decide +kernel
theorem dX2_put_65 : decode cX2_put 65 = .ok (.ireturn, 1) := by decide +kernel
theorem dX2_cell_0 : decode cX2_cell 0 = .ok (.aload_n 0, 1) := by decide +kernel
theorem dX2_cell_1 : decode cX2_cell 1 = .ok (.iconst 0, 1) := by decide +kernel
theorem dX2_cell_2 : decode cX2_cell 2 = .ok (.putfield 49, 3) := by decide +kernel
theorem dX2_cell_5 : decode cX2_cell 5 = .ok (.iload_n 1, 1) := by decide +kernel
theorem dX2_cell_6 : decode cX2_cell 6 = .ok (.invokestatic 53, 3) := by decide +kernel
theorem dX2_cell_9 : decode cX2_cell 9 = .ok (.ifCond .eq 10, 3) := by decide +kernel
theorem dX2_cell_12 : decode cX2_cell 12 = .ok (.iload_n 3, 1) := by decide +kernel
theorem dX2_cell_13 : decode cX2_cell 13 = .ok (.invokestatic 57, 3) := by decide +kernel
theorem dX2_cell_16 : decode cX2_cell 16 = .ok (.ifCond .ne 7, 3) := by decide +kernel
theorem dX2_cell_19 : decode cX2_cell 19 = .ok (.ldc2_w 146, 3) := by decide +kernel
theorem dX2_cell_22 : decode cX2_cell 22 = .ok (.lreturn, 1) := by decide +kernel
theorem dX2_cell_23 : decode cX2_cell 23 = .ok (.aload_n 0, 1) := by decide +kernel
theorem dX2_cell_24 : decode cX2_cell 24 = .ok (.aload_n 0, 1) := by decide +kernel
theorem dX2_cell_25 : decode cX2_cell 25 = .ok (.getfield 34, 3) := by decide +kernel
theorem dX2_cell_28 : decode cX2_cell 28 = .ok (.iload_n 1, 1) := by decide +kernel
theorem dX2_cell_29 : decode cX2_cell 29 = .ok (.aaload, 1) := by decide +kernel
theorem dX2_cell_30 : decode cX2_cell 30 = .ok (.iload_n 3, 1) := by decide +kernel
theorem dX2_cell_31 : decode cX2_cell 31 = .ok (.iload_n 2, 1) := by decide +kernel
theorem dX2_cell_32 : decode cX2_cell 32 = .ok (.iconst 1, 1) := by decide +kernel
theorem dX2_cell_33 : decode cX2_cell 33 = .ok (.invokevirtual 60, 3) := by decide +kernel
theorem dX2_cell_36 : decode cX2_cell 36 = .ok (.putfield 49, 3) := by decide +kernel
theorem dX2_cell_39 : decode cX2_cell 39 = .ok (.aload_n 0, 1) := by decide +kernel
theorem dX2_cell_40 : decode cX2_cell 40 = .ok (.getfield 49, 3) := by decide +kernel
theorem dX2_cell_43 : decode cX2_cell 43 = .ok (.ifCond .eq 9, 3) := by decide +kernel
theorem dX2_cell_46 : decode cX2_cell 46 = .ok (.ldc2_w 146, 3) := by decide +kernel
theorem dX2_cell_49 : decode cX2_cell 49 = .ok (.goto 15, 3) := by decide +kernel
theorem dX2_cell_52 : decode cX2_cell 52 = .ok (.aload_n 0, 1) := by decide +kernel
theorem dX2_cell_53 : decode cX2_cell 53 = .ok (.getfield 34, 3) := by decide +kernel
theorem dX2_cell_56 : decode cX2_cell 56 = .ok (.iload_n 1, 1) := by decide +kernel
theorem dX2_cell_57 : decode cX2_cell 57 = .ok (.aaload, 1) := by decide +kernel
theorem dX2_cell_58 : decode cX2_cell 58 = .ok (.getfield 165, 3) := by decide +kernel
theorem dX2_cell_61 : decode cX2_cell 61 = .ok (.iload_n 2, 1) := by decide +kernel
theorem dX2_cell_62 : decode cX2_cell 62 = .ok (.iaload, 1) := by decide +kernel
theorem dX2_cell_63 : decode cX2_cell 63 = .ok (.i2l, 1) := by decide +kernel
theorem dX2_cell_64 : decode cX2_cell 64 = .ok (.lreturn, 1) := by decide +kernel
theorem dX2_copy_0 : decode cX2_copy 0 = .ok (.aload_n 0, 1) := by decide +kernel
theorem dX2_copy_1 : decode cX2_copy 1 = .ok (.iconst 0, 1) := by decide +kernel
theorem dX2_copy_2 : decode cX2_copy 2 = .ok (.putfield 49, 3) := by decide +kernel
theorem dX2_copy_5 : decode cX2_copy 5 = .ok (.iload_n 1, 1) := by decide +kernel
theorem dX2_copy_6 : decode cX2_copy 6 = .ok (.invokestatic 53, 3) := by decide +kernel
theorem dX2_copy_9 : decode cX2_copy 9 = .ok (.ifCond .eq 10, 3) := by decide +kernel
theorem dX2_copy_12 : decode cX2_copy 12 = .ok (.iload_n 3, 1) := by decide +kernel
theorem dX2_copy_13 : decode cX2_copy 13 = .ok (.invokestatic 53, 3) := by decide +kernel
theorem dX2_copy_16 : decode cX2_copy 16 = .ok (.ifCond .ne 5, 3) := by decide +kernel
theorem dX2_copy_19 : decode cX2_copy 19 = .ok (.iconst (-1), 1) := by decide +kernel
theorem dX2_copy_20 : decode cX2_copy 20 = .ok (.ireturn, 1) := by decide +kernel
theorem dX2_copy_21 : decode cX2_copy 21 = .ok (.aload_n 0, 1) := by decide +kernel
theorem dX2_copy_22 : decode cX2_copy 22 = .ok (.getfield 34, 3) := by decide +kernel
theorem dX2_copy_25 : decode cX2_copy 25 = .ok (.iload_n 1, 1) := by decide +kernel
theorem dX2_copy_26 : decode cX2_copy 26 = .ok (.aaload, 1) := by decide +kernel
theorem dX2_copy_27 : decode cX2_copy 27 = .ok (.astore 6, 2) := by decide +kernel
theorem dX2_copy_29 : decode cX2_copy 29 = .ok (.aload_n 0, 1) := by decide +kernel
theorem dX2_copy_30 : decode cX2_copy 30 = .ok (.getfield 34, 3) := by decide +kernel
theorem dX2_copy_33 : decode cX2_copy 33 = .ok (.iload_n 3, 1) := by decide +kernel
theorem dX2_copy_34 : decode cX2_copy 34 = .ok (.aaload, 1) := by decide +kernel
theorem dX2_copy_35 : decode cX2_copy 35 = .ok (.astore 7, 2) := by decide +kernel
theorem dX2_copy_37 : decode cX2_copy 37 = .ok (.aload 6, 2) := by decide +kernel
theorem dX2_copy_39 : decode cX2_copy 39 = .ok (.invokevirtual 155, 3) := by decide +kernel
theorem dX2_copy_42 : decode cX2_copy 42 = .ok (.ifCond .ne 11, 3) := by decide +kernel
theorem dX2_copy_45 : decode cX2_copy 45 = .ok (.aload 7, 2) := by decide +kernel
theorem dX2_copy_47 : decode cX2_copy 47 = .ok (.invokevirtual 155, 3) := by decide +kernel
theorem dX2_copy_50 : decode cX2_copy 50 = .ok (.ifCond .eq 9, 3) := by decide +kernel
theorem dX2_copy_53 : decode cX2_copy 53 = .ok (.aload_n 0, 1) := by decide +kernel
theorem dX2_copy_54 : decode cX2_copy 54 = .ok (.iconst 1, 1) := by decide +kernel
theorem dX2_copy_55 : decode cX2_copy 55 = .ok (.invokevirtual 64, 3) := by decide +kernel
theorem dX2_copy_58 : decode cX2_copy 58 = .ok (.ireturn, 1) := by decide +kernel
theorem dX2_copy_59 : decode cX2_copy 59 = .ok (.aload 6, 2) := by decide +kernel
theorem dX2_copy_61 : decode cX2_copy 61 = .ok (.getfield 162, 3) := by decide +kernel
theorem dX2_copy_64 : decode cX2_copy 64 = .ok (.aload 7, 2) := by decide +kernel
theorem dX2_copy_66 : decode cX2_copy 66 = .ok (.getfield 162, 3) := by decide +kernel
theorem dX2_copy_69 : decode cX2_copy 69 = .ok (.if_icmp .eq 9, 3) := by decide +kernel
theorem dX2_copy_72 : decode cX2_copy 72 = .ok (.aload_n 0, 1) := by decide +kernel
theorem dX2_copy_73 : decode cX2_copy 73 = .ok (.iconst 2, 1) := by decide +kernel
theorem dX2_copy_74 : decode cX2_copy 74 = .ok (.invokevirtual 64, 3) := by decide +kernel
theorem dX2_copy_77 : decode cX2_copy 77 = .ok (.ireturn, 1) := by decide +kernel
theorem dX2_copy_78 : decode cX2_copy 78 = .ok (.aload 6, 2) := by decide +kernel
theorem dX2_copy_80 : decode cX2_copy 80 = .ok (.iload_n 2, 1) := by decide +kernel
theorem dX2_copy_81 : decode cX2_copy 81 = .ok (.iload 5, 2) := by decide +kernel
theorem dX2_copy_83 : decode cX2_copy 83 = .ok (.invokevirtual 171, 3) := by decide +kernel
theorem dX2_copy_86 : decode cX2_copy 86 = .ok (.ifCond .eq 15, 3) := by decide +kernel
theorem dX2_copy_89 : decode cX2_copy 89 = .ok (.aload 7, 2) := by decide +kernel
theorem dX2_copy_91 : decode cX2_copy 91 = .ok (.iload 4, 2) := by decide +kernel
theorem dX2_copy_93 : decode cX2_copy 93 = .ok (.iload 5, 2) := by decide +kernel
theorem dX2_copy_95 : decode cX2_copy 95 = .ok (.invokevirtual 171, 3) := by decide +kernel
theorem dX2_copy_98 : decode cX2_copy 98 = .ok (.ifCond .ne 9, 3) := by decide +kernel
theorem dX2_copy_101 : decode cX2_copy 101 = .ok (.aload_n 0, 1) := by decide +kernel
theorem dX2_copy_102 : decode cX2_copy 102 = .ok (.iconst 3, 1) := by decide +kernel
theorem dX2_copy_103 : decode cX2_copy 103 = .ok (.invokevirtual 64, 3) := by decide +kernel
theorem dX2_copy_106 : decode cX2_copy 106 = .ok (.ireturn, 1) := by decide +kernel
theorem dX2_copy_107 : decode cX2_copy 107 = .ok (.aload 6, 2) := by decide +kernel
theorem dX2_copy_109 : decode cX2_copy 109 = .ok (.getfield 165, 3) := by decide +kernel
theorem dX2_copy_112 : decode cX2_copy 112 = .ok (.iload_n 2, 1) := by decide +kernel
theorem dX2_copy_113 : decode cX2_copy 113 = .ok (.aload 7, 2) := by decide +kernel
theorem dX2_copy_115 : decode cX2_copy 115 = .ok (.getfield 165, 3) := by decide +kernel
theorem dX2_copy_118 : decode cX2_copy 118 = .ok (.iload 4, 2) := by decide +kernel
theorem dX2_copy_120 : decode cX2_copy 120 = .ok (.iload 5, 2) := by decide +kernel
theorem dX2_copy_122 : decode cX2_copy 122 = .ok (.invokestatic 175, 3) := by decide +kernel
theorem dX2_copy_125 : decode cX2_copy 125 = .ok (.iload 5, 2) := by decide +kernel
theorem dX2_copy_127 : decode cX2_copy 127 = .ok (.ireturn, 1) := by decide +kernel
theorem dX2_tell_0 : decode cX2_tell 0 = .ok (.aload_n 0, 1) := by decide +kernel
theorem dX2_tell_1 : decode cX2_tell 1 = .ok (.iload_n 1, 1) := by decide +kernel
theorem dX2_tell_2 : decode cX2_tell 2 = .ok (.invokevirtual 79, 3) := by decide +kernel
theorem dX2_tell_5 : decode cX2_tell 5 = .ok (.ifCond .ne 5, 3) := by decide +kernel
theorem dX2_tell_8 : decode cX2_tell 8 = .ok (.iconst (-1), 1) := by decide +kernel
theorem dX2_tell_9 : decode cX2_tell 9 = .ok (.ireturn, 1) := by decide +kernel
theorem dX2_tell_10 : decode cX2_tell 10 = .ok (.aload_n 0, 1) := by decide +kernel
theorem dX2_tell_11 : decode cX2_tell 11 = .ok (.getfield 13, 3) := by decide +kernel
theorem dX2_tell_14 : decode cX2_tell 14 = .ok (.iload_n 1, 1) := by decide +kernel
theorem dX2_tell_15 : decode cX2_tell 15 = .ok (.aaload, 1) := by decide +kernel
theorem dX2_tell_16 : decode cX2_tell 16 = .ok (.getfield 82, 3) := by decide +kernel
theorem dX2_tell_19 : decode cX2_tell 19 = .ok (.lookupswitch 47 #[(1, 25), (2, 36)], 25) := by decide +kernel
theorem dX2_tell_44 : decode cX2_tell 44 = .ok (.aload_n 0, 1) := by decide +kernel
theorem dX2_tell_45 : decode cX2_tell 45 = .ok (.aload_n 0, 1) := by decide +kernel
theorem dX2_tell_46 : decode cX2_tell 46 = .ok (.getfield 13, 3) := by decide +kernel
theorem dX2_tell_49 : decode cX2_tell 49 = .ok (.iload_n 1, 1) := by decide +kernel
theorem dX2_tell_50 : decode cX2_tell 50 = .ok (.aaload, 1) := by decide +kernel
theorem dX2_tell_51 : decode cX2_tell 51 = .ok (.invokevirtual 181, 3) := by decide +kernel
theorem dX2_tell_54 : decode cX2_tell 54 = .ok (.ireturn, 1) := by decide +kernel
theorem dX2_tell_55 : decode cX2_tell 55 = .ok (.aload_n 0, 1) := by decide +kernel
theorem dX2_tell_56 : decode cX2_tell 56 = .ok (.aload_n 0, 1) := by decide +kernel
theorem dX2_tell_57 : decode cX2_tell 57 = .ok (.getfield 13, 3) := by decide +kernel
theorem dX2_tell_60 : decode cX2_tell 60 = .ok (.iload_n 1, 1) := by decide +kernel
theorem dX2_tell_61 : decode cX2_tell 61 = .ok (.aaload, 1) := by decide +kernel
theorem dX2_tell_62 : decode cX2_tell 62 = .ok (.invokevirtual 185, 3) := by decide +kernel
theorem dX2_tell_65 : decode cX2_tell 65 = .ok (.ireturn, 1) := by decide +kernel
theorem dX2_tell_66 : decode cX2_tell 66 = .ok (.aload_n 0, 1) := by decide +kernel
theorem dX2_tell_67 : decode cX2_tell 67 = .ok (.aload_n 0, 1) := by decide +kernel
theorem dX2_tell_68 : decode cX2_tell 68 = .ok (.getfield 13, 3) := by decide +kernel
theorem dX2_tell_71 : decode cX2_tell 71 = .ok (.iload_n 1, 1) := by decide +kernel
theorem dX2_tell_72 : decode cX2_tell 72 = .ok (.aaload, 1) := by decide +kernel
theorem dX2_tell_73 : decode cX2_tell 73 = .ok (.invokevirtual 188, 3) := by decide +kernel
theorem dX2_tell_76 : decode cX2_tell 76 = .ok (.ireturn, 1) := by decide +kernel
theorem dX2_knock_0 : decode cX2_knock 0 = .ok (.aload_n 0, 1) := by decide +kernel
theorem dX2_knock_1 : decode cX2_knock 1 = .ok (.iload_n 1, 1) := by decide +kernel
theorem dX2_knock_2 : decode cX2_knock 2 = .ok (.invokevirtual 79, 3) := by decide +kernel
theorem dX2_knock_5 : decode cX2_knock 5 = .ok (.ifCond .ne 5, 3) := by decide +kernel
theorem dX2_knock_8 : decode cX2_knock 8 = .ok (.iconst (-1), 1) := by decide +kernel
theorem dX2_knock_9 : decode cX2_knock 9 = .ok (.ireturn, 1) := by decide +kernel
theorem dX2_knock_10 : decode cX2_knock 10 = .ok (.aload_n 0, 1) := by decide +kernel
theorem dX2_knock_11 : decode cX2_knock 11 = .ok (.getfield 13, 3) := by decide +kernel
theorem dX2_knock_14 : decode cX2_knock 14 = .ok (.iload_n 1, 1) := by decide +kernel
theorem dX2_knock_15 : decode cX2_knock 15 = .ok (.aaload, 1) := by decide +kernel
theorem dX2_knock_16 : decode cX2_knock 16 = .ok (.getfield 82, 3) := by decide +kernel
theorem dX2_knock_19 : decode cX2_knock 19 = .ok (.iconst 2, 1) := by decide +kernel
theorem dX2_knock_20 : decode cX2_knock 20 = .ok (.if_icmp .ne 7, 3) := by decide +kernel
theorem dX2_knock_23 : decode cX2_knock 23 = .ok (.iconst 1, 1) := by decide +kernel
theorem dX2_knock_24 : decode cX2_knock 24 = .ok (.goto 4, 3) := by decide +kernel
theorem dX2_knock_27 : decode cX2_knock 27 = .ok (.iconst 0, 1) := by decide +kernel
theorem dX2_knock_28 : decode cX2_knock 28 = .ok (.istore_n 2, 1) := by decide +kernel
theorem dX2_knock_29 : decode cX2_knock 29 = .ok (.aload_n 0, 1) := by decide +kernel
theorem dX2_knock_30 : decode cX2_knock 30 = .ok (.iload_n 2, 1) := by decide +kernel
theorem dX2_knock_31 : decode cX2_knock 31 = .ok (.ifCond .eq 7, 3) := by decide +kernel
theorem dX2_knock_34 : decode cX2_knock 34 = .ok (.iconst 5, 1) := by decide +kernel
theorem dX2_knock_35 : decode cX2_knock 35 = .ok (.goto 4, 3) := by decide +kernel
theorem dX2_knock_38 : decode cX2_knock 38 = .ok (.iconst 4, 1) := by decide +kernel
theorem dX2_knock_39 : decode cX2_knock 39 = .ok (.invokevirtual 191, 3) := by decide +kernel
theorem dX2_knock_42 : decode cX2_knock 42 = .ok (.iload_n 2, 1) := by decide +kernel
theorem dX2_knock_43 : decode cX2_knock 43 = .ok (.ifCond .eq 8, 3) := by decide +kernel
theorem dX2_knock_46 : decode cX2_knock 46 = .ok (.bipush 60, 2) := by decide +kernel
theorem dX2_knock_48 : decode cX2_knock 48 = .ok (.goto 4, 3) := by decide +kernel
theorem dX2_knock_51 : decode cX2_knock 51 = .ok (.iload_n 1, 1) := by decide +kernel
theorem dX2_knock_52 : decode cX2_knock 52 = .ok (.ireturn, 1) := by decide +kernel
theorem dX2_as_0 : decode cX2_as 0 = .ok (.aload_n 0, 1) := by decide +kernel
theorem dX2_as_1 : decode cX2_as 1 = .ok (.iconst 0, 1) := by decide +kernel
theorem dX2_as_2 : decode cX2_as 2 = .ok (.putfield 49, 3) := by decide +kernel
theorem dX2_as_5 : decode cX2_as 5 = .ok (.aload_n 0, 1) := by decide +kernel
theorem dX2_as_6 : decode cX2_as 6 = .ok (.iload_n 1, 1) := by decide +kernel
theorem dX2_as_7 : decode cX2_as 7 = .ok (.invokevirtual 79, 3) := by decide +kernel
theorem dX2_as_10 : decode cX2_as 10 = .ok (.ifCond .ne 5, 3) := by decide +kernel
theorem dX2_as_13 : decode cX2_as 13 = .ok (.iconst (-1), 1) := by decide +kernel
theorem dX2_as_14 : decode cX2_as 14 = .ok (.ireturn, 1) := by decide +kernel
theorem dX2_as_15 : decode cX2_as 15 = .ok (.iload_n 2, 1) := by decide +kernel
theorem dX2_as_16 : decode cX2_as 16 = .ok (.ifCond .lt 8, 3) := by decide +kernel
theorem dX2_as_19 : decode cX2_as 19 = .ok (.iload_n 2, 1) := by decide +kernel
theorem dX2_as_20 : decode cX2_as 20 = .ok (.iconst 3, 1) := by decide +kernel
theorem dX2_as_21 : decode cX2_as 21 = .ok (.if_icmp .lt 6, 3) := by decide +kernel
theorem dX2_as_24 : decode cX2_as 24 = .ok (.bipush (-2), 2) := by decide +kernel
theorem dX2_as_26 : decode cX2_as 26 = .ok (.ireturn, 1) := by decide +kernel
theorem dX2_as_27 : decode cX2_as 27 = .ok (.aload_n 0, 1) := by decide +kernel
theorem dX2_as_28 : decode cX2_as 28 = .ok (.getfield 13, 3) := by decide +kernel
theorem dX2_as_31 : decode cX2_as 31 = .ok (.iload_n 1, 1) := by decide +kernel
theorem dX2_as_32 : decode cX2_as 32 = .ok (.aaload, 1) := by decide +kernel
theorem dX2_as_33 : decode cX2_as 33 = .ok (.getfield 82, 3) := by decide +kernel
theorem dX2_as_36 : decode cX2_as 36 = .ok (.iload_n 2, 1) := by decide +kernel
theorem dX2_as_37 : decode cX2_as 37 = .ok (.if_icmp .lt 7, 3) := by decide +kernel
theorem dX2_as_40 : decode cX2_as 40 = .ok (.iconst 1, 1) := by decide +kernel
theorem dX2_as_41 : decode cX2_as 41 = .ok (.goto 8, 3) := by decide +kernel
theorem dX2_as_44 : decode cX2_as 44 = .ok (.aload_n 0, 1) := by decide +kernel
theorem dX2_as_45 : decode cX2_as 45 = .ok (.iconst 2, 1) := by decide +kernel
theorem dX2_as_46 : decode cX2_as 46 = .ok (.invokevirtual 64, 3) := by decide +kernel
theorem dX2_as_49 : decode cX2_as 49 = .ok (.ireturn, 1) := by decide +kernel
theorem dX2_trace_0 : decode cX2_trace 0 = .ok (.aload_n 0, 1) := by decide +kernel
theorem dX2_trace_1 : decode cX2_trace 1 = .ok (.getfield 195, 3) := by decide +kernel
theorem dX2_trace_4 : decode cX2_trace 4 = .ok (.ireturn, 1) := by decide +kernel
theorem dX2_fault_0 : decode cX2_fault 0 = .ok (.aload_n 0, 1) := by decide +kernel
theorem dX2_fault_1 : decode cX2_fault 1 = .ok (.getfield 49, 3) := by decide +kernel
theorem dX2_fault_4 : decode cX2_fault 4 = .ok (.ireturn, 1) := by decide +kernel
theorem dX2_many_0 : decode cX2_many 0 = .ok (.iload_n 1, 1) := by decide +kernel
theorem dX2_many_1 : decode cX2_many 1 = .ok (.tableswitch 42 0 2 #[27, 32, 37], 27) := by decide +kernel
theorem dX2_many_28 : decode cX2_many 28 = .ok (.aload_n 0, 1) := by decide +kernel
theorem dX2_many_29 : decode cX2_many 29 = .ok (.getfield 76, 3) := by decide +kernel
theorem dX2_many_32 : decode cX2_many 32 = .ok (.ireturn, 1) := by decide +kernel
theorem dX2_many_33 : decode cX2_many 33 = .ok (.aload_n 0, 1) := by decide +kernel
theorem dX2_many_34 : decode cX2_many 34 = .ok (.getfield 97, 3) := by decide +kernel
theorem dX2_many_37 : decode cX2_many 37 = .ok (.ireturn, 1) := by decide +kernel
theorem dX2_many_38 : decode cX2_many 38 = .ok (.aload_n 0, 1) := by decide +kernel
theorem dX2_many_39 : decode cX2_many 39 = .ok (.getfield 136, 3) := by decide +kernel
theorem dX2_many_42 : decode cX2_many 42 = .ok (.ireturn, 1) := by decide +kernel
theorem dX2_many_43 : decode cX2_many 43 = .ok (.bipush (-2), 2) := by decide +kernel
theorem dX2_many_45 : decode cX2_many 45 = .ok (.ireturn, 1) := by decide +kernel
theorem dX2_isRoom_0 : decode cX2_isRoom 0 = .ok (.iload_n 1, 1) := by decide +kernel
theorem dX2_isRoom_1 : decode cX2_isRoom 1 = .ok (.ifCond .lt 15, 3) := by decide +kernel
theorem dX2_isRoom_4 : decode cX2_isRoom 4 = .ok (.iload_n 1, 1) := by decide +kernel
theorem dX2_isRoom_5 : decode cX2_isRoom 5 = .ok (.aload_n 0, 1) := by decide +kernel
theorem dX2_isRoom_6 : decode cX2_isRoom 6 = .ok (.getfield 97, 3) := by decide +kernel
theorem dX2_isRoom_9 : decode cX2_isRoom 9 = .ok (.if_icmp .ge 7, 3) := by decide +kernel
theorem dX2_isRoom_12 : decode cX2_isRoom 12 = .ok (.iconst 1, 1) := by decide +kernel
theorem dX2_isRoom_13 : decode cX2_isRoom 13 = .ok (.goto 4, 3) := by decide +kernel
theorem dX2_isRoom_16 : decode cX2_isRoom 16 = .ok (.iconst 0, 1) := by decide +kernel
theorem dX2_isRoom_17 : decode cX2_isRoom 17 = .ok (.ireturn, 1) := by decide +kernel
theorem dX2_isDoor_0 : decode cX2_isDoor 0 = .ok (.iload_n 1, 1) := by decide +kernel
theorem dX2_isDoor_1 : decode cX2_isDoor 1 = .ok (.ifCond .lt 15, 3) := by decide +kernel
theorem dX2_isDoor_4 : decode cX2_isDoor 4 = .ok (.iload_n 1, 1) := by decide +kernel
theorem dX2_isDoor_5 : decode cX2_isDoor 5 = .ok (.aload_n 0, 1) := by decide +kernel
theorem dX2_isDoor_6 : decode cX2_isDoor 6 = .ok (.getfield 76, 3) := by decide +kernel
theorem dX2_isDoor_9 : decode cX2_isDoor 9 = .ok (.if_icmp .ge 7, 3) := by decide +kernel
theorem dX2_isDoor_12 : decode cX2_isDoor 12 = .ok (.iconst 1, 1) := by decide +kernel
theorem dX2_isDoor_13 : decode cX2_isDoor 13 = .ok (.goto 4, 3) := by decide +kernel
theorem dX2_isDoor_16 : decode cX2_isDoor 16 = .ok (.iconst 0, 1) := by decide +kernel
theorem dX2_isDoor_17 : decode cX2_isDoor 17 = .ok (.ireturn, 1) := by decide +kernel
theorem dX2_isHour_0 : decode cX2_isHour 0 = .ok (.iload_n 0, 1) := by decide +kernel
theorem dX2_isHour_1 : decode cX2_isHour 1 = .ok (.ifCond .lt 13, 3) := by decide +kernel
theorem dX2_isHour_4 : decode cX2_isHour 4 = .ok (.iload_n 0, 1) := by decide +kernel
theorem dX2_isHour_5 : decode cX2_isHour 5 = .ok (.bipush 12, 2) := by decide +kernel
theorem dX2_isHour_7 : decode cX2_isHour 7 = .ok (.if_icmp .ge 7, 3) := by decide +kernel
theorem dX2_isHour_10 : decode cX2_isHour 10 = .ok (.iconst 1, 1) := by decide +kernel
theorem dX2_isHour_11 : decode cX2_isHour 11 = .ok (.goto 4, 3) := by decide +kernel
theorem dX2_isHour_14 : decode cX2_isHour 14 = .ok (.iconst 0, 1) := by decide +kernel
theorem dX2_isHour_15 : decode cX2_isHour 15 = .ok (.ireturn, 1) := by decide +kernel
theorem dX2_isSheet_0 : decode cX2_isSheet 0 = .ok (.iload_n 0, 1) := by decide +kernel
theorem dX2_isSheet_1 : decode cX2_isSheet 1 = .ok (.ifCond .lt 12, 3) := by decide +kernel
theorem dX2_isSheet_4 : decode cX2_isSheet 4 = .ok (.iload_n 0, 1) := by decide +kernel
theorem dX2_isSheet_5 : decode cX2_isSheet 5 = .ok (.iconst 4, 1) := by decide +kernel
theorem dX2_isSheet_6 : decode cX2_isSheet 6 = .ok (.if_icmp .ge 7, 3) := by decide +kernel
theorem dX2_isSheet_9 : decode cX2_isSheet 9 = .ok (.iconst 1, 1) := by decide +kernel
theorem dX2_isSheet_10 : decode cX2_isSheet 10 = .ok (.goto 4, 3) := by decide +kernel
theorem dX2_isSheet_13 : decode cX2_isSheet 13 = .ok (.iconst 0, 1) := by decide +kernel
theorem dX2_isSheet_14 : decode cX2_isSheet 14 = .ok (.ireturn, 1) := by decide +kernel
theorem dX2_isLane_0 : decode cX2_isLane 0 = .ok (.iload_n 0, 1) := by decide +kernel
theorem dX2_isLane_1 : decode cX2_isLane 1 = .ok (.ifCond .lt 12, 3) := by decide +kernel
theorem dX2_isLane_4 : decode cX2_isLane 4 = .ok (.iload_n 0, 1) := by decide +kernel
theorem dX2_isLane_5 : decode cX2_isLane 5 = .ok (.iconst 3, 1) := by decide +kernel
theorem dX2_isLane_6 : decode cX2_isLane 6 = .ok (.if_icmp .ge 7, 3) := by decide +kernel
theorem dX2_isLane_9 : decode cX2_isLane 9 = .ok (.iconst 1, 1) := by decide +kernel
theorem dX2_isLane_10 : decode cX2_isLane 10 = .ok (.goto 4, 3) := by decide +kernel
theorem dX2_isLane_13 : decode cX2_isLane 13 = .ok (.iconst 0, 1) := by decide +kernel
theorem dX2_isLane_14 : decode cX2_isLane 14 = .ok (.ireturn, 1) := by decide +kernel
theorem dX2_allRooms_0 : decode cX2_allRooms 0 = .ok (.iconst 1, 1) := by decide +kernel
theorem dX2_allRooms_1 : decode cX2_allRooms 1 = .ok (.aload_n 0, 1) := by decide +kernel
theorem dX2_allRooms_2 : decode cX2_allRooms 2 = .ok (.getfield 97, 3) := by decide +kernel
theorem dX2_allRooms_5 : decode cX2_allRooms 5 = .ok (.ishl, 1) := by decide +kernel
theorem dX2_allRooms_6 : decode cX2_allRooms 6 = .ok (.iconst 1, 1) := by decide +kernel
theorem dX2_allRooms_7 : decode cX2_allRooms 7 = .ok (.isub, 1) := by decide +kernel
theorem dX2_allRooms_8 : decode cX2_allRooms 8 = .ok (.ireturn, 1) := by decide +kernel
theorem dX2_faulted_0 : decode cX2_faulted 0 = .ok (.aload_n 0, 1) := by decide +kernel
theorem dX2_faulted_1 : decode cX2_faulted 1 = .ok (.iload_n 1, 1) := by decide +kernel
theorem dX2_faulted_2 : decode cX2_faulted 2 = .ok (.putfield 49, 3) := by decide +kernel
theorem dX2_faulted_5 : decode cX2_faulted 5 = .ok (.bipush (-10), 2) := by decide +kernel
theorem dX2_faulted_7 : decode cX2_faulted 7 = .ok (.iload_n 1, 1) := by decide +kernel
theorem dX2_faulted_8 : decode cX2_faulted 8 = .ok (.isub, 1) := by decide +kernel
theorem dX2_faulted_9 : decode cX2_faulted 9 = .ok (.ireturn, 1) := by decide +kernel
theorem dX2_firstFault_0 : decode cX2_firstFault 0 = .ok (.iconst 0, 1) := by decide +kernel
theorem dX2_firstFault_1 : decode cX2_firstFault 1 = .ok (.istore_n 3, 1) := by decide +kernel
theorem dX2_firstFault_2 : decode cX2_firstFault 2 = .ok (.iconst 0, 1) := by decide +kernel
theorem dX2_firstFault_3 : decode cX2_firstFault 3 = .ok (.istore 4, 2) := by decide +kernel
theorem dX2_firstFault_5 : decode cX2_firstFault 5 = .ok (.iload 4, 2) := by decide +kernel
theorem dX2_firstFault_7 : decode cX2_firstFault 7 = .ok (.iload_n 2, 1) := by decide +kernel
theorem dX2_firstFault_8 : decode cX2_firstFault 8 = .ok (.if_icmp .ge 46, 3) := by decide +kernel
theorem dX2_firstFault_11 : decode cX2_firstFault 11 = .ok (.aload_n 0, 1) := by decide +kernel
theorem dX2_firstFault_12 : decode cX2_firstFault 12 = .ok (.getfield 165, 3) := by decide +kernel
theorem dX2_firstFault_15 : decode cX2_firstFault 15 = .ok (.iload_n 1, 1) := by decide +kernel
theorem dX2_firstFault_16 : decode cX2_firstFault 16 = .ok (.iload 4, 2) := by decide +kernel
theorem dX2_firstFault_18 : decode cX2_firstFault 18 = .ok (.iadd, 1) := by decide +kernel
theorem dX2_firstFault_19 : decode cX2_firstFault 19 = .ok (.iaload, 1) := by decide +kernel
theorem dX2_firstFault_20 : decode cX2_firstFault 20 = .ok (.istore 5, 2) := by decide +kernel
theorem dX2_firstFault_22 : decode cX2_firstFault 22 = .ok (.iload 4, 2) := by decide +kernel
theorem dX2_firstFault_24 : decode cX2_firstFault 24 = .ok (.iload 5, 2) := by decide +kernel
theorem dX2_firstFault_26 : decode cX2_firstFault 26 = .ok (.iload_n 3, 1) := by decide +kernel
theorem dX2_firstFault_27 : decode cX2_firstFault 27 = .ok (.invokestatic 198, 3) := by decide +kernel
theorem dX2_firstFault_30 : decode cX2_firstFault 30 = .ok (.ifCond .ne 6, 3) := by decide +kernel
theorem dX2_firstFault_33 : decode cX2_firstFault 33 = .ok (.iload 4, 2) := by decide +kernel
theorem dX2_firstFault_35 : decode cX2_firstFault 35 = .ok (.ireturn, 1) := by decide +kernel
theorem dX2_firstFault_36 : decode cX2_firstFault 36 = .ok (.iload 4, 2) := by decide +kernel
theorem dX2_firstFault_38 : decode cX2_firstFault 38 = .ok (.iconst 1, 1) := by decide +kernel
theorem dX2_firstFault_39 : decode cX2_firstFault 39 = .ok (.if_icmp .ne 9, 3) := by decide +kernel
theorem dX2_firstFault_42 : decode cX2_firstFault 42 = .ok (.iload 5, 2) := by decide +kernel
theorem dX2_firstFault_44 : decode cX2_firstFault 44 = .ok (.bipush 48, 2) := by decide +kernel
theorem dX2_firstFault_46 : decode cX2_firstFault 46 = .ok (.isub, 1) := by decide +kernel
theorem dX2_firstFault_47 : decode cX2_firstFault 47 = .ok (.istore_n 3, 1) := by decide +kernel
theorem dX2_firstFault_48 : decode cX2_firstFault 48 = .ok (.iinc 4 1, 3) := by decide +kernel
theorem dX2_firstFault_51 : decode cX2_firstFault 51 = .ok (.goto (-46), 3) := by decide +kernel
theorem dX2_firstFault_54 : decode cX2_firstFault 54 = .ok (.iload_n 2, 1) := by decide +kernel
theorem dX2_firstFault_55 : decode cX2_firstFault 55 = .ok (.iconst 2, 1) := by decide +kernel
theorem dX2_firstFault_56 : decode cX2_firstFault 56 = .ok (.if_icmp .le 15, 3) := by decide +kernel
theorem dX2_firstFault_59 : decode cX2_firstFault 59 = .ok (.iload_n 2, 1) := by decide +kernel
theorem dX2_firstFault_60 : decode cX2_firstFault 60 = .ok (.iconst 2, 1) := by decide +kernel
theorem dX2_firstFault_61 : decode cX2_firstFault 61 = .ok (.isub, 1) := by decide +kernel
theorem dX2_firstFault_62 : decode cX2_firstFault 62 = .ok (.iconst 5, 1) := by decide +kernel
theorem dX2_firstFault_63 : decode cX2_firstFault 63 = .ok (.irem, 1) := by decide +kernel
theorem dX2_firstFault_64 : decode cX2_firstFault 64 = .ok (.ifCond .ne 7, 3) := by decide +kernel
theorem dX2_firstFault_67 : decode cX2_firstFault 67 = .ok (.iconst 1, 1) := by decide +kernel
theorem dX2_firstFault_68 : decode cX2_firstFault 68 = .ok (.goto 4, 3) := by decide +kernel
theorem dX2_firstFault_71 : decode cX2_firstFault 71 = .ok (.iconst 0, 1) := by decide +kernel
theorem dX2_firstFault_72 : decode cX2_firstFault 72 = .ok (.istore 4, 2) := by decide +kernel
theorem dX2_firstFault_74 : decode cX2_firstFault 74 = .ok (.iload 4, 2) := by decide +kernel
theorem dX2_firstFault_76 : decode cX2_firstFault 76 = .ok (.ifCond .eq 8, 3) := by decide +kernel
theorem dX2_firstFault_79 : decode cX2_firstFault 79 = .ok (.bipush (-9), 2) := by decide +kernel
theorem dX2_firstFault_81 : decode cX2_firstFault 81 = .ok (.goto 4, 3) := by decide +kernel
theorem dX2_firstFault_84 : decode cX2_firstFault 84 = .ok (.iload_n 2, 1) := by decide +kernel
theorem dX2_firstFault_85 : decode cX2_firstFault 85 = .ok (.ireturn, 1) := by decide +kernel
theorem dX2_goesOn_0 : decode cX2_goesOn 0 = .ok (.iload_n 0, 1) := by decide +kernel
theorem dX2_goesOn_1 : decode cX2_goesOn 1 = .ok (.ifCond .ne 15, 3) := by decide +kernel
theorem dX2_goesOn_4 : decode cX2_goesOn 4 = .ok (.iload_n 1, 1) := by decide +kernel
theorem dX2_goesOn_5 : decode cX2_goesOn 5 = .ok (.bipush 100, 2) := by decide +kernel
theorem dX2_goesOn_7 : decode cX2_goesOn 7 = .ok (.if_icmp .ne 7, 3) := by decide +kernel
theorem dX2_goesOn_10 : decode cX2_goesOn 10 = .ok (.iconst 1, 1) := by decide +kernel
theorem dX2_goesOn_11 : decode cX2_goesOn 11 = .ok (.goto 4, 3) := by decide +kernel
theorem dX2_goesOn_14 : decode cX2_goesOn 14 = .ok (.iconst 0, 1) := by decide +kernel
theorem dX2_goesOn_15 : decode cX2_goesOn 15 = .ok (.ireturn, 1) := by decide +kernel
theorem dX2_goesOn_16 : decode cX2_goesOn 16 = .ok (.iload_n 0, 1) := by decide +kernel
theorem dX2_goesOn_17 : decode cX2_goesOn 17 = .ok (.iconst 1, 1) := by decide +kernel
theorem dX2_goesOn_18 : decode cX2_goesOn 18 = .ok (.if_icmp .ne 21, 3) := by decide +kernel
theorem dX2_goesOn_21 : decode cX2_goesOn 21 = .ok (.iload_n 1, 1) := by decide +kernel
theorem dX2_goesOn_22 : decode cX2_goesOn 22 = .ok (.bipush 50, 2) := by decide +kernel
theorem dX2_goesOn_24 : decode cX2_goesOn 24 = .ok (.if_icmp .lt 13, 3) := by decide +kernel
theorem dX2_goesOn_27 : decode cX2_goesOn 27 = .ok (.iload_n 1, 1) := by decide +kernel
theorem dX2_goesOn_28 : decode cX2_goesOn 28 = .ok (.bipush 54, 2) := by decide +kernel
theorem dX2_goesOn_30 : decode cX2_goesOn 30 = .ok (.if_icmp .gt 7, 3) := by decide +kernel
theorem dX2_goesOn_33 : decode cX2_goesOn 33 = .ok (.iconst 1, 1) := by decide +kernel
theorem dX2_goesOn_34 : decode cX2_goesOn 34 = .ok (.goto 4, 3) := by decide +kernel
theorem dX2_goesOn_37 : decode cX2_goesOn 37 = .ok (.iconst 0, 1) := by decide +kernel
theorem dX2_goesOn_38 : decode cX2_goesOn 38 = .ok (.ireturn, 1) := by decide +kernel
theorem dX2_goesOn_39 : decode cX2_goesOn 39 = .ok (.iload_n 0, 1) := by decide +kernel
theorem dX2_goesOn_40 : decode cX2_goesOn 40 = .ok (.bipush 42, 2) := by decide +kernel
theorem dX2_goesOn_42 : decode cX2_goesOn 42 = .ok (.if_icmp .lt 5, 3) := by decide +kernel
theorem dX2_goesOn_45 : decode cX2_goesOn 45 = .ok (.iconst 0, 1) := by decide +kernel
theorem dX2_goesOn_46 : decode cX2_goesOn 46 = .ok (.ireturn, 1) := by decide +kernel
theorem dX2_goesOn_47 : decode cX2_goesOn 47 = .ok (.iload_n 0, 1) := by decide +kernel
theorem dX2_goesOn_48 : decode cX2_goesOn 48 = .ok (.iconst 2, 1) := by decide +kernel
theorem dX2_goesOn_49 : decode cX2_goesOn 49 = .ok (.isub, 1) := by decide +kernel
theorem dX2_goesOn_50 : decode cX2_goesOn 50 = .ok (.iconst 5, 1) := by decide +kernel
theorem dX2_goesOn_51 : decode cX2_goesOn 51 = .ok (.irem, 1) := by decide +kernel
theorem dX2_goesOn_52 : decode cX2_goesOn 52 = .ok (.tableswitch 90 0 4 #[36, 48, 90, 90, 72], 36) := by decide +kernel
theorem dX2_goesOn_88 : decode cX2_goesOn 88 = .ok (.iload_n 1, 1) := by decide +kernel
theorem dX2_goesOn_89 : decode cX2_goesOn 89 = .ok (.bipush 59, 2) := by decide +kernel
theorem dX2_goesOn_91 : decode cX2_goesOn 91 = .ok (.if_icmp .ne 7, 3) := by decide +kernel
theorem dX2_goesOn_94 : decode cX2_goesOn 94 = .ok (.iconst 1, 1) := by decide +kernel
theorem dX2_goesOn_95 : decode cX2_goesOn 95 = .ok (.goto 4, 3) := by decide +kernel
theorem dX2_goesOn_98 : decode cX2_goesOn 98 = .ok (.iconst 0, 1) := by decide +kernel
theorem dX2_goesOn_99 : decode cX2_goesOn 99 = .ok (.ireturn, 1) := by decide +kernel
theorem dX2_goesOn_100 : decode cX2_goesOn 100 = .ok (.iload_n 1, 1) := by decide +kernel
theorem dX2_goesOn_101 : decode cX2_goesOn 101 = .ok (.bipush 112, 2) := by decide +kernel
theorem dX2_goesOn_103 : decode cX2_goesOn 103 = .ok (.if_icmp .eq 15, 3) := by decide +kernel
theorem dX2_goesOn_106 : decode cX2_goesOn 106 = .ok (.iload_n 1, 1) := by decide +kernel
theorem dX2_goesOn_107 : decode cX2_goesOn 107 = .ok (.bipush 108, 2) := by decide +kernel
theorem dX2_goesOn_109 : decode cX2_goesOn 109 = .ok (.if_icmp .eq 9, 3) := by decide +kernel
theorem dX2_goesOn_112 : decode cX2_goesOn 112 = .ok (.iload_n 1, 1) := by decide +kernel
theorem dX2_goesOn_113 : decode cX2_goesOn 113 = .ok (.bipush 99, 2) := by decide +kernel
theorem dX2_goesOn_115 : decode cX2_goesOn 115 = .ok (.if_icmp .ne 7, 3) := by decide +kernel
theorem dX2_goesOn_118 : decode cX2_goesOn 118 = .ok (.iconst 1, 1) := by decide +kernel
theorem dX2_goesOn_119 : decode cX2_goesOn 119 = .ok (.goto 4, 3) := by decide +kernel
theorem dX2_goesOn_122 : decode cX2_goesOn 122 = .ok (.iconst 0, 1) := by decide +kernel
theorem dX2_goesOn_123 : decode cX2_goesOn 123 = .ok (.ireturn, 1) := by decide +kernel
theorem dX2_goesOn_124 : decode cX2_goesOn 124 = .ok (.iload_n 1, 1) := by decide +kernel
theorem dX2_goesOn_125 : decode cX2_goesOn 125 = .ok (.bipush 48, 2) := by decide +kernel
theorem dX2_goesOn_127 : decode cX2_goesOn 127 = .ok (.if_icmp .lt 13, 3) := by decide +kernel
theorem dX2_goesOn_130 : decode cX2_goesOn 130 = .ok (.iload_n 1, 1) := by decide +kernel
theorem dX2_goesOn_131 : decode cX2_goesOn 131 = .ok (.bipush 53, 2) := by decide +kernel
theorem dX2_goesOn_133 : decode cX2_goesOn 133 = .ok (.if_icmp .gt 7, 3) := by decide +kernel
theorem dX2_goesOn_136 : decode cX2_goesOn 136 = .ok (.iconst 1, 1) := by decide +kernel
theorem dX2_goesOn_137 : decode cX2_goesOn 137 = .ok (.goto 4, 3) := by decide +kernel
theorem dX2_goesOn_140 : decode cX2_goesOn 140 = .ok (.iconst 0, 1) := by decide +kernel
theorem dX2_goesOn_141 : decode cX2_goesOn 141 = .ok (.ireturn, 1) := by decide +kernel
theorem dX2_goesOn_142 : decode cX2_goesOn 142 = .ok (.iload_n 1, 1) := by decide +kernel
theorem dX2_goesOn_143 : decode cX2_goesOn 143 = .ok (.bipush 48, 2) := by decide +kernel
theorem dX2_goesOn_145 : decode cX2_goesOn 145 = .ok (.if_icmp .lt 15, 3) := by decide +kernel
theorem dX2_goesOn_148 : decode cX2_goesOn 148 = .ok (.iload_n 1, 1) := by decide +kernel
theorem dX2_goesOn_149 : decode cX2_goesOn 149 = .ok (.bipush 48, 2) := by decide +kernel
theorem dX2_goesOn_151 : decode cX2_goesOn 151 = .ok (.iload_n 2, 1) := by decide +kernel
theorem dX2_goesOn_152 : decode cX2_goesOn 152 = .ok (.iadd, 1) := by decide +kernel
theorem dX2_goesOn_153 : decode cX2_goesOn 153 = .ok (.if_icmp .ge 7, 3) := by decide +kernel
theorem dX2_goesOn_156 : decode cX2_goesOn 156 = .ok (.iconst 1, 1) := by decide +kernel
theorem dX2_goesOn_157 : decode cX2_goesOn 157 = .ok (.goto 4, 3) := by decide +kernel
theorem dX2_goesOn_160 : decode cX2_goesOn 160 = .ok (.iconst 0, 1) := by decide +kernel
theorem dX2_goesOn_161 : decode cX2_goesOn 161 = .ok (.ireturn, 1) := by decide +kernel
theorem dX2_build_0 : decode cX2_build 0 = .ok (.aload_n 0, 1) := by decide +kernel
theorem dX2_build_1 : decode cX2_build 1 = .ok (.aload_n 1, 1) := by decide +kernel
theorem dX2_build_2 : decode cX2_build 2 = .ok (.getfield 165, 3) := by decide +kernel
theorem dX2_build_5 : decode cX2_build 5 = .ok (.iload_n 2, 1) := by decide +kernel
theorem dX2_build_6 : decode cX2_build 6 = .ok (.iconst 1, 1) := by decide +kernel
theorem dX2_build_7 : decode cX2_build 7 = .ok (.iadd, 1) := by decide +kernel
theorem dX2_build_8 : decode cX2_build 8 = .ok (.iaload, 1) := by decide +kernel
theorem dX2_build_9 : decode cX2_build 9 = .ok (.bipush 48, 2) := by decide +kernel
theorem dX2_build_11 : decode cX2_build 11 = .ok (.isub, 1) := by decide +kernel
theorem dX2_build_12 : decode cX2_build 12 = .ok (.putfield 97, 3) := by decide +kernel
theorem dX2_build_15 : decode cX2_build 15 = .ok (.aload_n 0, 1) := by decide +kernel
theorem dX2_build_16 : decode cX2_build 16 = .ok (.iload_n 3, 1) := by decide +kernel
theorem dX2_build_17 : decode cX2_build 17 = .ok (.iconst 2, 1) := by decide +kernel
theorem dX2_build_18 : decode cX2_build 18 = .ok (.isub, 1) := by decide +kernel
theorem dX2_build_19 : decode cX2_build 19 = .ok (.iconst 5, 1) := by decide +kernel
theorem dX2_build_20 : decode cX2_build 20 = .ok (.idiv, 1) := by decide +kernel
theorem dX2_build_21 : decode cX2_build 21 = .ok (.putfield 76, 3) := by decide +kernel
theorem dX2_build_24 : decode cX2_build 24 = .ok (.aload_n 0, 1) := by decide +kernel
theorem dX2_build_25 : decode cX2_build 25 = .ok (.iconst 0, 1) := by decide +kernel
theorem dX2_build_26 : decode cX2_build 26 = .ok (.putfield 136, 3) := by decide +kernel
theorem dX2_build_29 : decode cX2_build 29 = .ok (.iconst 0, 1) := by decide +kernel
theorem dX2_build_30 : decode cX2_build 30 = .ok (.istore 4, 2) := by decide +kernel
theorem dX2_build_32 : decode cX2_build 32 = .ok (.iload 4, 2) := by decide +kernel
theorem dX2_build_34 : decode cX2_build 34 = .ok (.aload_n 0, 1) := by decide +kernel
theorem dX2_build_35 : decode cX2_build 35 = .ok (.getfield 76, 3) := by decide +kernel
theorem dX2_build_38 : decode cX2_build 38 = .ok (.if_icmp .ge 107, 3) := by decide +kernel
theorem dX2_build_41 : decode cX2_build 41 = .ok (.iload_n 2, 1) := by decide +kernel
theorem dX2_build_42 : decode cX2_build 42 = .ok (.iconst 2, 1) := by decide +kernel
theorem dX2_build_43 : decode cX2_build 43 = .ok (.iadd, 1) := by decide +kernel
theorem dX2_build_44 : decode cX2_build 44 = .ok (.iload 4, 2) := by decide +kernel
theorem dX2_build_46 : decode cX2_build 46 = .ok (.iconst 5, 1) := by decide +kernel
theorem dX2_build_47 : decode cX2_build 47 = .ok (.imul, 1) := by decide +kernel
theorem dX2_build_48 : decode cX2_build 48 = .ok (.iadd, 1) := by decide +kernel
theorem dX2_build_49 : decode cX2_build 49 = .ok (.istore 5, 2) := by decide +kernel
theorem dX2_build_51 : decode cX2_build 51 = .ok (.aload_n 0, 1) := by decide +kernel
theorem dX2_build_52 : decode cX2_build 52 = .ok (.getfield 13, 3) := by decide +kernel
theorem dX2_build_55 : decode cX2_build 55 = .ok (.iload 4, 2) := by decide +kernel
theorem dX2_build_57 : decode cX2_build 57 = .ok (.aaload, 1) := by decide +kernel
theorem dX2_build_58 : decode cX2_build 58 = .ok (.aload_n 1, 1) := by decide +kernel
theorem dX2_build_59 : decode cX2_build 59 = .ok (.getfield 165, 3) := by decide +kernel
theorem dX2_build_62 : decode cX2_build 62 = .ok (.iload 5, 2) := by decide +kernel
theorem dX2_build_64 : decode cX2_build 64 = .ok (.iconst 1, 1) := by decide +kernel
theorem dX2_build_65 : decode cX2_build 65 = .ok (.iadd, 1) := by decide +kernel
theorem dX2_build_66 : decode cX2_build 66 = .ok (.iaload, 1) := by decide +kernel
theorem dX2_build_67 : decode cX2_build 67 = .ok (.invokestatic 202, 3) := by decide +kernel
theorem dX2_build_70 : decode cX2_build 70 = .ok (.putfield 82, 3) := by decide +kernel
theorem dX2_build_73 : decode cX2_build 73 = .ok (.aload_n 0, 1) := by decide +kernel
theorem dX2_build_74 : decode cX2_build 74 = .ok (.getfield 13, 3) := by decide +kernel
theorem dX2_build_77 : decode cX2_build 77 = .ok (.iload 4, 2) := by decide +kernel
theorem dX2_build_79 : decode cX2_build 79 = .ok (.aaload, 1) := by decide +kernel
theorem dX2_build_80 : decode cX2_build 80 = .ok (.aload_n 1, 1) := by decide +kernel
theorem dX2_build_81 : decode cX2_build 81 = .ok (.getfield 165, 3) := by decide +kernel
theorem dX2_build_84 : decode cX2_build 84 = .ok (.iload 5, 2) := by decide +kernel
theorem dX2_build_86 : decode cX2_build 86 = .ok (.iconst 2, 1) := by decide +kernel
theorem dX2_build_87 : decode cX2_build 87 = .ok (.iadd, 1) := by decide +kernel
theorem dX2_build_88 : decode cX2_build 88 = .ok (.iaload, 1) := by decide +kernel
theorem dX2_build_89 : decode cX2_build 89 = .ok (.bipush 48, 2) := by decide +kernel
theorem dX2_build_91 : decode cX2_build 91 = .ok (.isub, 1) := by decide +kernel
theorem dX2_build_92 : decode cX2_build 92 = .ok (.putfield 85, 3) := by decide +kernel
theorem dX2_build_95 : decode cX2_build 95 = .ok (.aload_n 0, 1) := by decide +kernel
theorem dX2_build_96 : decode cX2_build 96 = .ok (.getfield 13, 3) := by decide +kernel
theorem dX2_build_99 : decode cX2_build 99 = .ok (.iload 4, 2) := by decide +kernel
theorem dX2_build_101 : decode cX2_build 101 = .ok (.aaload, 1) := by decide +kernel
theorem dX2_build_102 : decode cX2_build 102 = .ok (.aload_n 1, 1) := by decide +kernel
theorem dX2_build_103 : decode cX2_build 103 = .ok (.getfield 165, 3) := by decide +kernel
theorem dX2_build_106 : decode cX2_build 106 = .ok (.iload 5, 2) := by decide +kernel
theorem dX2_build_108 : decode cX2_build 108 = .ok (.iconst 3, 1) := by decide +kernel
theorem dX2_build_109 : decode cX2_build 109 = .ok (.iadd, 1) := by decide +kernel
theorem dX2_build_110 : decode cX2_build 110 = .ok (.iaload, 1) := by decide +kernel
theorem dX2_build_111 : decode cX2_build 111 = .ok (.bipush 48, 2) := by decide +kernel
theorem dX2_build_113 : decode cX2_build 113 = .ok (.isub, 1) := by decide +kernel
theorem dX2_build_114 : decode cX2_build 114 = .ok (.putfield 88, 3) := by decide +kernel
theorem dX2_build_117 : decode cX2_build 117 = .ok (.aload_n 0, 1) := by decide +kernel
theorem dX2_build_118 : decode cX2_build 118 = .ok (.getfield 13, 3) := by decide +kernel
theorem dX2_build_121 : decode cX2_build 121 = .ok (.iload 4, 2) := by decide +kernel
theorem dX2_build_123 : decode cX2_build 123 = .ok (.aaload, 1) := by decide +kernel
theorem dX2_build_124 : decode cX2_build 124 = .ok (.aload_n 1, 1) := by decide +kernel
theorem dX2_build_125 : decode cX2_build 125 = .ok (.getfield 165, 3) := by decide +kernel
theorem dX2_build_128 : decode cX2_build 128 = .ok (.iload 5, 2) := by decide +kernel
theorem dX2_build_130 : decode cX2_build 130 = .ok (.iconst 4, 1) := by decide +kernel
theorem dX2_build_131 : decode cX2_build 131 = .ok (.iadd, 1) := by decide +kernel
theorem dX2_build_132 : decode cX2_build 132 = .ok (.iaload, 1) := by decide +kernel
theorem dX2_build_133 : decode cX2_build 133 = .ok (.bipush 48, 2) := by decide +kernel
theorem dX2_build_135 : decode cX2_build 135 = .ok (.isub, 1) := by decide +kernel
theorem dX2_build_136 : decode cX2_build 136 = .ok (.putfield 91, 3) := by decide +kernel
theorem dX2_build_139 : decode cX2_build 139 = .ok (.iinc 4 1, 3) := by decide +kernel
theorem dX2_build_142 : decode cX2_build 142 = .ok (.goto (-110), 3) := by decide +kernel
theorem dX2_build_145 : decode cX2_build 145 = .ok (.return_, 1) := by decide +kernel
theorem dX2_kindOfLetter_0 : decode cX2_kindOfLetter 0 = .ok (.iload_n 0, 1) := by decide +kernel
theorem dX2_kindOfLetter_1 : decode cX2_kindOfLetter 1 = .ok (.bipush 99, 2) := by decide +kernel
theorem dX2_kindOfLetter_3 : decode cX2_kindOfLetter 3 = .ok (.if_icmp .ne 5, 3) := by decide +kernel
theorem dX2_kindOfLetter_6 : decode cX2_kindOfLetter 6 = .ok (.iconst 2, 1) := by decide +kernel
theorem dX2_kindOfLetter_7 : decode cX2_kindOfLetter 7 = .ok (.ireturn, 1) := by decide +kernel
theorem dX2_kindOfLetter_8 : decode cX2_kindOfLetter 8 = .ok (.iload_n 0, 1) := by decide +kernel
theorem dX2_kindOfLetter_9 : decode cX2_kindOfLetter 9 = .ok (.bipush 108, 2) := by decide +kernel
theorem dX2_kindOfLetter_11 : decode cX2_kindOfLetter 11 = .ok (.if_icmp .ne 7, 3) := by decide +kernel
theorem dX2_kindOfLetter_14 : decode cX2_kindOfLetter 14 = .ok (.iconst 1, 1) := by decide +kernel
theorem dX2_kindOfLetter_15 : decode cX2_kindOfLetter 15 = .ok (.goto 4, 3) := by decide +kernel
theorem dX2_kindOfLetter_18 : decode cX2_kindOfLetter 18 = .ok (.iconst 0, 1) := by decide +kernel
theorem dX2_kindOfLetter_19 : decode cX2_kindOfLetter 19 = .ok (.ireturn, 1) := by decide +kernel
theorem dX2_areActs_0 : decode cX2_areActs 0 = .ok (.iconst 0, 1) := by decide +kernel
theorem dX2_areActs_1 : decode cX2_areActs 1 = .ok (.istore 4, 2) := by decide +kernel
theorem dX2_areActs_3 : decode cX2_areActs 3 = .ok (.iload 4, 2) := by decide +kernel
theorem dX2_areActs_5 : decode cX2_areActs 5 = .ok (.iload_n 3, 1) := by decide +kernel
theorem dX2_areActs_6 : decode cX2_areActs 6 = .ok (.if_icmp .ge 36, 3) := by decide +kernel
theorem dX2_areActs_9 : decode cX2_areActs 9 = .ok (.aload_n 1, 1) := by decide +kernel
theorem dX2_areActs_10 : decode cX2_areActs 10 = .ok (.getfield 165, 3) := by decide +kernel
theorem dX2_areActs_13 : decode cX2_areActs 13 = .ok (.iload_n 2, 1) := by decide +kernel
theorem dX2_areActs_14 : decode cX2_areActs 14 = .ok (.iload 4, 2) := by decide +kernel
theorem dX2_areActs_16 : decode cX2_areActs 16 = .ok (.iadd, 1) := by decide +kernel
theorem dX2_areActs_17 : decode cX2_areActs 17 = .ok (.iaload, 1) := by decide +kernel
theorem dX2_areActs_18 : decode cX2_areActs 18 = .ok (.istore 5, 2) := by decide +kernel
theorem dX2_areActs_20 : decode cX2_areActs 20 = .ok (.iload 5, 2) := by decide +kernel
theorem dX2_areActs_22 : decode cX2_areActs 22 = .ok (.ifCond .lt 12, 3) := by decide +kernel
theorem dX2_areActs_25 : decode cX2_areActs 25 = .ok (.iload 5, 2) := by decide +kernel
theorem dX2_areActs_27 : decode cX2_areActs 27 = .ok (.aload_n 0, 1) := by decide +kernel
theorem dX2_areActs_28 : decode cX2_areActs 28 = .ok (.getfield 76, 3) := by decide +kernel
theorem dX2_areActs_31 : decode cX2_areActs 31 = .ok (.if_icmp .le 5, 3) := by decide +kernel
theorem dX2_areActs_34 : decode cX2_areActs 34 = .ok (.iconst 0, 1) := by decide +kernel
theorem dX2_areActs_35 : decode cX2_areActs 35 = .ok (.ireturn, 1) := by decide +kernel
theorem dX2_areActs_36 : decode cX2_areActs 36 = .ok (.iinc 4 1, 3) := by decide +kernel
theorem dX2_areActs_39 : decode cX2_areActs 39 = .ok (.goto (-36), 3) := by decide +kernel
theorem dX2_areActs_42 : decode cX2_areActs 42 = .ok (.iconst 1, 1) := by decide +kernel
theorem dX2_areActs_43 : decode cX2_areActs 43 = .ok (.ireturn, 1) := by decide +kernel
theorem dX2_roomAfter_0 : decode cX2_roomAfter 0 = .ok (.iload_n 1, 1) := by decide +kernel
theorem dX2_roomAfter_1 : decode cX2_roomAfter 1 = .ok (.aload_n 0, 1) := by decide +kernel
theorem dX2_roomAfter_2 : decode cX2_roomAfter 2 = .ok (.getfield 76, 3) := by decide +kernel
theorem dX2_roomAfter_5 : decode cX2_roomAfter 5 = .ok (.if_icmp .ne 5, 3) := by decide +kernel
theorem dX2_roomAfter_8 : decode cX2_roomAfter 8 = .ok (.iload_n 2, 1) := by decide +kernel
theorem dX2_roomAfter_9 : decode cX2_roomAfter 9 = .ok (.ireturn, 1) := by decide +kernel
theorem dX2_roomAfter_10 : decode cX2_roomAfter 10 = .ok (.aload_n 0, 1) := by decide +kernel
theorem dX2_roomAfter_11 : decode cX2_roomAfter 11 = .ok (.iload_n 1, 1) := by decide +kernel
theorem dX2_roomAfter_12 : decode cX2_roomAfter 12 = .ok (.invokevirtual 79, 3) := by decide +kernel
theorem dX2_roomAfter_15 : decode cX2_roomAfter 15 = .ok (.ifCond .eq 16, 3) := by decide +kernel
theorem dX2_roomAfter_18 : decode cX2_roomAfter 18 = .ok (.aload_n 0, 1) := by decide +kernel
theorem dX2_roomAfter_19 : decode cX2_roomAfter 19 = .ok (.getfield 13, 3) := by decide +kernel
theorem dX2_roomAfter_22 : decode cX2_roomAfter 22 = .ok (.iload_n 1, 1) := by decide +kernel
theorem dX2_roomAfter_23 : decode cX2_roomAfter 23 = .ok (.aaload, 1) := by decide +kernel
theorem dX2_roomAfter_24 : decode cX2_roomAfter 24 = .ok (.getfield 85, 3) := by decide +kernel
theorem dX2_roomAfter_27 : decode cX2_roomAfter 27 = .ok (.iload_n 2, 1) := by decide +kernel
theorem dX2_roomAfter_28 : decode cX2_roomAfter 28 = .ok (.if_icmp .eq 6, 3) := by decide +kernel
theorem dX2_roomAfter_31 : decode cX2_roomAfter 31 = .ok (.bipush (-9), 2) := by decide +kernel
theorem dX2_roomAfter_33 : decode cX2_roomAfter 33 = .ok (.ireturn, 1) := by decide +kernel
theorem dX2_roomAfter_34 : decode cX2_roomAfter 34 = .ok (.aload_n 0, 1) := by decide +kernel
theorem dX2_roomAfter_35 : decode cX2_roomAfter 35 = .ok (.getfield 13, 3) := by decide +kernel
theorem dX2_roomAfter_38 : decode cX2_roomAfter 38 = .ok (.iload_n 1, 1) := by decide +kernel
theorem dX2_roomAfter_39 : decode cX2_roomAfter 39 = .ok (.aaload, 1) := by decide +kernel
theorem dX2_roomAfter_40 : decode cX2_roomAfter 40 = .ok (.iload_n 3, 1) := by decide +kernel
theorem dX2_roomAfter_41 : decode cX2_roomAfter 41 = .ok (.aload_n 0, 1) := by decide +kernel
theorem dX2_roomAfter_42 : decode cX2_roomAfter 42 = .ok (.getfield 97, 3) := by decide +kernel
theorem dX2_roomAfter_45 : decode cX2_roomAfter 45 = .ok (.invokevirtual 100, 3) := by decide +kernel
theorem dX2_roomAfter_48 : decode cX2_roomAfter 48 = .ok (.ireturn, 1) := by decide +kernel
theorem dX2_walked_0 : decode cX2_walked 0 = .ok (.iload_n 1, 1) := by decide +kernel
theorem dX2_walked_1 : decode cX2_walked 1 = .ok (.istore 7, 2) := by decide +kernel
theorem dX2_walked_3 : decode cX2_walked 3 = .ok (.iconst 1, 1) := by decide +kernel
theorem dX2_walked_4 : decode cX2_walked 4 = .ok (.iload_n 1, 1) := by decide +kernel
theorem dX2_walked_5 : decode cX2_walked 5 = .ok (.ishl, 1) := by decide +kernel
theorem dX2_walked_6 : decode cX2_walked 6 = .ok (.istore 8, 2) := by decide +kernel
theorem dX2_walked_8 : decode cX2_walked 8 = .ok (.iconst 0, 1) := by decide +kernel
theorem dX2_walked_9 : decode cX2_walked 9 = .ok (.istore 9, 2) := by decide +kernel
theorem dX2_walked_11 : decode cX2_walked 11 = .ok (.iconst 0, 1) := by decide +kernel
theorem dX2_walked_12 : decode cX2_walked 12 = .ok (.istore 10, 2) := by decide +kernel
theorem dX2_walked_14 : decode cX2_walked 14 = .ok (.iload 10, 2) := by decide +kernel
theorem dX2_walked_16 : decode cX2_walked 16 = .ok (.iload 5, 2) := by decide +kernel
theorem dX2_walked_18 : decode cX2_walked 18 = .ok (.if_icmp .ge 87, 3) := by decide +kernel
theorem dX2_walked_21 : decode cX2_walked 21 = .ok (.aload_n 3, 1) := by decide +kernel
theorem dX2_walked_22 : decode cX2_walked 22 = .ok (.getfield 165, 3) := by decide +kernel
theorem dX2_walked_25 : decode cX2_walked 25 = .ok (.iload 4, 2) := by decide +kernel
theorem dX2_walked_27 : decode cX2_walked 27 = .ok (.iload 10, 2) := by decide +kernel
theorem dX2_walked_29 : decode cX2_walked 29 = .ok (.iadd, 1) := by decide +kernel
theorem dX2_walked_30 : decode cX2_walked 30 = .ok (.iaload, 1) := by decide +kernel
theorem dX2_walked_31 : decode cX2_walked 31 = .ok (.istore 11, 2) := by decide +kernel
theorem dX2_walked_33 : decode cX2_walked 33 = .ok (.aload_n 0, 1) := by decide +kernel
theorem dX2_walked_34 : decode cX2_walked 34 = .ok (.iload 11, 2) := by decide +kernel
theorem dX2_walked_36 : decode cX2_walked 36 = .ok (.iload 7, 2) := by decide +kernel
theorem dX2_walked_38 : decode cX2_walked 38 = .ok (.iload_n 2, 1) := by decide +kernel
theorem dX2_walked_39 : decode cX2_walked 39 = .ok (.iload 10, 2) := by decide +kernel
theorem dX2_walked_41 : decode cX2_walked 41 = .ok (.iadd, 1) := by decide +kernel
theorem dX2_walked_42 : decode cX2_walked 42 = .ok (.bipush 12, 2) := by decide +kernel
theorem dX2_walked_44 : decode cX2_walked 44 = .ok (.irem, 1) := by decide +kernel
theorem dX2_walked_45 : decode cX2_walked 45 = .ok (.invokevirtual 205, 3) := by decide +kernel
theorem dX2_walked_48 : decode cX2_walked 48 = .ok (.istore 12, 2) := by decide +kernel
theorem dX2_walked_50 : decode cX2_walked 50 = .ok (.iload 12, 2) := by decide +kernel
theorem dX2_walked_52 : decode cX2_walked 52 = .ok (.bipush (-9), 2) := by decide +kernel
theorem dX2_walked_54 : decode cX2_walked 54 = .ok (.if_icmp .ne 20, 3) := by decide +kernel
theorem dX2_walked_57 : decode cX2_walked 57 = .ok (.iload 6, 2) := by decide +kernel
theorem dX2_walked_59 : decode cX2_walked 59 = .ok (.iconst 1, 1) := by decide +kernel
theorem dX2_walked_60 : decode cX2_walked 60 = .ok (.if_icmp .ne 8, 3) := by decide +kernel
theorem dX2_walked_63 : decode cX2_walked 63 = .ok (.iload 10, 2) := by decide +kernel
theorem dX2_walked_65 : decode cX2_walked 65 = .ok (.goto 8, 3) := by decide +kernel
theorem dX2_walked_68 : decode cX2_walked 68 = .ok (.bipush (-100), 2) := by decide +kernel
theorem dX2_walked_70 : decode cX2_walked 70 = .ok (.iload 10, 2) := by decide +kernel
theorem dX2_walked_72 : decode cX2_walked 72 = .ok (.isub, 1) := by decide +kernel
theorem dX2_walked_73 : decode cX2_walked 73 = .ok (.ireturn, 1) := by decide +kernel
theorem dX2_walked_74 : decode cX2_walked 74 = .ok (.iload 12, 2) := by decide +kernel
theorem dX2_walked_76 : decode cX2_walked 76 = .ok (.istore 7, 2) := by decide +kernel
theorem dX2_walked_78 : decode cX2_walked 78 = .ok (.iload 8, 2) := by decide +kernel
theorem dX2_walked_80 : decode cX2_walked 80 = .ok (.iconst 1, 1) := by decide +kernel
theorem dX2_walked_81 : decode cX2_walked 81 = .ok (.iload 7, 2) := by decide +kernel
theorem dX2_walked_83 : decode cX2_walked 83 = .ok (.ishl, 1) := by decide +kernel
theorem dX2_walked_84 : decode cX2_walked 84 = .ok (.ior, 1) := by decide +kernel
theorem dX2_walked_85 : decode cX2_walked 85 = .ok (.istore 8, 2) := by decide +kernel
theorem dX2_walked_87 : decode cX2_walked 87 = .ok (.iload 11, 2) := by decide +kernel
theorem dX2_walked_89 : decode cX2_walked 89 = .ok (.aload_n 0, 1) := by decide +kernel
theorem dX2_walked_90 : decode cX2_walked 90 = .ok (.getfield 76, 3) := by decide +kernel
theorem dX2_walked_93 : decode cX2_walked 93 = .ok (.if_icmp .eq 6, 3) := by decide +kernel
theorem dX2_walked_96 : decode cX2_walked 96 = .ok (.iinc 9 1, 3) := by decide +kernel
theorem dX2_walked_99 : decode cX2_walked 99 = .ok (.iinc 10 1, 3) := by decide +kernel
theorem dX2_walked_102 : decode cX2_walked 102 = .ok (.goto (-88), 3) := by decide +kernel
theorem dX2_walked_105 : decode cX2_walked 105 = .ok (.iload 6, 2) := by decide +kernel
theorem dX2_walked_107 : decode cX2_walked 107 = .ok (.tableswitch 46 0 3 #[29, 32, 35, 38], 29) := by decide +kernel
theorem dX2_walked_136 : decode cX2_walked 136 = .ok (.iload 7, 2) := by decide +kernel
theorem dX2_walked_138 : decode cX2_walked 138 = .ok (.ireturn, 1) := by decide +kernel
theorem dX2_walked_139 : decode cX2_walked 139 = .ok (.bipush (-9), 2) := by decide +kernel
theorem dX2_walked_141 : decode cX2_walked 141 = .ok (.ireturn, 1) := by decide +kernel
theorem dX2_walked_142 : decode cX2_walked 142 = .ok (.iload 8, 2) := by decide +kernel
theorem dX2_walked_144 : decode cX2_walked 144 = .ok (.ireturn, 1) := by decide +kernel
theorem dX2_walked_145 : decode cX2_walked 145 = .ok (.iload_n 2, 1) := by decide +kernel
theorem dX2_walked_146 : decode cX2_walked 146 = .ok (.iload 5, 2) := by decide +kernel
theorem dX2_walked_148 : decode cX2_walked 148 = .ok (.iadd, 1) := by decide +kernel
theorem dX2_walked_149 : decode cX2_walked 149 = .ok (.bipush 12, 2) := by decide +kernel
theorem dX2_walked_151 : decode cX2_walked 151 = .ok (.irem, 1) := by decide +kernel
theorem dX2_walked_152 : decode cX2_walked 152 = .ok (.ireturn, 1) := by decide +kernel
theorem dX2_walked_153 : decode cX2_walked 153 = .ok (.iload 9, 2) := by decide +kernel
theorem dX2_walked_155 : decode cX2_walked 155 = .ok (.ireturn, 1) := by decide +kernel
theorem dX2_anHourOn_0 : decode cX2_anHourOn 0 = .ok (.iload_n 1, 1) := by decide +kernel
theorem dX2_anHourOn_1 : decode cX2_anHourOn 1 = .ok (.istore 4, 2) := by decide +kernel
theorem dX2_anHourOn_3 : decode cX2_anHourOn 3 = .ok (.iconst 0, 1) := by decide +kernel
theorem dX2_anHourOn_4 : decode cX2_anHourOn 4 = .ok (.istore 5, 2) := by decide +kernel
theorem dX2_anHourOn_6 : decode cX2_anHourOn 6 = .ok (.iload 5, 2) := by decide +kernel
theorem dX2_anHourOn_8 : decode cX2_anHourOn 8 = .ok (.aload_n 0, 1) := by decide +kernel
theorem dX2_anHourOn_9 : decode cX2_anHourOn 9 = .ok (.getfield 76, 3) := by decide +kernel
theorem dX2_anHourOn_12 : decode cX2_anHourOn 12 = .ok (.if_icmp .ge 68, 3) := by decide +kernel
theorem dX2_anHourOn_15 : decode cX2_anHourOn 15 = .ok (.iload 5, 2) := by decide +kernel
theorem dX2_anHourOn_17 : decode cX2_anHourOn 17 = .ok (.iload_n 3, 1) := by decide +kernel
theorem dX2_anHourOn_18 : decode cX2_anHourOn 18 = .ok (.if_icmp .eq 56, 3) := by decide +kernel
theorem dX2_anHourOn_21 : decode cX2_anHourOn 21 = .ok (.iload_n 1, 1) := by decide +kernel
theorem dX2_anHourOn_22 : decode cX2_anHourOn 22 = .ok (.aload_n 0, 1) := by decide +kernel
theorem dX2_anHourOn_23 : decode cX2_anHourOn 23 = .ok (.getfield 13, 3) := by decide +kernel
theorem dX2_anHourOn_26 : decode cX2_anHourOn 26 = .ok (.iload 5, 2) := by decide +kernel
theorem dX2_anHourOn_28 : decode cX2_anHourOn 28 = .ok (.aaload, 1) := by decide +kernel
theorem dX2_anHourOn_29 : decode cX2_anHourOn 29 = .ok (.getfield 85, 3) := by decide +kernel
theorem dX2_anHourOn_32 : decode cX2_anHourOn 32 = .ok (.invokestatic 208, 3) := by decide +kernel
theorem dX2_anHourOn_35 : decode cX2_anHourOn 35 = .ok (.ifCond .ne 6, 3) := by decide +kernel
theorem dX2_anHourOn_38 : decode cX2_anHourOn 38 = .ok (.goto 36, 3) := by decide +kernel
theorem dX2_anHourOn_41 : decode cX2_anHourOn 41 = .ok (.aload_n 0, 1) := by decide +kernel
theorem dX2_anHourOn_42 : decode cX2_anHourOn 42 = .ok (.getfield 13, 3) := by decide +kernel
theorem dX2_anHourOn_45 : decode cX2_anHourOn 45 = .ok (.iload 5, 2) := by decide +kernel
theorem dX2_anHourOn_47 : decode cX2_anHourOn 47 = .ok (.aaload, 1) := by decide +kernel
theorem dX2_anHourOn_48 : decode cX2_anHourOn 48 = .ok (.iload_n 2, 1) := by decide +kernel
theorem dX2_anHourOn_49 : decode cX2_anHourOn 49 = .ok (.aload_n 0, 1) := by decide +kernel
theorem dX2_anHourOn_50 : decode cX2_anHourOn 50 = .ok (.getfield 97, 3) := by decide +kernel
theorem dX2_anHourOn_53 : decode cX2_anHourOn 53 = .ok (.invokevirtual 100, 3) := by decide +kernel
theorem dX2_anHourOn_56 : decode cX2_anHourOn 56 = .ok (.istore 6, 2) := by decide +kernel
theorem dX2_anHourOn_58 : decode cX2_anHourOn 58 = .ok (.iload 6, 2) := by decide +kernel
theorem dX2_anHourOn_60 : decode cX2_anHourOn 60 = .ok (.bipush (-9), 2) := by decide +kernel
theorem dX2_anHourOn_62 : decode cX2_anHourOn 62 = .ok (.if_icmp .eq 12, 3) := by decide +kernel
theorem dX2_anHourOn_65 : decode cX2_anHourOn 65 = .ok (.iload 4, 2) := by decide +kernel
theorem dX2_anHourOn_67 : decode cX2_anHourOn 67 = .ok (.iconst 1, 1) := by decide +kernel
theorem dX2_anHourOn_68 : decode cX2_anHourOn 68 = .ok (.iload 6, 2) := by decide +kernel
theorem dX2_anHourOn_70 : decode cX2_anHourOn 70 = .ok (.ishl, 1) := by decide +kernel
theorem dX2_anHourOn_71 : decode cX2_anHourOn 71 = .ok (.ior, 1) := by decide +kernel
theorem dX2_anHourOn_72 : decode cX2_anHourOn 72 = .ok (.istore 4, 2) := by decide +kernel
theorem dX2_anHourOn_74 : decode cX2_anHourOn 74 = .ok (.iinc 5 1, 3) := by decide +kernel
theorem dX2_anHourOn_77 : decode cX2_anHourOn 77 = .ok (.goto (-71), 3) := by decide +kernel
theorem dX2_anHourOn_80 : decode cX2_anHourOn 80 = .ok (.iload 4, 2) := by decide +kernel
theorem dX2_anHourOn_82 : decode cX2_anHourOn 82 = .ok (.ireturn, 1) := by decide +kernel
theorem dX2_fewestHours_0 : decode cX2_fewestHours 0 = .ok (.iconst 1, 1) := by decide +kernel
theorem dX2_fewestHours_1 : decode cX2_fewestHours 1 = .ok (.iload_n 1, 1) := by decide +kernel
theorem dX2_fewestHours_2 : decode cX2_fewestHours 2 = .ok (.ishl, 1) := by decide +kernel
theorem dX2_fewestHours_3 : decode cX2_fewestHours 3 = .ok (.istore 5, 2) := by decide +kernel
theorem dX2_fewestHours_5 : decode cX2_fewestHours 5 = .ok (.iconst 0, 1) := by decide +kernel
theorem dX2_fewestHours_6 : decode cX2_fewestHours 6 = .ok (.istore 6, 2) := by decide +kernel
theorem dX2_fewestHours_8 : decode cX2_fewestHours 8 = .ok (.iload 6, 2) := by decide +kernel
theorem dX2_fewestHours_10 : decode cX2_fewestHours 10 = .ok (.bipush 24, 2) := by decide +kernel
theorem dX2_fewestHours_12 : decode cX2_fewestHours 12 = .ok (.if_icmp .gt 38, 3) := by decide +kernel
theorem dX2_fewestHours_15 : decode cX2_fewestHours 15 = .ok (.iload 5, 2) := by decide +kernel
theorem dX2_fewestHours_17 : decode cX2_fewestHours 17 = .ok (.iload_n 2, 1) := by decide +kernel
theorem dX2_fewestHours_18 : decode cX2_fewestHours 18 = .ok (.invokestatic 208, 3) := by decide +kernel
theorem dX2_fewestHours_21 : decode cX2_fewestHours 21 = .ok (.ifCond .eq 6, 3) := by decide +kernel
theorem dX2_fewestHours_24 : decode cX2_fewestHours 24 = .ok (.iload 6, 2) := by decide +kernel
theorem dX2_fewestHours_26 : decode cX2_fewestHours 26 = .ok (.ireturn, 1) := by decide +kernel
theorem dX2_fewestHours_27 : decode cX2_fewestHours 27 = .ok (.aload_n 0, 1) := by decide +kernel
theorem dX2_fewestHours_28 : decode cX2_fewestHours 28 = .ok (.iload 5, 2) := by decide +kernel
theorem dX2_fewestHours_30 : decode cX2_fewestHours 30 = .ok (.iload_n 3, 1) := by decide +kernel
theorem dX2_fewestHours_31 : decode cX2_fewestHours 31 = .ok (.iload 6, 2) := by decide +kernel
theorem dX2_fewestHours_33 : decode cX2_fewestHours 33 = .ok (.iadd, 1) := by decide +kernel
theorem dX2_fewestHours_34 : decode cX2_fewestHours 34 = .ok (.bipush 12, 2) := by decide +kernel
theorem dX2_fewestHours_36 : decode cX2_fewestHours 36 = .ok (.irem, 1) := by decide +kernel
theorem dX2_fewestHours_37 : decode cX2_fewestHours 37 = .ok (.iload 4, 2) := by decide +kernel
theorem dX2_fewestHours_39 : decode cX2_fewestHours 39 = .ok (.invokevirtual 130, 3) := by decide +kernel
theorem dX2_fewestHours_42 : decode cX2_fewestHours 42 = .ok (.istore 5, 2) := by decide +kernel
theorem dX2_fewestHours_44 : decode cX2_fewestHours 44 = .ok (.iinc 6 1, 3) := by decide +kernel
theorem dX2_fewestHours_47 : decode cX2_fewestHours 47 = .ok (.goto (-39), 3) := by decide +kernel
theorem dX2_fewestHours_50 : decode cX2_fewestHours 50 = .ok (.bipush (-9), 2) := by decide +kernel
theorem dX2_fewestHours_52 : decode cX2_fewestHours 52 = .ok (.ireturn, 1) := by decide +kernel
theorem dX2_roomsInTime_0 : decode cX2_roomsInTime 0 = .ok (.iconst 1, 1) := by decide +kernel
theorem dX2_roomsInTime_1 : decode cX2_roomsInTime 1 = .ok (.iload_n 1, 1) := by decide +kernel
theorem dX2_roomsInTime_2 : decode cX2_roomsInTime 2 = .ok (.ishl, 1) := by decide +kernel
theorem dX2_roomsInTime_3 : decode cX2_roomsInTime 3 = .ok (.istore_n 3, 1) := by decide +kernel
theorem dX2_roomsInTime_4 : decode cX2_roomsInTime 4 = .ok (.iconst 0, 1) := by decide +kernel
theorem dX2_roomsInTime_5 : decode cX2_roomsInTime 5 = .ok (.istore 4, 2) := by decide +kernel
theorem dX2_roomsInTime_7 : decode cX2_roomsInTime 7 = .ok (.iload 4, 2) := by decide +kernel
theorem dX2_roomsInTime_9 : decode cX2_roomsInTime 9 = .ok (.bipush 24, 2) := by decide +kernel
theorem dX2_roomsInTime_11 : decode cX2_roomsInTime 11 = .ok (.if_icmp .ge 24, 3) := by decide +kernel
theorem dX2_roomsInTime_14 : decode cX2_roomsInTime 14 = .ok (.aload_n 0, 1) := by decide +kernel
theorem dX2_roomsInTime_15 : decode cX2_roomsInTime 15 = .ok (.iload_n 3, 1) := by decide +kernel
theorem dX2_roomsInTime_16 : decode cX2_roomsInTime 16 = .ok (.iload_n 2, 1) := by decide +kernel
theorem dX2_roomsInTime_17 : decode cX2_roomsInTime 17 = .ok (.iload 4, 2) := by decide +kernel
theorem dX2_roomsInTime_19 : decode cX2_roomsInTime 19 = .ok (.iadd, 1) := by decide +kernel
theorem dX2_roomsInTime_20 : decode cX2_roomsInTime 20 = .ok (.bipush 12, 2) := by decide +kernel
theorem dX2_roomsInTime_22 : decode cX2_roomsInTime 22 = .ok (.irem, 1) := by decide +kernel
theorem dX2_roomsInTime_23 : decode cX2_roomsInTime 23 = .ok (.bipush (-9), 2) := by decide +kernel
theorem dX2_roomsInTime_25 : decode cX2_roomsInTime 25 = .ok (.invokevirtual 130, 3) := by decide +kernel
theorem dX2_roomsInTime_28 : decode cX2_roomsInTime 28 = .ok (.istore_n 3, 1) := by decide +kernel
theorem dX2_roomsInTime_29 : decode cX2_roomsInTime 29 = .ok (.iinc 4 1, 3) := by decide +kernel
theorem dX2_roomsInTime_32 : decode cX2_roomsInTime 32 = .ok (.goto (-25), 3) := by decide +kernel
theorem dX2_roomsInTime_35 : decode cX2_roomsInTime 35 = .ok (.iload_n 3, 1) := by decide +kernel
theorem dX2_roomsInTime_36 : decode cX2_roomsInTime 36 = .ok (.ireturn, 1) := by decide +kernel
theorem dX2_actOfSoonest_0 : decode cX2_actOfSoonest 0 = .ok (.aload_n 0, 1) := by decide +kernel
theorem dX2_actOfSoonest_1 : decode cX2_actOfSoonest 1 = .ok (.iload_n 2, 1) := by decide +kernel
theorem dX2_actOfSoonest_2 : decode cX2_actOfSoonest 2 = .ok (.iload_n 3, 1) := by decide +kernel
theorem dX2_actOfSoonest_3 : decode cX2_actOfSoonest 3 = .ok (.iload 4, 2) := by decide +kernel
theorem dX2_actOfSoonest_5 : decode cX2_actOfSoonest 5 = .ok (.invokevirtual 211, 3) := by decide +kernel
theorem dX2_actOfSoonest_8 : decode cX2_actOfSoonest 8 = .ok (.iload_n 1, 1) := by decide +kernel
theorem dX2_actOfSoonest_9 : decode cX2_actOfSoonest 9 = .ok (.istore 6, 2) := by decide +kernel
theorem dX2_actOfSoonest_11 : decode cX2_actOfSoonest 11 = .ok (.bipush (-9), 2) := by decide +kernel
theorem dX2_actOfSoonest_13 : decode cX2_actOfSoonest 13 = .ok (.istore 7, 2) := by decide +kernel
theorem dX2_actOfSoonest_15 : decode cX2_actOfSoonest 15 = .ok (.iconst 0, 1) := by decide +kernel
theorem dX2_actOfSoonest_16 : decode cX2_actOfSoonest 16 = .ok (.istore 8, 2) := by decide +kernel
theorem dX2_actOfSoonest_18 : decode cX2_actOfSoonest 18 = .ok (.iload 8, 2) := by decide +kernel
theorem dX2_actOfSoonest_20 : decode cX2_actOfSoonest 20 = .ok (.iload 5, 2) := by decide +kernel
theorem dX2_actOfSoonest_22 : decode cX2_actOfSoonest 22 = .ok (.if_icmp .gt 56, 3) := by decide +kernel
theorem dX2_actOfSoonest_25 : decode cX2_actOfSoonest 25 = .ok (.iload 8, 2) := by decide +kernel
theorem dX2_actOfSoonest_27 : decode cX2_actOfSoonest 27 = .ok (.iload 4, 2) := by decide +kernel
theorem dX2_actOfSoonest_29 : decode cX2_actOfSoonest 29 = .ok (.if_icmp .ge 49, 3) := by decide +kernel
theorem dX2_actOfSoonest_32 : decode cX2_actOfSoonest 32 = .ok (.iload_n 3, 1) := by decide +kernel
theorem dX2_actOfSoonest_33 : decode cX2_actOfSoonest 33 = .ok (.iload 8, 2) := by decide +kernel
theorem dX2_actOfSoonest_35 : decode cX2_actOfSoonest 35 = .ok (.iadd, 1) := by decide +kernel
theorem dX2_actOfSoonest_36 : decode cX2_actOfSoonest 36 = .ok (.bipush 12, 2) := by decide +kernel
theorem dX2_actOfSoonest_38 : decode cX2_actOfSoonest 38 = .ok (.irem, 1) := by decide +kernel
theorem dX2_actOfSoonest_39 : decode cX2_actOfSoonest 39 = .ok (.istore 9, 2) := by decide +kernel
theorem dX2_actOfSoonest_41 : decode cX2_actOfSoonest 41 = .ok (.aload_n 0, 1) := by decide +kernel
theorem dX2_actOfSoonest_42 : decode cX2_actOfSoonest 42 = .ok (.iload 6, 2) := by decide +kernel
theorem dX2_actOfSoonest_44 : decode cX2_actOfSoonest 44 = .ok (.iload 9, 2) := by decide +kernel
theorem dX2_actOfSoonest_46 : decode cX2_actOfSoonest 46 = .ok (.aload_n 0, 1) := by decide +kernel
theorem dX2_actOfSoonest_47 : decode cX2_actOfSoonest 47 = .ok (.getfield 39, 3) := by decide +kernel
theorem dX2_actOfSoonest_50 : decode cX2_actOfSoonest 50 = .ok (.iload 8, 2) := by decide +kernel
theorem dX2_actOfSoonest_52 : decode cX2_actOfSoonest 52 = .ok (.iconst 1, 1) := by decide +kernel
theorem dX2_actOfSoonest_53 : decode cX2_actOfSoonest 53 = .ok (.iadd, 1) := by decide +kernel
theorem dX2_actOfSoonest_54 : decode cX2_actOfSoonest 54 = .ok (.iaload, 1) := by decide +kernel
theorem dX2_actOfSoonest_55 : decode cX2_actOfSoonest 55 = .ok (.invokevirtual 215, 3) := by decide +kernel
theorem dX2_actOfSoonest_58 : decode cX2_actOfSoonest 58 = .ok (.istore 7, 2) := by decide +kernel
theorem dX2_actOfSoonest_60 : decode cX2_actOfSoonest 60 = .ok (.aload_n 0, 1) := by decide +kernel
theorem dX2_actOfSoonest_61 : decode cX2_actOfSoonest 61 = .ok (.iload 7, 2) := by decide +kernel
theorem dX2_actOfSoonest_63 : decode cX2_actOfSoonest 63 = .ok (.iload 6, 2) := by decide +kernel
theorem dX2_actOfSoonest_65 : decode cX2_actOfSoonest 65 = .ok (.iload 9, 2) := by decide +kernel
theorem dX2_actOfSoonest_67 : decode cX2_actOfSoonest 67 = .ok (.invokevirtual 205, 3) := by decide +kernel
theorem dX2_actOfSoonest_70 : decode cX2_actOfSoonest 70 = .ok (.istore 6, 2) := by decide +kernel
theorem dX2_actOfSoonest_72 : decode cX2_actOfSoonest 72 = .ok (.iinc 8 1, 3) := by decide +kernel
theorem dX2_actOfSoonest_75 : decode cX2_actOfSoonest 75 = .ok (.goto (-57), 3) := by decide +kernel
theorem dX2_actOfSoonest_78 : decode cX2_actOfSoonest 78 = .ok (.iload 7, 2) := by decide +kernel
theorem dX2_actOfSoonest_80 : decode cX2_actOfSoonest 80 = .ok (.ireturn, 1) := by decide +kernel
theorem dX2_fillHopeful_0 : decode cX2_fillHopeful 0 = .ok (.aload_n 0, 1) := by decide +kernel
theorem dX2_fillHopeful_1 : decode cX2_fillHopeful 1 = .ok (.getfield 39, 3) := by decide +kernel
theorem dX2_fillHopeful_4 : decode cX2_fillHopeful 4 = .ok (.iload_n 3, 1) := by decide +kernel
theorem dX2_fillHopeful_5 : decode cX2_fillHopeful 5 = .ok (.iconst 1, 1) := by decide +kernel
theorem dX2_fillHopeful_6 : decode cX2_fillHopeful 6 = .ok (.iload_n 1, 1) := by decide +kernel
theorem dX2_fillHopeful_7 : decode cX2_fillHopeful 7 = .ok (.ishl, 1) := by decide +kernel
theorem dX2_fillHopeful_8 : decode cX2_fillHopeful 8 = .ok (.iastore, 1) := by decide +kernel
theorem dX2_fillHopeful_9 : decode cX2_fillHopeful 9 = .ok (.iload_n 3, 1) := by decide +kernel
theorem dX2_fillHopeful_10 : decode cX2_fillHopeful 10 = .ok (.iconst 1, 1) := by decide +kernel
theorem dX2_fillHopeful_11 : decode cX2_fillHopeful 11 = .ok (.isub, 1) := by decide +kernel
theorem dX2_fillHopeful_12 : decode cX2_fillHopeful 12 = .ok (.istore 4, 2) := by decide +kernel
theorem dX2_fillHopeful_14 : decode cX2_fillHopeful 14 = .ok (.iload 4, 2) := by decide +kernel
theorem dX2_fillHopeful_16 : decode cX2_fillHopeful 16 = .ok (.ifCond .le 36, 3) := by decide +kernel
theorem dX2_fillHopeful_19 : decode cX2_fillHopeful 19 = .ok (.aload_n 0, 1) := by decide +kernel
theorem dX2_fillHopeful_20 : decode cX2_fillHopeful 20 = .ok (.getfield 39, 3) := by decide +kernel
theorem dX2_fillHopeful_23 : decode cX2_fillHopeful 23 = .ok (.iload 4, 2) := by decide +kernel
theorem dX2_fillHopeful_25 : decode cX2_fillHopeful 25 = .ok (.aload_n 0, 1) := by decide +kernel
theorem dX2_fillHopeful_26 : decode cX2_fillHopeful 26 = .ok (.aload_n 0, 1) := by decide +kernel
theorem dX2_fillHopeful_27 : decode cX2_fillHopeful 27 = .ok (.getfield 39, 3) := by decide +kernel
theorem dX2_fillHopeful_30 : decode cX2_fillHopeful 30 = .ok (.iload 4, 2) := by decide +kernel
theorem dX2_fillHopeful_32 : decode cX2_fillHopeful 32 = .ok (.iconst 1, 1) := by decide +kernel
theorem dX2_fillHopeful_33 : decode cX2_fillHopeful 33 = .ok (.iadd, 1) := by decide +kernel
theorem dX2_fillHopeful_34 : decode cX2_fillHopeful 34 = .ok (.iaload, 1) := by decide +kernel
theorem dX2_fillHopeful_35 : decode cX2_fillHopeful 35 = .ok (.iload_n 2, 1) := by decide +kernel
theorem dX2_fillHopeful_36 : decode cX2_fillHopeful 36 = .ok (.iload 4, 2) := by decide +kernel
theorem dX2_fillHopeful_38 : decode cX2_fillHopeful 38 = .ok (.iadd, 1) := by decide +kernel
theorem dX2_fillHopeful_39 : decode cX2_fillHopeful 39 = .ok (.bipush 12, 2) := by decide +kernel
theorem dX2_fillHopeful_41 : decode cX2_fillHopeful 41 = .ok (.irem, 1) := by decide +kernel
theorem dX2_fillHopeful_42 : decode cX2_fillHopeful 42 = .ok (.invokevirtual 218, 3) := by decide +kernel
theorem dX2_fillHopeful_45 : decode cX2_fillHopeful 45 = .ok (.iastore, 1) := by decide +kernel
theorem dX2_fillHopeful_46 : decode cX2_fillHopeful 46 = .ok (.iinc 4 (-1), 3) := by decide +kernel
theorem dX2_fillHopeful_49 : decode cX2_fillHopeful 49 = .ok (.goto (-35), 3) := by decide +kernel
theorem dX2_fillHopeful_52 : decode cX2_fillHopeful 52 = .ok (.return_, 1) := by decide +kernel
theorem dX2_anHourAhead_0 : decode cX2_anHourAhead 0 = .ok (.iload_n 1, 1) := by decide +kernel
theorem dX2_anHourAhead_1 : decode cX2_anHourAhead 1 = .ok (.istore_n 3, 1) := by decide +kernel
theorem dX2_anHourAhead_2 : decode cX2_anHourAhead 2 = .ok (.iconst 0, 1) := by decide +kernel
theorem dX2_anHourAhead_3 : decode cX2_anHourAhead 3 = .ok (.istore 4, 2) := by decide +kernel
theorem dX2_anHourAhead_5 : decode cX2_anHourAhead 5 = .ok (.iload 4, 2) := by decide +kernel
theorem dX2_anHourAhead_7 : decode cX2_anHourAhead 7 = .ok (.aload_n 0, 1) := by decide +kernel
theorem dX2_anHourAhead_8 : decode cX2_anHourAhead 8 = .ok (.getfield 76, 3) := by decide +kernel
theorem dX2_anHourAhead_11 : decode cX2_anHourAhead 11 = .ok (.if_icmp .ge 57, 3) := by decide +kernel
theorem dX2_anHourAhead_14 : decode cX2_anHourAhead 14 = .ok (.aload_n 0, 1) := by decide +kernel
theorem dX2_anHourAhead_15 : decode cX2_anHourAhead 15 = .ok (.getfield 13, 3) := by decide +kernel
theorem dX2_anHourAhead_18 : decode cX2_anHourAhead 18 = .ok (.iload 4, 2) := by decide +kernel
theorem dX2_anHourAhead_20 : decode cX2_anHourAhead 20 = .ok (.aaload, 1) := by decide +kernel
theorem dX2_anHourAhead_21 : decode cX2_anHourAhead 21 = .ok (.iload_n 2, 1) := by decide +kernel
theorem dX2_anHourAhead_22 : decode cX2_anHourAhead 22 = .ok (.aload_n 0, 1) := by decide +kernel
theorem dX2_anHourAhead_23 : decode cX2_anHourAhead 23 = .ok (.getfield 97, 3) := by decide +kernel
theorem dX2_anHourAhead_26 : decode cX2_anHourAhead 26 = .ok (.invokevirtual 100, 3) := by decide +kernel
theorem dX2_anHourAhead_29 : decode cX2_anHourAhead 29 = .ok (.istore 5, 2) := by decide +kernel
theorem dX2_anHourAhead_31 : decode cX2_anHourAhead 31 = .ok (.iload 5, 2) := by decide +kernel
theorem dX2_anHourAhead_33 : decode cX2_anHourAhead 33 = .ok (.bipush (-9), 2) := by decide +kernel
theorem dX2_anHourAhead_35 : decode cX2_anHourAhead 35 = .ok (.if_icmp .eq 27, 3) := by decide +kernel
theorem dX2_anHourAhead_38 : decode cX2_anHourAhead 38 = .ok (.iload_n 1, 1) := by decide +kernel
theorem dX2_anHourAhead_39 : decode cX2_anHourAhead 39 = .ok (.iload 5, 2) := by decide +kernel
theorem dX2_anHourAhead_41 : decode cX2_anHourAhead 41 = .ok (.invokestatic 208, 3) := by decide +kernel
theorem dX2_anHourAhead_44 : decode cX2_anHourAhead 44 = .ok (.ifCond .eq 18, 3) := by decide +kernel
theorem dX2_anHourAhead_47 : decode cX2_anHourAhead 47 = .ok (.iload_n 3, 1) := by decide +kernel
theorem dX2_anHourAhead_48 : decode cX2_anHourAhead 48 = .ok (.iconst 1, 1) := by decide +kernel
theorem dX2_anHourAhead_49 : decode cX2_anHourAhead 49 = .ok (.aload_n 0, 1) := by decide +kernel
theorem dX2_anHourAhead_50 : decode cX2_anHourAhead 50 = .ok (.getfield 13, 3) := by decide +kernel
theorem dX2_anHourAhead_53 : decode cX2_anHourAhead 53 = .ok (.iload 4, 2) := by decide +kernel
theorem dX2_anHourAhead_55 : decode cX2_anHourAhead 55 = .ok (.aaload, 1) := by decide +kernel
theorem dX2_anHourAhead_56 : decode cX2_anHourAhead 56 = .ok (.getfield 85, 3) := by decide +kernel
theorem dX2_anHourAhead_59 : decode cX2_anHourAhead 59 = .ok (.ishl, 1) := by decide +kernel
theorem dX2_anHourAhead_60 : decode cX2_anHourAhead 60 = .ok (.ior, 1) := by decide +kernel
theorem dX2_anHourAhead_61 : decode cX2_anHourAhead 61 = .ok (.istore_n 3, 1) := by decide +kernel
theorem dX2_anHourAhead_62 : decode cX2_anHourAhead 62 = .ok (.iinc 4 1, 3) := by decide +kernel
theorem dX2_anHourAhead_65 : decode cX2_anHourAhead 65 = .ok (.goto (-60), 3) := by decide +kernel
theorem dX2_anHourAhead_68 : decode cX2_anHourAhead 68 = .ok (.iload_n 3, 1) := by decide +kernel
theorem dX2_anHourAhead_69 : decode cX2_anHourAhead 69 = .ok (.ireturn, 1) := by decide +kernel
theorem dX2_firstHopefulAct_0 : decode cX2_firstHopefulAct 0 = .ok (.iconst 0, 1) := by decide +kernel
theorem dX2_firstHopefulAct_1 : decode cX2_firstHopefulAct 1 = .ok (.istore 4, 2) := by decide +kernel
theorem dX2_firstHopefulAct_3 : decode cX2_firstHopefulAct 3 = .ok (.iload 4, 2) := by decide +kernel
theorem dX2_firstHopefulAct_5 : decode cX2_firstHopefulAct 5 = .ok (.aload_n 0, 1) := by decide +kernel
theorem dX2_firstHopefulAct_6 : decode cX2_firstHopefulAct 6 = .ok (.getfield 76, 3) := by decide +kernel
theorem dX2_firstHopefulAct_9 : decode cX2_firstHopefulAct 9 = .ok (.if_icmp .ge 38, 3) := by decide +kernel
theorem dX2_firstHopefulAct_12 : decode cX2_firstHopefulAct 12 = .ok (.aload_n 0, 1) := by decide +kernel
theorem dX2_firstHopefulAct_13 : decode cX2_firstHopefulAct 13 = .ok (.iload 4, 2) := by decide +kernel
theorem dX2_firstHopefulAct_15 : decode cX2_firstHopefulAct 15 = .ok (.iload_n 1, 1) := by decide +kernel
theorem dX2_firstHopefulAct_16 : decode cX2_firstHopefulAct 16 = .ok (.iload_n 2, 1) := by decide +kernel
theorem dX2_firstHopefulAct_17 : decode cX2_firstHopefulAct 17 = .ok (.invokevirtual 205, 3) := by decide +kernel
theorem dX2_firstHopefulAct_20 : decode cX2_firstHopefulAct 20 = .ok (.istore 5, 2) := by decide +kernel
theorem dX2_firstHopefulAct_22 : decode cX2_firstHopefulAct 22 = .ok (.iload 5, 2) := by decide +kernel
theorem dX2_firstHopefulAct_24 : decode cX2_firstHopefulAct 24 = .ok (.bipush (-9), 2) := by decide +kernel
theorem dX2_firstHopefulAct_26 : decode cX2_firstHopefulAct 26 = .ok (.if_icmp .eq 15, 3) := by decide +kernel
theorem dX2_firstHopefulAct_29 : decode cX2_firstHopefulAct 29 = .ok (.iload_n 3, 1) := by decide +kernel
theorem dX2_firstHopefulAct_30 : decode cX2_firstHopefulAct 30 = .ok (.iload 5, 2) := by decide +kernel
theorem dX2_firstHopefulAct_32 : decode cX2_firstHopefulAct 32 = .ok (.invokestatic 208, 3) := by decide +kernel
theorem dX2_firstHopefulAct_35 : decode cX2_firstHopefulAct 35 = .ok (.ifCond .eq 6, 3) := by decide +kernel
theorem dX2_firstHopefulAct_38 : decode cX2_firstHopefulAct 38 = .ok (.iload 4, 2) := by decide +kernel
theorem dX2_firstHopefulAct_40 : decode cX2_firstHopefulAct 40 = .ok (.ireturn, 1) := by decide +kernel
theorem dX2_firstHopefulAct_41 : decode cX2_firstHopefulAct 41 = .ok (.iinc 4 1, 3) := by decide +kernel
theorem dX2_firstHopefulAct_44 : decode cX2_firstHopefulAct 44 = .ok (.goto (-41), 3) := by decide +kernel
theorem dX2_firstHopefulAct_47 : decode cX2_firstHopefulAct 47 = .ok (.aload_n 0, 1) := by decide +kernel
theorem dX2_firstHopefulAct_48 : decode cX2_firstHopefulAct 48 = .ok (.getfield 76, 3) := by decide +kernel
theorem dX2_firstHopefulAct_51 : decode cX2_firstHopefulAct 51 = .ok (.ireturn, 1) := by decide +kernel
theorem dX2_has_0 : decode cX2_has 0 = .ok (.iload_n 0, 1) := by decide +kernel
theorem dX2_has_1 : decode cX2_has 1 = .ok (.iload_n 1, 1) := by decide +kernel
theorem dX2_has_2 : decode cX2_has 2 = .ok (.ishr, 1) := by decide +kernel
theorem dX2_has_3 : decode cX2_has 3 = .ok (.iconst 1, 1) := by decide +kernel
theorem dX2_has_4 : decode cX2_has 4 = .ok (.iand, 1) := by decide +kernel
theorem dX2_has_5 : decode cX2_has 5 = .ok (.ifCond .eq 7, 3) := by decide +kernel
theorem dX2_has_8 : decode cX2_has 8 = .ok (.iconst 1, 1) := by decide +kernel
theorem dX2_has_9 : decode cX2_has 9 = .ok (.goto 4, 3) := by decide +kernel
theorem dX2_has_12 : decode cX2_has 12 = .ok (.iconst 0, 1) := by decide +kernel
theorem dX2_has_13 : decode cX2_has 13 = .ok (.ireturn, 1) := by decide +kernel
theorem dX2_errandHours_0 : decode cX2_errandHours 0 = .ok (.iload_n 2, 1) := by decide +kernel
theorem dX2_errandHours_1 : decode cX2_errandHours 1 = .ok (.invokestatic 221, 3) := by decide +kernel
theorem dX2_errandHours_4 : decode cX2_errandHours 4 = .ok (.lstore 4, 2) := by decide +kernel
theorem dX2_errandHours_6 : decode cX2_errandHours 6 = .ok (.aload_n 0, 1) := by decide +kernel
theorem dX2_errandHours_7 : decode cX2_errandHours 7 = .ok (.getfield 42, 3) := by decide +kernel
theorem dX2_errandHours_10 : decode cX2_errandHours 10 = .ok (.lconst 0, 1) := by decide +kernel
theorem dX2_errandHours_11 : decode cX2_errandHours 11 = .ok (.invokestatic 225, 3) := by decide +kernel
theorem dX2_errandHours_14 : decode cX2_errandHours 14 = .ok (.aload_n 0, 1) := by decide +kernel
theorem dX2_errandHours_15 : decode cX2_errandHours 15 = .ok (.getfield 42, 3) := by decide +kernel
theorem dX2_errandHours_18 : decode cX2_errandHours 18 = .ok (.iload_n 1, 1) := by decide +kernel
theorem dX2_errandHours_19 : decode cX2_errandHours 19 = .ok (.lconst 1, 1) := by decide +kernel
theorem dX2_errandHours_20 : decode cX2_errandHours 20 = .ok (.iconst 1, 1) := by decide +kernel
theorem dX2_errandHours_21 : decode cX2_errandHours 21 = .ok (.iload_n 1, 1) := by decide +kernel
theorem dX2_errandHours_22 : decode cX2_errandHours 22 = .ok (.ishl, 1) := by decide +kernel
theorem dX2_errandHours_23 : decode cX2_errandHours 23 = .ok (.lshl, 1) := by decide +kernel
theorem dX2_errandHours_24 : decode cX2_errandHours 24 = .ok (.lastore, 1) := by decide +kernel
theorem dX2_errandHours_25 : decode cX2_errandHours 25 = .ok (.iconst 0, 1) := by decide +kernel
theorem dX2_errandHours_26 : decode cX2_errandHours 26 = .ok (.istore 6, 2) := by decide +kernel
theorem dX2_errandHours_28 : decode cX2_errandHours 28 = .ok (.iload 6, 2) := by decide +kernel
theorem dX2_errandHours_30 : decode cX2_errandHours 30 = .ok (.bipush 24, 2) := by decide +kernel
theorem dX2_errandHours_32 : decode cX2_errandHours 32 = .ok (.if_icmp .gt 32, 3) := by decide +kernel
theorem dX2_errandHours_35 : decode cX2_errandHours 35 = .ok (.aload_n 0, 1) := by decide +kernel
theorem dX2_errandHours_36 : decode cX2_errandHours 36 = .ok (.lload 4, 2) := by decide +kernel
theorem dX2_errandHours_38 : decode cX2_errandHours 38 = .ok (.invokevirtual 231, 3) := by decide +kernel
theorem dX2_errandHours_41 : decode cX2_errandHours 41 = .ok (.ifCond .eq 6, 3) := by decide +kernel
theorem dX2_errandHours_44 : decode cX2_errandHours 44 = .ok (.iload 6, 2) := by decide +kernel
theorem dX2_errandHours_46 : decode cX2_errandHours 46 = .ok (.ireturn, 1) := by decide +kernel
theorem dX2_errandHours_47 : decode cX2_errandHours 47 = .ok (.aload_n 0, 1) := by decide +kernel
theorem dX2_errandHours_48 : decode cX2_errandHours 48 = .ok (.iload_n 3, 1) := by decide +kernel
theorem dX2_errandHours_49 : decode cX2_errandHours 49 = .ok (.iload 6, 2) := by decide +kernel
theorem dX2_errandHours_51 : decode cX2_errandHours 51 = .ok (.iadd, 1) := by decide +kernel
theorem dX2_errandHours_52 : decode cX2_errandHours 52 = .ok (.bipush 12, 2) := by decide +kernel
theorem dX2_errandHours_54 : decode cX2_errandHours 54 = .ok (.irem, 1) := by decide +kernel
theorem dX2_errandHours_55 : decode cX2_errandHours 55 = .ok (.invokevirtual 235, 3) := by decide +kernel
theorem dX2_errandHours_58 : decode cX2_errandHours 58 = .ok (.iinc 6 1, 3) := by decide +kernel
theorem dX2_errandHours_61 : decode cX2_errandHours 61 = .ok (.goto (-33), 3) := by decide +kernel
theorem dX2_errandHours_64 : decode cX2_errandHours 64 = .ok (.bipush (-9), 2) := by decide +kernel
theorem dX2_errandHours_66 : decode cX2_errandHours 66 = .ok (.ireturn, 1) := by decide +kernel
theorem dX2_setsWithAll_0 : decode cX2_setsWithAll 0 = .ok (.ldc2_w 238, 3) := by decide +kernel
theorem dX2_setsWithAll_3 : decode cX2_setsWithAll 3 = .ok (.lstore_n 1, 1) := by decide +kernel
theorem dX2_setsWithAll_4 : decode cX2_setsWithAll 4 = .ok (.iconst 0, 1) := by decide +kernel
theorem dX2_setsWithAll_5 : decode cX2_setsWithAll 5 = .ok (.istore_n 3, 1) := by decide +kernel
theorem dX2_setsWithAll_6 : decode cX2_setsWithAll 6 = .ok (.iload_n 3, 1) := by decide +kernel
theorem dX2_setsWithAll_7 : decode cX2_setsWithAll 7 = .ok (.bipush 6, 2) := by decide +kernel
theorem dX2_setsWithAll_9 : decode cX2_setsWithAll 9 = .ok (.if_icmp .ge 25, 3) := by decide +kernel
theorem dX2_setsWithAll_12 : decode cX2_setsWithAll 12 = .ok (.iload_n 0, 1) := by decide +kernel
theorem dX2_setsWithAll_13 : decode cX2_setsWithAll 13 = .ok (.iload_n 3, 1) := by decide +kernel
theorem dX2_setsWithAll_14 : decode cX2_setsWithAll 14 = .ok (.invokestatic 208, 3) := by decide +kernel
theorem dX2_setsWithAll_17 : decode cX2_setsWithAll 17 = .ok (.ifCond .eq 11, 3) := by decide +kernel
theorem dX2_setsWithAll_20 : decode cX2_setsWithAll 20 = .ok (.lload_n 1, 1) := by decide +kernel
theorem dX2_setsWithAll_21 : decode cX2_setsWithAll 21 = .ok (.getstatic 240, 3) := by decide +kernel
theorem dX2_setsWithAll_24 : decode cX2_setsWithAll 24 = .ok (.iload_n 3, 1) := by decide +kernel
theorem dX2_setsWithAll_25 : decode cX2_setsWithAll 25 = .ok (.laload, 1) := by decide +kernel
theorem dX2_setsWithAll_26 : decode cX2_setsWithAll 26 = .ok (.land, 1) := by decide +kernel
theorem dX2_setsWithAll_27 : decode cX2_setsWithAll 27 = .ok (.lstore_n 1, 1) := by decide +kernel
theorem dX2_setsWithAll_28 : decode cX2_setsWithAll 28 = .ok (.iinc 3 1, 3) := by decide +kernel
theorem dX2_setsWithAll_31 : decode cX2_setsWithAll 31 = .ok (.goto (-25), 3) := by decide +kernel
theorem dX2_setsWithAll_34 : decode cX2_setsWithAll 34 = .ok (.lload_n 1, 1) := by decide +kernel
theorem dX2_setsWithAll_35 : decode cX2_setsWithAll 35 = .ok (.lreturn, 1) := by decide +kernel
theorem dX2_anySeen_0 : decode cX2_anySeen 0 = .ok (.iconst 0, 1) := by decide +kernel
theorem dX2_anySeen_1 : decode cX2_anySeen 1 = .ok (.istore_n 3, 1) := by decide +kernel
theorem dX2_anySeen_2 : decode cX2_anySeen 2 = .ok (.iload_n 3, 1) := by decide +kernel
theorem dX2_anySeen_3 : decode cX2_anySeen 3 = .ok (.bipush 6, 2) := by decide +kernel
theorem dX2_anySeen_5 : decode cX2_anySeen 5 = .ok (.if_icmp .ge 24, 3) := by decide +kernel
theorem dX2_anySeen_8 : decode cX2_anySeen 8 = .ok (.aload_n 0, 1) := by decide +kernel
theorem dX2_anySeen_9 : decode cX2_anySeen 9 = .ok (.getfield 42, 3) := by decide +kernel
theorem dX2_anySeen_12 : decode cX2_anySeen 12 = .ok (.iload_n 3, 1) := by decide +kernel
theorem dX2_anySeen_13 : decode cX2_anySeen 13 = .ok (.laload, 1) := by decide +kernel
theorem dX2_anySeen_14 : decode cX2_anySeen 14 = .ok (.lload_n 1, 1) := by decide +kernel
theorem dX2_anySeen_15 : decode cX2_anySeen 15 = .ok (.land, 1) := by decide +kernel
theorem dX2_anySeen_16 : decode cX2_anySeen 16 = .ok (.lconst 0, 1) := by decide +kernel
theorem dX2_anySeen_17 : decode cX2_anySeen 17 = .ok (.lcmp, 1) := by decide +kernel
theorem dX2_anySeen_18 : decode cX2_anySeen 18 = .ok (.ifCond .eq 5, 3) := by decide +kernel
theorem dX2_anySeen_21 : decode cX2_anySeen 21 = .ok (.iconst 1, 1) := by decide +kernel
theorem dX2_anySeen_22 : decode cX2_anySeen 22 = .ok (.ireturn, 1) := by decide +kernel
theorem dX2_anySeen_23 : decode cX2_anySeen 23 = .ok (.iinc 3 1, 3) := by decide +kernel
theorem dX2_anySeen_26 : decode cX2_anySeen 26 = .ok (.goto (-24), 3) := by decide +kernel
theorem dX2_anySeen_29 : decode cX2_anySeen 29 = .ok (.iconst 0, 1) := by decide +kernel
theorem dX2_anySeen_30 : decode cX2_anySeen 30 = .ok (.ireturn, 1) := by decide +kernel
theorem dX2_seeAnHourOn_0 : decode cX2_seeAnHourOn 0 = .ok (.aload_n 0, 1) := by decide +kernel
theorem dX2_seeAnHourOn_1 : decode cX2_seeAnHourOn 1 = .ok (.getfield 42, 3) := by decide +kernel
theorem dX2_seeAnHourOn_4 : decode cX2_seeAnHourOn 4 = .ok (.iconst 0, 1) := by decide +kernel
theorem dX2_seeAnHourOn_5 : decode cX2_seeAnHourOn 5 = .ok (.aload_n 0, 1) := by decide +kernel
theorem dX2_seeAnHourOn_6 : decode cX2_seeAnHourOn 6 = .ok (.getfield 46, 3) := by decide +kernel
theorem dX2_seeAnHourOn_9 : decode cX2_seeAnHourOn 9 = .ok (.iconst 0, 1) := by decide +kernel
theorem dX2_seeAnHourOn_10 : decode cX2_seeAnHourOn 10 = .ok (.bipush 6, 2) := by decide +kernel
theorem dX2_seeAnHourOn_12 : decode cX2_seeAnHourOn 12 = .ok (.invokestatic 175, 3) := by decide +kernel
theorem dX2_seeAnHourOn_15 : decode cX2_seeAnHourOn 15 = .ok (.iconst 0, 1) := by decide +kernel
theorem dX2_seeAnHourOn_16 : decode cX2_seeAnHourOn 16 = .ok (.istore_n 2, 1) := by decide +kernel
theorem dX2_seeAnHourOn_17 : decode cX2_seeAnHourOn 17 = .ok (.iload_n 2, 1) := by decide +kernel
theorem dX2_seeAnHourOn_18 : decode cX2_seeAnHourOn 18 = .ok (.aload_n 0, 1) := by decide +kernel
theorem dX2_seeAnHourOn_19 : decode cX2_seeAnHourOn 19 = .ok (.getfield 76, 3) := by decide +kernel
theorem dX2_seeAnHourOn_22 : decode cX2_seeAnHourOn 22 = .ok (.if_icmp .ge 57, 3) := by decide +kernel
theorem dX2_seeAnHourOn_25 : decode cX2_seeAnHourOn 25 = .ok (.aload_n 0, 1) := by decide +kernel
theorem dX2_seeAnHourOn_26 : decode cX2_seeAnHourOn 26 = .ok (.getfield 13, 3) := by decide +kernel
theorem dX2_seeAnHourOn_29 : decode cX2_seeAnHourOn 29 = .ok (.iload_n 2, 1) := by decide +kernel
theorem dX2_seeAnHourOn_30 : decode cX2_seeAnHourOn 30 = .ok (.aaload, 1) := by decide +kernel
theorem dX2_seeAnHourOn_31 : decode cX2_seeAnHourOn 31 = .ok (.iload_n 1, 1) := by decide +kernel
theorem dX2_seeAnHourOn_32 : decode cX2_seeAnHourOn 32 = .ok (.aload_n 0, 1) := by decide +kernel
theorem dX2_seeAnHourOn_33 : decode cX2_seeAnHourOn 33 = .ok (.getfield 97, 3) := by decide +kernel
theorem dX2_seeAnHourOn_36 : decode cX2_seeAnHourOn 36 = .ok (.invokevirtual 100, 3) := by decide +kernel
theorem dX2_seeAnHourOn_39 : decode cX2_seeAnHourOn 39 = .ok (.istore_n 3, 1) := by decide +kernel
theorem dX2_seeAnHourOn_40 : decode cX2_seeAnHourOn 40 = .ok (.iload_n 3, 1) := by decide +kernel
theorem dX2_seeAnHourOn_41 : decode cX2_seeAnHourOn 41 = .ok (.bipush (-9), 2) := by decide +kernel
theorem dX2_seeAnHourOn_43 : decode cX2_seeAnHourOn 43 = .ok (.if_icmp .eq 30, 3) := by decide +kernel
theorem dX2_seeAnHourOn_46 : decode cX2_seeAnHourOn 46 = .ok (.aload_n 0, 1) := by decide +kernel
theorem dX2_seeAnHourOn_47 : decode cX2_seeAnHourOn 47 = .ok (.getfield 46, 3) := by decide +kernel
theorem dX2_seeAnHourOn_50 : decode cX2_seeAnHourOn 50 = .ok (.iload_n 3, 1) := by decide +kernel
theorem dX2_seeAnHourOn_51 : decode cX2_seeAnHourOn 51 = .ok (.dup2, 1) := by decide +kernel
theorem dX2_seeAnHourOn_52 : decode cX2_seeAnHourOn 52 = .ok (.laload, 1) := by decide +kernel
theorem dX2_seeAnHourOn_53 : decode cX2_seeAnHourOn 53 = .ok (.aload_n 0, 1) := by decide +kernel
theorem dX2_seeAnHourOn_54 : decode cX2_seeAnHourOn 54 = .ok (.getfield 42, 3) := by decide +kernel
theorem dX2_seeAnHourOn_57 : decode cX2_seeAnHourOn 57 = .ok (.aload_n 0, 1) := by decide +kernel
theorem dX2_seeAnHourOn_58 : decode cX2_seeAnHourOn 58 = .ok (.getfield 13, 3) := by decide +kernel
theorem dX2_seeAnHourOn_61 : decode cX2_seeAnHourOn 61 = .ok (.iload_n 2, 1) := by decide +kernel
theorem dX2_seeAnHourOn_62 : decode cX2_seeAnHourOn 62 = .ok (.aaload, 1) := by decide +kernel
theorem dX2_seeAnHourOn_63 : decode cX2_seeAnHourOn 63 = .ok (.getfield 85, 3) := by decide +kernel
theorem dX2_seeAnHourOn_66 : decode cX2_seeAnHourOn 66 = .ok (.laload, 1) := by decide +kernel
theorem dX2_seeAnHourOn_67 : decode cX2_seeAnHourOn 67 = .ok (.iload_n 3, 1) := by decide +kernel
theorem dX2_seeAnHourOn_68 : decode cX2_seeAnHourOn 68 = .ok (.invokestatic 243, 3) := by decide +kernel
theorem dX2_seeAnHourOn_71 : decode cX2_seeAnHourOn 71 = .ok (.lor, 1) := by decide +kernel
theorem dX2_seeAnHourOn_72 : decode cX2_seeAnHourOn 72 = .ok (.lastore, 1) := by decide +kernel
theorem dX2_seeAnHourOn_73 : decode cX2_seeAnHourOn 73 = .ok (.iinc 2 1, 3) := by decide +kernel
theorem dX2_seeAnHourOn_76 : decode cX2_seeAnHourOn 76 = .ok (.goto (-59), 3) := by decide +kernel
theorem dX2_seeAnHourOn_79 : decode cX2_seeAnHourOn 79 = .ok (.aload_n 0, 1) := by decide +kernel
theorem dX2_seeAnHourOn_80 : decode cX2_seeAnHourOn 80 = .ok (.getfield 46, 3) := by decide +kernel
theorem dX2_seeAnHourOn_83 : decode cX2_seeAnHourOn 83 = .ok (.iconst 0, 1) := by decide +kernel
theorem dX2_seeAnHourOn_84 : decode cX2_seeAnHourOn 84 = .ok (.aload_n 0, 1) := by decide +kernel
theorem dX2_seeAnHourOn_85 : decode cX2_seeAnHourOn 85 = .ok (.getfield 42, 3) := by decide +kernel
theorem dX2_seeAnHourOn_88 : decode cX2_seeAnHourOn 88 = .ok (.iconst 0, 1) := by decide +kernel
theorem dX2_seeAnHourOn_89 : decode cX2_seeAnHourOn 89 = .ok (.bipush 6, 2) := by decide +kernel
theorem dX2_seeAnHourOn_91 : decode cX2_seeAnHourOn 91 = .ok (.invokestatic 175, 3) := by decide +kernel
theorem dX2_seeAnHourOn_94 : decode cX2_seeAnHourOn 94 = .ok (.return_, 1) := by decide +kernel
theorem dX2_eachWith_0 : decode cX2_eachWith 0 = .ok (.lload_n 0, 1) := by decide +kernel
theorem dX2_eachWith_1 : decode cX2_eachWith 1 = .ok (.getstatic 240, 3) := by decide +kernel
theorem dX2_eachWith_4 : decode cX2_eachWith 4 = .ok (.iload_n 2, 1) := by decide +kernel
theorem dX2_eachWith_5 : decode cX2_eachWith 5 = .ok (.laload, 1) := by decide +kernel
theorem dX2_eachWith_6 : decode cX2_eachWith 6 = .ok (.land, 1) := by decide +kernel
theorem dX2_eachWith_7 : decode cX2_eachWith 7 = .ok (.lstore_n 3, 1) := by decide +kernel
theorem dX2_eachWith_8 : decode cX2_eachWith 8 = .ok (.lload_n 0, 1) := by decide +kernel
theorem dX2_eachWith_9 : decode cX2_eachWith 9 = .ok (.getstatic 240, 3) := by decide +kernel
theorem dX2_eachWith_12 : decode cX2_eachWith 12 = .ok (.iload_n 2, 1) := by decide +kernel
theorem dX2_eachWith_13 : decode cX2_eachWith 13 = .ok (.laload, 1) := by decide +kernel
theorem dX2_eachWith_14 : decode cX2_eachWith 14 = .ok (.ldc2_w 238, 3) := by decide +kernel
theorem dX2_eachWith_17 : decode cX2_eachWith 17 = .ok (.lxor, 1) := by decide +kernel
theorem dX2_eachWith_18 : decode cX2_eachWith 18 = .ok (.land, 1) := by decide +kernel
theorem dX2_eachWith_19 : decode cX2_eachWith 19 = .ok (.lstore 5, 2) := by decide +kernel
theorem dX2_eachWith_21 : decode cX2_eachWith 21 = .ok (.lload_n 3, 1) := by decide +kernel
theorem dX2_eachWith_22 : decode cX2_eachWith 22 = .ok (.lload 5, 2) := by decide +kernel
theorem dX2_eachWith_24 : decode cX2_eachWith 24 = .ok (.iconst 1, 1) := by decide +kernel
theorem dX2_eachWith_25 : decode cX2_eachWith 25 = .ok (.iload_n 2, 1) := by decide +kernel
theorem dX2_eachWith_26 : decode cX2_eachWith 26 = .ok (.ishl, 1) := by decide +kernel
theorem dX2_eachWith_27 : decode cX2_eachWith 27 = .ok (.lshl, 1) := by decide +kernel
theorem dX2_eachWith_28 : decode cX2_eachWith 28 = .ok (.lor, 1) := by decide +kernel
theorem dX2_eachWith_29 : decode cX2_eachWith 29 = .ok (.lreturn, 1) := by decide +kernel
theorem dX2_readingsHold_0 : decode cX2_readingsHold 0 = .ok (.iconst 0, 1) := by decide +kernel
theorem dX2_readingsHold_1 : decode cX2_readingsHold 1 = .ok (.istore_n 2, 1) := by decide +kernel
theorem dX2_readingsHold_2 : decode cX2_readingsHold 2 = .ok (.iload_n 2, 1) := by decide +kernel
theorem dX2_readingsHold_3 : decode cX2_readingsHold 3 = .ok (.aload_n 0, 1) := by decide +kernel
theorem dX2_readingsHold_4 : decode cX2_readingsHold 4 = .ok (.getfield 136, 3) := by decide +kernel
theorem dX2_readingsHold_7 : decode cX2_readingsHold 7 = .ok (.if_icmp .ge 63, 3) := by decide +kernel
theorem dX2_readingsHold_10 : decode cX2_readingsHold 10 = .ok (.aload_n 0, 1) := by decide +kernel
theorem dX2_readingsHold_11 : decode cX2_readingsHold 11 = .ok (.getfield 22, 3) := by decide +kernel
theorem dX2_readingsHold_14 : decode cX2_readingsHold 14 = .ok (.iload_n 2, 1) := by decide +kernel
theorem dX2_readingsHold_15 : decode cX2_readingsHold 15 = .ok (.iaload, 1) := by decide +kernel
theorem dX2_readingsHold_16 : decode cX2_readingsHold 16 = .ok (.iload_n 1, 1) := by decide +kernel
theorem dX2_readingsHold_17 : decode cX2_readingsHold 17 = .ok (.if_icmp .ne 10, 3) := by decide +kernel
theorem dX2_readingsHold_20 : decode cX2_readingsHold 20 = .ok (.aload_n 0, 1) := by decide +kernel
theorem dX2_readingsHold_21 : decode cX2_readingsHold 21 = .ok (.getfield 18, 3) := by decide +kernel
theorem dX2_readingsHold_24 : decode cX2_readingsHold 24 = .ok (.goto 14, 3) := by decide +kernel
theorem dX2_readingsHold_27 : decode cX2_readingsHold 27 = .ok (.aload_n 0, 1) := by decide +kernel
theorem dX2_readingsHold_28 : decode cX2_readingsHold 28 = .ok (.getfield 13, 3) := by decide +kernel
theorem dX2_readingsHold_31 : decode cX2_readingsHold 31 = .ok (.aload_n 0, 1) := by decide +kernel
theorem dX2_readingsHold_32 : decode cX2_readingsHold 32 = .ok (.getfield 22, 3) := by decide +kernel
theorem dX2_readingsHold_35 : decode cX2_readingsHold 35 = .ok (.iload_n 2, 1) := by decide +kernel
theorem dX2_readingsHold_36 : decode cX2_readingsHold 36 = .ok (.iaload, 1) := by decide +kernel
theorem dX2_readingsHold_37 : decode cX2_readingsHold 37 = .ok (.aaload, 1) := by decide +kernel
theorem dX2_readingsHold_38 : decode cX2_readingsHold 38 = .ok (.astore_n 3, 1) := by decide +kernel
theorem dX2_readingsHold_39 : decode cX2_readingsHold 39 = .ok (.aload_n 3, 1) := by decide +kernel
theorem dX2_readingsHold_40 : decode cX2_readingsHold 40 = .ok (.aload_n 0, 1) := by decide +kernel
theorem dX2_readingsHold_41 : decode cX2_readingsHold 41 = .ok (.getfield 26, 3) := by decide +kernel
theorem dX2_readingsHold_44 : decode cX2_readingsHold 44 = .ok (.iload_n 2, 1) := by decide +kernel
theorem dX2_readingsHold_45 : decode cX2_readingsHold 45 = .ok (.iaload, 1) := by decide +kernel
theorem dX2_readingsHold_46 : decode cX2_readingsHold 46 = .ok (.aload_n 0, 1) := by decide +kernel
theorem dX2_readingsHold_47 : decode cX2_readingsHold 47 = .ok (.getfield 97, 3) := by decide +kernel
theorem dX2_readingsHold_50 : decode cX2_readingsHold 50 = .ok (.invokevirtual 100, 3) := by decide +kernel
theorem dX2_readingsHold_53 : decode cX2_readingsHold 53 = .ok (.aload_n 0, 1) := by decide +kernel
theorem dX2_readingsHold_54 : decode cX2_readingsHold 54 = .ok (.getfield 29, 3) := by decide +kernel
theorem dX2_readingsHold_57 : decode cX2_readingsHold 57 = .ok (.iload_n 2, 1) := by decide +kernel
theorem dX2_readingsHold_58 : decode cX2_readingsHold 58 = .ok (.iaload, 1) := by decide +kernel
theorem dX2_readingsHold_59 : decode cX2_readingsHold 59 = .ok (.if_icmp .eq 5, 3) := by decide +kernel
theorem dX2_readingsHold_62 : decode cX2_readingsHold 62 = .ok (.iconst 0, 1) := by decide +kernel
theorem dX2_readingsHold_63 : decode cX2_readingsHold 63 = .ok (.ireturn, 1) := by decide +kernel
theorem dX2_readingsHold_64 : decode cX2_readingsHold 64 = .ok (.iinc 2 1, 3) := by decide +kernel
theorem dX2_readingsHold_67 : decode cX2_readingsHold 67 = .ok (.goto (-65), 3) := by decide +kernel
theorem dX2_readingsHold_70 : decode cX2_readingsHold 70 = .ok (.iconst 1, 1) := by decide +kernel
theorem dX2_readingsHold_71 : decode cX2_readingsHold 71 = .ok (.ireturn, 1) := by decide +kernel
theorem dX2_commonWithHours_0 : decode cX2_commonWithHours 0 = .ok (.bipush 12, 2) := by decide +kernel
theorem dX2_commonWithHours_2 : decode cX2_commonWithHours 2 = .ok (.istore_n 1, 1) := by decide +kernel
theorem dX2_commonWithHours_3 : decode cX2_commonWithHours 3 = .ok (.iload_n 1, 1) := by decide +kernel
theorem dX2_commonWithHours_4 : decode cX2_commonWithHours 4 = .ok (.iconst 1, 1) := by decide +kernel
theorem dX2_commonWithHours_5 : decode cX2_commonWithHours 5 = .ok (.if_icmp .le 24, 3) := by decide +kernel
theorem dX2_commonWithHours_8 : decode cX2_commonWithHours 8 = .ok (.bipush 12, 2) := by decide +kernel
theorem dX2_commonWithHours_10 : decode cX2_commonWithHours 10 = .ok (.iload_n 1, 1) := by decide +kernel
theorem dX2_commonWithHours_11 : decode cX2_commonWithHours 11 = .ok (.irem, 1) := by decide +kernel
theorem dX2_commonWithHours_12 : decode cX2_commonWithHours 12 = .ok (.ifCond .ne 11, 3) := by decide +kernel
theorem dX2_commonWithHours_15 : decode cX2_commonWithHours 15 = .ok (.iload_n 0, 1) := by decide +kernel
theorem dX2_commonWithHours_16 : decode cX2_commonWithHours 16 = .ok (.iload_n 1, 1) := by decide +kernel
theorem dX2_commonWithHours_17 : decode cX2_commonWithHours 17 = .ok (.irem, 1) := by decide +kernel
theorem dX2_commonWithHours_18 : decode cX2_commonWithHours 18 = .ok (.ifCond .ne 5, 3) := by decide +kernel
theorem dX2_commonWithHours_21 : decode cX2_commonWithHours 21 = .ok (.iload_n 1, 1) := by decide +kernel
theorem dX2_commonWithHours_22 : decode cX2_commonWithHours 22 = .ok (.ireturn, 1) := by decide +kernel
theorem dX2_commonWithHours_23 : decode cX2_commonWithHours 23 = .ok (.iinc 1 (-1), 3) := by decide +kernel
theorem dX2_commonWithHours_26 : decode cX2_commonWithHours 26 = .ok (.goto (-23), 3) := by decide +kernel
theorem dX2_commonWithHours_29 : decode cX2_commonWithHours 29 = .ok (.iconst 1, 1) := by decide +kernel
theorem dX2_commonWithHours_30 : decode cX2_commonWithHours 30 = .ok (.ireturn, 1) := by decide +kernel
theorem dX2_cutToLane_0 : decode cX2_cutToLane 0 = .ok (.iload_n 1, 1) := by decide +kernel
theorem dX2_cutToLane_1 : decode cX2_cutToLane 1 = .ok (.ifCond .ne 6, 3) := by decide +kernel
theorem dX2_cutToLane_4 : decode cX2_cutToLane 4 = .ok (.iload_n 0, 1) := by decide +kernel
theorem dX2_cutToLane_5 : decode cX2_cutToLane 5 = .ok (.i2b, 1) := by decide +kernel
theorem dX2_cutToLane_6 : decode cX2_cutToLane 6 = .ok (.ireturn, 1) := by decide +kernel
theorem dX2_cutToLane_7 : decode cX2_cutToLane 7 = .ok (.iload_n 1, 1) := by decide +kernel
theorem dX2_cutToLane_8 : decode cX2_cutToLane 8 = .ok (.iconst 1, 1) := by decide +kernel
theorem dX2_cutToLane_9 : decode cX2_cutToLane 9 = .ok (.if_icmp .ne 8, 3) := by decide +kernel
theorem dX2_cutToLane_12 : decode cX2_cutToLane 12 = .ok (.iload_n 0, 1) := by decide +kernel
theorem dX2_cutToLane_13 : decode cX2_cutToLane 13 = .ok (.i2s, 1) := by decide +kernel
theorem dX2_cutToLane_14 : decode cX2_cutToLane 14 = .ok (.goto 4, 3) := by decide +kernel
theorem dX2_cutToLane_17 : decode cX2_cutToLane 17 = .ok (.iload_n 0, 1) := by decide +kernel
theorem dX2_cutToLane_18 : decode cX2_cutToLane 18 = .ok (.ireturn, 1) := by decide +kernel
theorem dX2_leaveNumber_0 : decode cX2_leaveNumber 0 = .ok (.aload_n 0, 1) := by decide +kernel
theorem dX2_leaveNumber_1 : decode cX2_leaveNumber 1 = .ok (.bipush 31, 2) := by decide +kernel
theorem dX2_leaveNumber_3 : decode cX2_leaveNumber 3 = .ok (.aload_n 0, 1) := by decide +kernel
theorem dX2_leaveNumber_4 : decode cX2_leaveNumber 4 = .ok (.getfield 195, 3) := by decide +kernel
theorem dX2_leaveNumber_7 : decode cX2_leaveNumber 7 = .ok (.imul, 1) := by decide +kernel
theorem dX2_leaveNumber_8 : decode cX2_leaveNumber 8 = .ok (.iload_n 1, 1) := by decide +kernel
theorem dX2_leaveNumber_9 : decode cX2_leaveNumber 9 = .ok (.iadd, 1) := by decide +kernel
theorem dX2_leaveNumber_10 : decode cX2_leaveNumber 10 = .ok (.putfield 195, 3) := by decide +kernel
theorem dX2_leaveNumber_13 : decode cX2_leaveNumber 13 = .ok (.return_, 1) := by decide +kernel
theorem dX2_plainTelling_0 : decode cX2_plainTelling 0 = .ok (.aload_n 0, 1) := by decide +kernel
theorem dX2_plainTelling_1 : decode cX2_plainTelling 1 = .ok (.iconst 1, 1) := by decide +kernel
theorem dX2_plainTelling_2 : decode cX2_plainTelling 2 = .ok (.invokevirtual 191, 3) := by decide +kernel
theorem dX2_plainTelling_5 : decode cX2_plainTelling 5 = .ok (.aload_n 1, 1) := by decide +kernel
theorem dX2_plainTelling_6 : decode cX2_plainTelling 6 = .ok (.getfield 91, 3) := by decide +kernel
theorem dX2_plainTelling_9 : decode cX2_plainTelling 9 = .ok (.ireturn, 1) := by decide +kernel
theorem dX2_lateTelling_0 : decode cX2_lateTelling 0 = .ok (.aload_n 0, 1) := by decide +kernel
theorem dX2_lateTelling_1 : decode cX2_lateTelling 1 = .ok (.iconst 2, 1) := by decide +kernel
theorem dX2_lateTelling_2 : decode cX2_lateTelling 2 = .ok (.invokevirtual 191, 3) := by decide +kernel
theorem dX2_lateTelling_5 : decode cX2_lateTelling 5 = .ok (.aload_n 0, 1) := by decide +kernel
theorem dX2_lateTelling_6 : decode cX2_lateTelling 6 = .ok (.aload_n 1, 1) := by decide +kernel
theorem dX2_lateTelling_7 : decode cX2_lateTelling 7 = .ok (.invokevirtual 188, 3) := by decide +kernel
theorem dX2_lateTelling_10 : decode cX2_lateTelling 10 = .ok (.bipush 100, 2) := by decide +kernel
theorem dX2_lateTelling_12 : decode cX2_lateTelling 12 = .ok (.iadd, 1) := by decide +kernel
theorem dX2_lateTelling_13 : decode cX2_lateTelling 13 = .ok (.ireturn, 1) := by decide +kernel
theorem dX2_cupboardTelling_0 : decode cX2_cupboardTelling 0 = .ok (.aload_n 0, 1) := by decide +kernel
theorem dX2_cupboardTelling_1 : decode cX2_cupboardTelling 1 = .ok (.iconst 3, 1) := by decide +kernel
theorem dX2_cupboardTelling_2 : decode cX2_cupboardTelling 2 = .ok (.invokevirtual 191, 3) := by decide +kernel
theorem dX2_cupboardTelling_5 : decode cX2_cupboardTelling 5 = .ok (.aload_n 0, 1) := by decide +kernel
theorem dX2_cupboardTelling_6 : decode cX2_cupboardTelling 6 = .ok (.aload_n 1, 1) := by decide +kernel
theorem dX2_cupboardTelling_7 : decode cX2_cupboardTelling 7 = .ok (.invokevirtual 181, 3) := by decide +kernel
theorem dX2_cupboardTelling_10 : decode cX2_cupboardTelling 10 = .ok (.istore_n 2, 1) := by decide +kernel
theorem dX2_cupboardTelling_11 : decode cX2_cupboardTelling 11 = .ok (.iload_n 2, 1) := by decide +kernel
theorem dX2_cupboardTelling_12 : decode cX2_cupboardTelling 12 = .ok (.aload_n 0, 1) := by decide +kernel
theorem dX2_cupboardTelling_13 : decode cX2_cupboardTelling 13 = .ok (.aload_n 1, 1) := by decide +kernel
theorem dX2_cupboardTelling_14 : decode cX2_cupboardTelling 14 = .ok (.invokevirtual 188, 3) := by decide +kernel
theorem dX2_cupboardTelling_17 : decode cX2_cupboardTelling 17 = .ok (.iadd, 1) := by decide +kernel
theorem dX2_cupboardTelling_18 : decode cX2_cupboardTelling 18 = .ok (.ireturn, 1) := by decide +kernel
theorem dJ7_fill_d0a16_0 : decode cJ7_fill_d0a16 0 = .ok (.iconst 0, 1) := by decide +kernel
theorem dJ7_fill_d0a16_1 : decode cJ7_fill_d0a16 1 = .ok (.istore_n 3, 1) := by decide +kernel
theorem dJ7_fill_d0a16_2 : decode cJ7_fill_d0a16 2 = .ok (.aload_n 0, 1) := by decide +kernel
theorem dJ7_fill_d0a16_3 : decode cJ7_fill_d0a16 3 = .ok (.arraylength, 1) := by decide +kernel
theorem dJ7_fill_d0a16_4 : decode cJ7_fill_d0a16 4 = .ok (.istore 4, 2) := by decide +kernel
theorem dJ7_fill_d0a16_6 : decode cJ7_fill_d0a16 6 = .ok (.iload_n 3, 1) := by decide +kernel
theorem dJ7_fill_d0a16_7 : decode cJ7_fill_d0a16 7 = .ok (.iload 4, 2) := by decide +kernel
theorem dJ7_fill_d0a16_9 : decode cJ7_fill_d0a16 9 = .ok (.if_icmp .ge 13, 3) := by decide +kernel
theorem dJ7_fill_d0a16_12 : decode cJ7_fill_d0a16 12 = .ok (.aload_n 0, 1) := by decide +kernel
theorem dJ7_fill_d0a16_13 : decode cJ7_fill_d0a16 13 = .ok (.iload_n 3, 1) := by decide +kernel
theorem dJ7_fill_d0a16_14 : decode cJ7_fill_d0a16 14 = .ok (.lload_n 1, 1) := by decide +kernel
theorem dJ7_fill_d0a16_15 : decode cJ7_fill_d0a16 15 = .ok (.lastore, 1) := by decide +kernel
theorem dJ7_fill_d0a16_16 : decode cJ7_fill_d0a16 16 = .ok (.iinc 3 1, 3) := by decide +kernel
theorem dJ7_fill_d0a16_19 : decode cJ7_fill_d0a16 19 = .ok (.goto (-13), 3) := by decide +kernel
theorem dJ7_fill_d0a16_22 : decode cJ7_fill_d0a16 22 = .ok (.return_, 1) := by decide +kernel
theorem dJ7_fill_53178_0 : decode cJ7_fill_53178 0 = .ok (.iconst 0, 1) := by decide +kernel
theorem dJ7_fill_53178_1 : decode cJ7_fill_53178 1 = .ok (.istore_n 2, 1) := by decide +kernel
theorem dJ7_fill_53178_2 : decode cJ7_fill_53178 2 = .ok (.aload_n 0, 1) := by decide +kernel
theorem dJ7_fill_53178_3 : decode cJ7_fill_53178 3 = .ok (.arraylength, 1) := by decide +kernel
theorem dJ7_fill_53178_4 : decode cJ7_fill_53178 4 = .ok (.istore_n 3, 1) := by decide +kernel
theorem dJ7_fill_53178_5 : decode cJ7_fill_53178 5 = .ok (.iload_n 2, 1) := by decide +kernel
theorem dJ7_fill_53178_6 : decode cJ7_fill_53178 6 = .ok (.iload_n 3, 1) := by decide +kernel
theorem dJ7_fill_53178_7 : decode cJ7_fill_53178 7 = .ok (.if_icmp .ge 13, 3) := by decide +kernel
theorem dJ7_fill_53178_10 : decode cJ7_fill_53178 10 = .ok (.aload_n 0, 1) := by decide +kernel
theorem dJ7_fill_53178_11 : decode cJ7_fill_53178 11 = .ok (.iload_n 2, 1) := by decide +kernel
theorem dJ7_fill_53178_12 : decode cJ7_fill_53178 12 = .ok (.iload_n 1, 1) := by decide +kernel
theorem dJ7_fill_53178_13 : decode cJ7_fill_53178 13 = .ok (.iastore, 1) := by decide +kernel
theorem dJ7_fill_53178_14 : decode cJ7_fill_53178 14 = .ok (.iinc 2 1, 3) := by decide +kernel
theorem dJ7_fill_53178_17 : decode cJ7_fill_53178 17 = .ok (.goto (-12), 3) := by decide +kernel
theorem dJ7_fill_53178_20 : decode cJ7_fill_53178 20 = .ok (.return_, 1) := by decide +kernel
end
section
theorem dX3_init_0 : decode cX3_init 0 = .ok (.aload_n 0, 1) := by decide +kernel
theorem dX3_init_1 : decode cX3_init 1 = .ok (.invokespecial 1, 3) := by decide +kernel
theorem dX3_init_4 : decode cX3_init 4 = .ok (.aload_n 0, 1) := by decide +kernel
theorem dX3_init_5 : decode cX3_init 5 = .ok (.bipush 8, 2) := by decide +kernel
theorem dX3_init_7 : decode cX3_init 7 = .ok (.newarray .int, 2) := by decide +kernel
theorem dX3_init_9 : decode cX3_init 9 = .ok (.putfield 7, 3) := by decide +kernel
theorem dX3_init_12 : decode cX3_init 12 = .ok (.aload_n 0, 1) := by decide +kernel
theorem dX3_init_13 : decode cX3_init 13 = .ok (.bipush 8, 2) := by decide +kernel
theorem dX3_init_15 : decode cX3_init 15 = .ok (.newarray .int, 2) := by decide +kernel
theorem dX3_init_17 : decode cX3_init 17 = .ok (.putfield 13, 3) := by decide +kernel
theorem dX3_init_20 : decode cX3_init 20 = .ok (.aload_n 0, 1) := by decide +kernel
theorem dX3_init_21 : decode cX3_init 21 = .ok (.bipush 8, 2) := by decide +kernel
theorem dX3_init_23 : decode cX3_init 23 = .ok (.newarray .int, 2) := by decide +kernel
theorem dX3_init_25 : decode cX3_init 25 = .ok (.putfield 16, 3) := by decide +kernel
theorem dX3_init_28 : decode cX3_init 28 = .ok (.aload_n 0, 1) := by decide +kernel
theorem dX3_init_29 : decode cX3_init 29 = .ok (.bipush 8, 2) := by decide +kernel
theorem dX3_init_31 : decode cX3_init 31 = .ok (.newarray .int, 2) := by decide +kernel
theorem dX3_init_33 : decode cX3_init 33 = .ok (.putfield 19, 3) := by decide +kernel
theorem dX3_init_36 : decode cX3_init 36 = .ok (.aload_n 0, 1) := by decide +kernel
theorem dX3_init_37 : decode cX3_init 37 = .ok (.bipush (-9), 2) := by decide +kernel
theorem dX3_init_39 : decode cX3_init 39 = .ok (.putfield 22, 3) := by decide +kernel
theorem dX3_init_42 : decode cX3_init 42 = .ok (.aload_n 0, 1) := by decide +kernel
theorem dX3_init_43 : decode cX3_init 43 = .ok (.bipush 8, 2) := by decide +kernel
theorem dX3_init_45 : decode cX3_init 45 = .ok (.newarray .int, 2) := by decide +kernel
theorem dX3_init_47 : decode cX3_init 47 = .ok (.putfield 26, 3) := by decide +kernel
theorem dX3_init_50 : decode cX3_init 50 = .ok (.aload_n 0, 1) := by decide +kernel
theorem dX3_init_51 : decode cX3_init 51 = .ok (.bipush 8, 2) := by decide +kernel
theorem dX3_init_53 : decode cX3_init 53 = .ok (.newarray .int, 2) := by decide +kernel
theorem dX3_init_55 : decode cX3_init 55 = .ok (.putfield 29, 3) := by decide +kernel
theorem dX3_init_58 : decode cX3_init 58 = .ok (.aload_n 0, 1) := by decide +kernel
theorem dX3_init_59 : decode cX3_init 59 = .ok (.bipush 8, 2) := by decide +kernel
theorem dX3_init_61 : decode cX3_init 61 = .ok (.newarray .int, 2) := by decide +kernel
theorem dX3_init_63 : decode cX3_init 63 = .ok (.putfield 32, 3) := by decide +kernel
theorem dX3_init_66 : decode cX3_init 66 = .ok (.aload_n 0, 1) := by decide +kernel
theorem dX3_init_67 : decode cX3_init 67 = .ok (.bipush 8, 2) := by decide +kernel
theorem dX3_init_69 : decode cX3_init 69 = .ok (.newarray .int, 2) := by decide +kernel
theorem dX3_init_71 : decode cX3_init 71 = .ok (.putfield 35, 3) := by decide +kernel
theorem dX3_init_74 : decode cX3_init 74 = .ok (.aload_n 0, 1) := by decide +kernel
theorem dX3_init_75 : decode cX3_init 75 = .ok (.bipush 64, 2) := by decide +kernel
theorem dX3_init_77 : decode cX3_init 77 = .ok (.newarray .int, 2) := by decide +kernel
theorem dX3_init_79 : decode cX3_init 79 = .ok (.putfield 38, 3) := by decide +kernel
theorem dX3_init_82 : decode cX3_init 82 = .ok (.aload_n 0, 1) := by decide +kernel
theorem dX3_init_83 : decode cX3_init 83 = .ok (.bipush 64, 2) := by decide +kernel
theorem dX3_init_85 : decode cX3_init 85 = .ok (.newarray .int, 2) := by decide +kernel
theorem dX3_init_87 : decode cX3_init 87 = .ok (.putfield 41, 3) := by decide +kernel
theorem dX3_init_90 : decode cX3_init 90 = .ok (.aload_n 0, 1) := by decide +kernel
theorem dX3_init_91 : decode cX3_init 91 = .ok (.bipush 8, 2) := by decide +kernel
theorem dX3_init_93 : decode cX3_init 93 = .ok (.newarray .int, 2) := by decide +kernel
theorem dX3_init_95 : decode cX3_init 95 = .ok (.putfield 44, 3) := by decide +kernel
theorem dX3_init_98 : decode cX3_init 98 = .ok (.aload_n 0, 1) := by decide +kernel
theorem dX3_init_99 : decode cX3_init 99 = .ok (.bipush 8, 2) := by decide +kernel
theorem dX3_init_101 : decode cX3_init 101 = .ok (.newarray .int, 2) := by decide +kernel
theorem dX3_init_103 : decode cX3_init 103 = .ok (.putfield 47, 3) := by decide +kernel
theorem dX3_init_106 : decode cX3_init 106 = .ok (.aload_n 0, 1) := by decide +kernel
theorem dX3_init_107 : decode cX3_init 107 = .ok (.bipush 8, 2) := by decide +kernel
theorem dX3_init_109 : decode cX3_init 109 = .ok (.newarray .int, 2) := by decide +kernel
theorem dX3_init_111 : decode cX3_init 111 = .ok (.putfield 50, 3) := by decide +kernel
theorem dX3_init_114 : decode cX3_init 114 = .ok (.aload_n 0, 1) := by decide +kernel
theorem dX3_init_115 : decode cX3_init 115 = .ok (.iconst 4, 1) := by decide +kernel
theorem dX3_init_116 : decode cX3_init 116 = .ok (.newarray .int, 2) := by decide +kernel
theorem dX3_init_118 : decode cX3_init 118 = .ok (.putfield 53, 3) := by decide +kernel
theorem dX3_init_121 : decode cX3_init 121 = .ok (.aload_n 0, 1) := by decide +kernel
theorem dX3_init_122 : decode cX3_init 122 = .ok (.iconst 4, 1) := by decide +kernel
theorem dX3_init_123 : decode cX3_init 123 = .ok (.newarray .int, 2) := by decide +kernel
theorem dX3_init_125 : decode cX3_init 125 = .ok (.putfield 56, 3) := by decide +kernel
theorem dX3_init_128 : decode cX3_init 128 = .ok (.aload_n 0, 1) := by decide +kernel
theorem dX3_init_129 : decode cX3_init 129 = .ok (.sipush 240, 3) := by decide +kernel
theorem dX3_init_132 : decode cX3_init 132 = .ok (.newarray .int, 2) := by decide +kernel
theorem dX3_init_134 : decode cX3_init 134 = .ok (.putfield 59, 3) := by decide +kernel
theorem dX3_init_137 : decode cX3_init 137 = .ok (.aload_n 0, 1) := by decide +kernel
theorem dX3_init_138 : decode cX3_init 138 = .ok (.bipush 60, 2) := by decide +kernel
theorem dX3_init_140 : decode cX3_init 140 = .ok (.newarray .int, 2) := by decide +kernel
theorem dX3_init_142 : decode cX3_init 142 = .ok (.putfield 62, 3) := by decide +kernel
theorem dX3_init_145 : decode cX3_init 145 = .ok (.iconst 0, 1) := by decide +kernel
theorem dX3_init_146 : decode cX3_init 146 = .ok (.istore_n 1, 1) := by decide +kernel
theorem dX3_init_147 : decode cX3_init 147 = .ok (.iload_n 1, 1) := by decide +kernel
theorem dX3_init_148 : decode cX3_init 148 = .ok (.iconst 4, 1) := by decide +kernel
theorem dX3_init_149 : decode cX3_init 149 = .ok (.if_icmp .ge 16, 3) := by decide +kernel
theorem dX3_init_152 : decode cX3_init 152 = .ok (.aload_n 0, 1) := by decide +kernel
theorem dX3_init_153 : decode cX3_init 153 = .ok (.getfield 53, 3) := by decide +kernel
theorem dX3_init_156 : decode cX3_init 156 = .ok (.iload_n 1, 1) := by decide +kernel
theorem dX3_init_157 : decode cX3_init 157 = .ok (.iconst (-1), 1) := by decide +kernel
theorem dX3_init_158 : decode cX3_init 158 = .ok (.iastore, 1) := by decide +kernel
theorem dX3_init_159 : decode cX3_init 159 = .ok (.iinc 1 1, 3) := by decide +kernel
theorem dX3_init_162 : decode cX3_init 162 = .ok (.goto (-15), 3) := by decide +kernel
theorem dX3_init_165 : decode cX3_init 165 = .ok (.return_, 1) := by decide +kernel
theorem dX3_in_0 : decode cX3_in 0 = .ok (.lload_n 0, 1) := by decide +kernel
theorem dX3_in_1 : decode cX3_in 1 = .ok (.lload_n 2, 1) := by decide +kernel
theorem dX3_in_2 : decode cX3_in 2 = .ok (.lcmp, 1) := by decide +kernel
theorem dX3_in_3 : decode cX3_in 3 = .ok (.ifCond .lt 14, 3) := by decide +kernel
theorem dX3_in_6 : decode cX3_in 6 = .ok (.lload_n 0, 1) := by decide +kernel
theorem dX3_in_7 : decode cX3_in 7 = .ok (.lload 4, 2) := by decide +kernel
theorem dX3_in_9 : decode cX3_in 9 = .ok (.lcmp, 1) := by decide +kernel
theorem dX3_in_10 : decode cX3_in 10 = .ok (.ifCond .gt 7, 3) := by decide +kernel
theorem dX3_in_13 : decode cX3_in 13 = .ok (.iconst 1, 1) := by decide +kernel
theorem dX3_in_14 : decode cX3_in 14 = .ok (.goto 4, 3) := by decide +kernel
theorem dX3_in_17 : decode cX3_in 17 = .ok (.iconst 0, 1) := by decide +kernel
theorem dX3_in_18 : decode cX3_in 18 = .ok (.ireturn, 1) := by decide +kernel
theorem dX3_lost_0 : decode cX3_lost 0 = .ok (.ldc2_w 65, 3) := by decide +kernel
theorem dX3_lost_3 : decode cX3_lost 3 = .ok (.lreturn, 1) := by decide +kernel
theorem dX3_isIn_0 : decode cX3_isIn 0 = .ok (.iload_n 0, 1) := by decide +kernel
theorem dX3_isIn_1 : decode cX3_isIn 1 = .ok (.iload_n 1, 1) := by decide +kernel
theorem dX3_isIn_2 : decode cX3_isIn 2 = .ok (.ishr, 1) := by decide +kernel
theorem dX3_isIn_3 : decode cX3_isIn 3 = .ok (.iconst 1, 1) := by decide +kernel
theorem dX3_isIn_4 : decode cX3_isIn 4 = .ok (.iand, 1) := by decide +kernel
theorem dX3_isIn_5 : decode cX3_isIn 5 = .ok (.iconst 1, 1) := by decide +kernel
theorem dX3_isIn_6 : decode cX3_isIn 6 = .ok (.if_icmp .ne 7, 3) := by decide +kernel
theorem dX3_isIn_9 : decode cX3_isIn 9 = .ok (.iconst 1, 1) := by decide +kernel
theorem dX3_isIn_10 : decode cX3_isIn 10 = .ok (.goto 4, 3) := by decide +kernel
theorem dX3_isIn_13 : decode cX3_isIn 13 = .ok (.iconst 0, 1) := by decide +kernel
theorem dX3_isIn_14 : decode cX3_isIn 14 = .ok (.ireturn, 1) := by decide +kernel
theorem dX3_share_0 : decode cX3_share 0 = .ok (.lload_n 0, 1) := by decide +kernel
theorem dX3_share_1 : decode cX3_share 1 = .ok (.lstore 5, 2) := by decide +kernel
theorem dX3_share_3 : decode cX3_share 3 = .ok (.lload_n 2, 1) := by decide +kernel
theorem dX3_share_4 : decode cX3_share 4 = .ok (.lstore 7, 2) := by decide +kernel
theorem dX3_share_6 : decode cX3_share 6 = .ok (.lload 7, 2) := by decide +kernel
theorem dX3_share_8 : decode cX3_share 8 = .ok (.lconst 0, 1) := by decide +kernel
theorem dX3_share_9 : decode cX3_share 9 = .ok (.lcmp, 1) := by decide +kernel
theorem dX3_share_10 : decode cX3_share 10 = .ok (.ifCond .eq 21, 3) := by decide +kernel
theorem dX3_share_13 : decode cX3_share 13 = .ok (.lload 5, 2) := by decide +kernel
theorem dX3_share_15 : decode cX3_share 15 = .ok (.lload 7, 2) := by decide +kernel
theorem dX3_share_17 : decode cX3_share 17 = .ok (.lrem, 1) := by decide +kernel
theorem dX3_share_18 : decode cX3_share 18 = .ok (.lstore 9, 2) := by decide +kernel
theorem dX3_share_20 : decode cX3_share 20 = .ok (.lload 7, 2) := by decide +kernel
theorem dX3_share_22 : decode cX3_share 22 = .ok (.lstore 5, 2) := by decide +kernel
theorem dX3_share_24 : decode cX3_share 24 = .ok (.lload 9, 2) := by decide +kernel
theorem dX3_share_26 : decode cX3_share 26 = .ok (.lstore 7, 2) := by decide +kernel
theorem dX3_share_28 : decode cX3_share 28 = .ok (.goto (-22), 3) := by decide +kernel
theorem dX3_share_31 : decode cX3_share 31 = .ok (.iload 4, 2) := by decide +kernel
theorem dX3_share_33 : decode cX3_share 33 = .ok (.ifCond .ne 7, 3) := by decide +kernel
theorem dX3_share_36 : decode cX3_share 36 = .ok (.lload_n 0, 1) := by decide +kernel
theorem dX3_share_37 : decode cX3_share 37 = .ok (.goto 4, 3) := by decide +kernel
theorem dX3_share_40 : decode cX3_share 40 = .ok (.lload_n 2, 1) := by decide +kernel
theorem dX3_share_41 : decode cX3_share 41 = .ok (.lload 5, 2) := by decide +kernel
theorem dX3_share_43 : decode cX3_share 43 = .ok (.ldiv, 1) := by decide +kernel
theorem dX3_share_44 : decode cX3_share 44 = .ok (.lreturn, 1) := by decide +kernel
theorem dX3_refused_0 : decode cX3_refused 0 = .ok (.aload_n 0, 1) := by decide +kernel
theorem dX3_refused_1 : decode cX3_refused 1 = .ok (.iconst 0, 1) := by decide +kernel
theorem dX3_refused_2 : decode cX3_refused 2 = .ok (.putfield 67, 3) := by decide +kernel
theorem dX3_refused_5 : decode cX3_refused 5 = .ok (.iload_n 1, 1) := by decide +kernel
theorem dX3_refused_6 : decode cX3_refused 6 = .ok (.ireturn, 1) := by decide +kernel
theorem dX3_failed_0 : decode cX3_failed 0 = .ok (.aload_n 0, 1) := by decide +kernel
theorem dX3_failed_1 : decode cX3_failed 1 = .ok (.iload_n 1, 1) := by decide +kernel
theorem dX3_failed_2 : decode cX3_failed 2 = .ok (.putfield 67, 3) := by decide +kernel
theorem dX3_failed_5 : decode cX3_failed 5 = .ok (.bipush (-10), 2) := by decide +kernel
theorem dX3_failed_7 : decode cX3_failed 7 = .ok (.iload_n 1, 1) := by decide +kernel
theorem dX3_failed_8 : decode cX3_failed 8 = .ok (.isub, 1) := by decide +kernel
theorem dX3_failed_9 : decode cX3_failed 9 = .ok (.ireturn, 1) := by decide +kernel
theorem dX3_failedLong_0 : decode cX3_failedLong 0 = .ok (.aload_n 0, 1) := by decide +kernel
theorem dX3_failedLong_1 : decode cX3_failedLong 1 = .ok (.iload_n 1, 1) := by decide +kernel
theorem dX3_failedLong_2 : decode cX3_failedLong 2 = .ok (.putfield 67, 3) := by decide +kernel
theorem dX3_failedLong_5 : decode cX3_failedLong 5 = .ok (.invokestatic 70, 3) := by decide +kernel
theorem dX3_failedLong_8 : decode cX3_failedLong 8 = .ok (.lreturn, 1) := by decide +kernel
theorem dX3_noRoom_0 : decode cX3_noRoom 0 = .ok (.iload_n 1, 1) := by decide +kernel
theorem dX3_noRoom_1 : decode cX3_noRoom 1 = .ok (.i2l, 1) := by decide +kernel
theorem dX3_noRoom_2 : decode cX3_noRoom 2 = .ok (.lconst 0, 1) := by decide +kernel
theorem dX3_noRoom_3 : decode cX3_noRoom 3 = .ok (.aload_n 0, 1) := by decide +kernel
theorem dX3_noRoom_4 : decode cX3_noRoom 4 = .ok (.getfield 74, 3) := by decide +kernel
theorem dX3_noRoom_7 : decode cX3_noRoom 7 = .ok (.i2l, 1) := by decide +kernel
theorem dX3_noRoom_8 : decode cX3_noRoom 8 = .ok (.lconst 1, 1) := by decide +kernel
theorem dX3_noRoom_9 : decode cX3_noRoom 9 = .ok (.lsub, 1) := by decide +kernel
theorem dX3_noRoom_10 : decode cX3_noRoom 10 = .ok (.invokestatic 77, 3) := by decide +kernel
theorem dX3_noRoom_13 : decode cX3_noRoom 13 = .ok (.ifCond .ne 7, 3) := by decide +kernel
theorem dX3_noRoom_16 : decode cX3_noRoom 16 = .ok (.iconst 1, 1) := by decide +kernel
theorem dX3_noRoom_17 : decode cX3_noRoom 17 = .ok (.goto 4, 3) := by decide +kernel
theorem dX3_noRoom_20 : decode cX3_noRoom 20 = .ok (.iconst 0, 1) := by decide +kernel
theorem dX3_noRoom_21 : decode cX3_noRoom 21 = .ok (.ireturn, 1) := by decide +kernel
theorem dX3_noDoor_0 : decode cX3_noDoor 0 = .ok (.iload_n 1, 1) := by decide +kernel
theorem dX3_noDoor_1 : decode cX3_noDoor 1 = .ok (.i2l, 1) := by decide +kernel
theorem dX3_noDoor_2 : decode cX3_noDoor 2 = .ok (.lconst 0, 1) := by decide +kernel
theorem dX3_noDoor_3 : decode cX3_noDoor 3 = .ok (.aload_n 0, 1) := by decide +kernel
theorem dX3_noDoor_4 : decode cX3_noDoor 4 = .ok (.getfield 81, 3) := by decide +kernel
theorem dX3_noDoor_7 : decode cX3_noDoor 7 = .ok (.i2l, 1) := by decide +kernel
theorem dX3_noDoor_8 : decode cX3_noDoor 8 = .ok (.lconst 1, 1) := by decide +kernel
theorem dX3_noDoor_9 : decode cX3_noDoor 9 = .ok (.lsub, 1) := by decide +kernel
theorem dX3_noDoor_10 : decode cX3_noDoor 10 = .ok (.invokestatic 77, 3) := by decide +kernel
theorem dX3_noDoor_13 : decode cX3_noDoor 13 = .ok (.ifCond .ne 7, 3) := by decide +kernel
theorem dX3_noDoor_16 : decode cX3_noDoor 16 = .ok (.iconst 1, 1) := by decide +kernel
theorem dX3_noDoor_17 : decode cX3_noDoor 17 = .ok (.goto 4, 3) := by decide +kernel
theorem dX3_noDoor_20 : decode cX3_noDoor 20 = .ok (.iconst 0, 1) := by decide +kernel
theorem dX3_noDoor_21 : decode cX3_noDoor 21 = .ok (.ireturn, 1) := by decide +kernel
theorem dX3_noHour_0 : decode cX3_noHour 0 = .ok (.iload_n 0, 1) := by decide +kernel
theorem dX3_noHour_1 : decode cX3_noHour 1 = .ok (.i2l, 1) := by decide +kernel
theorem dX3_noHour_2 : decode cX3_noHour 2 = .ok (.lconst 0, 1) := by decide +kernel
theorem dX3_noHour_3 : decode cX3_noHour 3 = .ok (.ldc2_w 84, 3) := by decide +kernel
theorem dX3_noHour_6 : decode cX3_noHour 6 = .ok (.invokestatic 77, 3) := by decide +kernel
theorem dX3_noHour_9 : decode cX3_noHour 9 = .ok (.ifCond .ne 7, 3) := by decide +kernel
theorem dX3_noHour_12 : decode cX3_noHour 12 = .ok (.iconst 1, 1) := by decide +kernel
theorem dX3_noHour_13 : decode cX3_noHour 13 = .ok (.goto 4, 3) := by decide +kernel
theorem dX3_noHour_16 : decode cX3_noHour 16 = .ok (.iconst 0, 1) := by decide +kernel
theorem dX3_noHour_17 : decode cX3_noHour 17 = .ok (.ireturn, 1) := by decide +kernel
theorem dX3_codeAt_0 : decode cX3_codeAt 0 = .ok (.aload_n 0, 1) := by decide +kernel
theorem dX3_codeAt_1 : decode cX3_codeAt 1 = .ok (.getfield 86, 3) := by decide +kernel
theorem dX3_codeAt_4 : decode cX3_codeAt 4 = .ok (.iload_n 2, 1) := by decide +kernel
theorem dX3_codeAt_5 : decode cX3_codeAt 5 = .ok (.if_icmp .ge 17, 3) := by decide +kernel
theorem dX3_codeAt_8 : decode cX3_codeAt 8 = .ok (.aload_n 0, 1) := by decide +kernel
theorem dX3_codeAt_9 : decode cX3_codeAt 9 = .ok (.getfield 59, 3) := by decide +kernel
theorem dX3_codeAt_12 : decode cX3_codeAt 12 = .ok (.iload_n 1, 1) := by decide +kernel
theorem dX3_codeAt_13 : decode cX3_codeAt 13 = .ok (.aload_n 0, 1) := by decide +kernel
theorem dX3_codeAt_14 : decode cX3_codeAt 14 = .ok (.getfield 86, 3) := by decide +kernel
theorem dX3_codeAt_17 : decode cX3_codeAt 17 = .ok (.iadd, 1) := by decide +kernel
theorem dX3_codeAt_18 : decode cX3_codeAt 18 = .ok (.iaload, 1) := by decide +kernel
theorem dX3_codeAt_19 : decode cX3_codeAt 19 = .ok (.goto 5, 3) := by decide +kernel
theorem dX3_codeAt_22 : decode cX3_codeAt 22 = .ok (.bipush (-9), 2) := by decide +kernel
theorem dX3_codeAt_24 : decode cX3_codeAt 24 = .ok (.ireturn, 1) := by decide +kernel
theorem dX3_figure_0 : decode cX3_figure 0 = .ok (.aload_n 0, 1) := by decide +kernel
theorem dX3_figure_1 : decode cX3_figure 1 = .ok (.iload_n 1, 1) := by decide +kernel
theorem dX3_figure_2 : decode cX3_figure 2 = .ok (.iload_n 2, 1) := by decide +kernel
theorem dX3_figure_3 : decode cX3_figure 3 = .ok (.invokevirtual 89, 3) := by decide +kernel
theorem dX3_figure_6 : decode cX3_figure 6 = .ok (.bipush 48, 2) := by decide +kernel
theorem dX3_figure_8 : decode cX3_figure 8 = .ok (.isub, 1) := by decide +kernel
theorem dX3_figure_9 : decode cX3_figure 9 = .ok (.istore 5, 2) := by decide +kernel
theorem dX3_figure_11 : decode cX3_figure 11 = .ok (.iload 5, 2) := by decide +kernel
theorem dX3_figure_13 : decode cX3_figure 13 = .ok (.i2l, 1) := by decide +kernel
theorem dX3_figure_14 : decode cX3_figure 14 = .ok (.iload_n 3, 1) := by decide +kernel
theorem dX3_figure_15 : decode cX3_figure 15 = .ok (.i2l, 1) := by decide +kernel
theorem dX3_figure_16 : decode cX3_figure 16 = .ok (.iload 4, 2) := by decide +kernel
theorem dX3_figure_18 : decode cX3_figure 18 = .ok (.i2l, 1) := by decide +kernel
theorem dX3_figure_19 : decode cX3_figure 19 = .ok (.invokestatic 77, 3) := by decide +kernel
theorem dX3_figure_22 : decode cX3_figure 22 = .ok (.istore 6, 2) := by decide +kernel
theorem dX3_figure_24 : decode cX3_figure 24 = .ok (.aload_n 0, 1) := by decide +kernel
theorem dX3_figure_25 : decode cX3_figure 25 = .ok (.dup, 1) := by decide +kernel
theorem dX3_figure_26 : decode cX3_figure 26 = .ok (.getfield 86, 3) := by decide +kernel
theorem dX3_figure_29 : decode cX3_figure 29 = .ok (.iload 6, 2) := by decide +kernel
theorem dX3_figure_31 : decode cX3_figure 31 = .ok (.ifCond .eq 7, 3) := by decide +kernel
theorem dX3_figure_34 : decode cX3_figure 34 = .ok (.iconst 1, 1) := by decide +kernel
theorem dX3_figure_35 : decode cX3_figure 35 = .ok (.goto 4, 3) := by decide +kernel
theorem dX3_figure_38 : decode cX3_figure 38 = .ok (.iconst 0, 1) := by decide +kernel
theorem dX3_figure_39 : decode cX3_figure 39 = .ok (.iadd, 1) := by decide +kernel
theorem dX3_figure_40 : decode cX3_figure 40 = .ok (.putfield 86, 3) := by decide +kernel
theorem dX3_figure_43 : decode cX3_figure 43 = .ok (.iload 6, 2) := by decide +kernel
theorem dX3_figure_45 : decode cX3_figure 45 = .ok (.ifCond .eq 8, 3) := by decide +kernel
theorem dX3_figure_48 : decode cX3_figure 48 = .ok (.iload 5, 2) := by decide +kernel
theorem dX3_figure_50 : decode cX3_figure 50 = .ok (.goto 5, 3) := by decide +kernel
theorem dX3_figure_53 : decode cX3_figure 53 = .ok (.bipush (-9), 2) := by decide +kernel
theorem dX3_figure_55 : decode cX3_figure 55 = .ok (.ireturn, 1) := by decide +kernel
theorem dX3_readsDoor_0 : decode cX3_readsDoor 0 = .ok (.aload_n 0, 1) := by decide +kernel
theorem dX3_readsDoor_1 : decode cX3_readsDoor 1 = .ok (.getfield 93, 3) := by decide +kernel
theorem dX3_readsDoor_4 : decode cX3_readsDoor 4 = .ok (.bipush 8, 2) := by decide +kernel
theorem dX3_readsDoor_6 : decode cX3_readsDoor 6 = .ok (.if_icmp .eq 14, 3) := by decide +kernel
theorem dX3_readsDoor_9 : decode cX3_readsDoor 9 = .ok (.aload_n 0, 1) := by decide +kernel
theorem dX3_readsDoor_10 : decode cX3_readsDoor 10 = .ok (.iload_n 1, 1) := by decide +kernel
theorem dX3_readsDoor_11 : decode cX3_readsDoor 11 = .ok (.iload_n 2, 1) := by decide +kernel
theorem dX3_readsDoor_12 : decode cX3_readsDoor 12 = .ok (.invokevirtual 89, 3) := by decide +kernel
theorem dX3_readsDoor_15 : decode cX3_readsDoor 15 = .ok (.bipush 59, 2) := by decide +kernel
theorem dX3_readsDoor_17 : decode cX3_readsDoor 17 = .ok (.if_icmp .eq 5, 3) := by decide +kernel
theorem dX3_readsDoor_20 : decode cX3_readsDoor 20 = .ok (.iconst 0, 1) := by decide +kernel
theorem dX3_readsDoor_21 : decode cX3_readsDoor 21 = .ok (.ireturn, 1) := by decide +kernel
theorem dX3_readsDoor_22 : decode cX3_readsDoor 22 = .ok (.aload_n 0, 1) := by decide +kernel
theorem dX3_readsDoor_23 : decode cX3_readsDoor 23 = .ok (.dup, 1) := by decide +kernel
theorem dX3_readsDoor_24 : decode cX3_readsDoor 24 = .ok (.getfield 86, 3) := by decide +kernel
theorem dX3_readsDoor_27 : decode cX3_readsDoor 27 = .ok (.iconst 1, 1) := by decide +kernel
theorem dX3_readsDoor_28 : decode cX3_readsDoor 28 = .ok (.iadd, 1) := by decide +kernel
theorem dX3_readsDoor_29 : decode cX3_readsDoor 29 = .ok (.putfield 86, 3) := by decide +kernel
theorem dX3_readsDoor_32 : decode cX3_readsDoor 32 = .ok (.aload_n 0, 1) := by decide +kernel
theorem dX3_readsDoor_33 : decode cX3_readsDoor 33 = .ok (.iload_n 1, 1) := by decide +kernel
theorem dX3_readsDoor_34 : decode cX3_readsDoor 34 = .ok (.iload_n 2, 1) := by decide +kernel
theorem dX3_readsDoor_35 : decode cX3_readsDoor 35 = .ok (.invokevirtual 89, 3) := by decide +kernel
theorem dX3_readsDoor_38 : decode cX3_readsDoor 38 = .ok (.istore_n 3, 1) := by decide +kernel
theorem dX3_readsDoor_39 : decode cX3_readsDoor 39 = .ok (.iload_n 3, 1) := by decide +kernel
theorem dX3_readsDoor_40 : decode cX3_readsDoor 40 = .ok (.bipush 112, 2) := by decide +kernel
theorem dX3_readsDoor_42 : decode cX3_readsDoor 42 = .ok (.if_icmp .eq 17, 3) := by decide +kernel
theorem dX3_readsDoor_45 : decode cX3_readsDoor 45 = .ok (.iload_n 3, 1) := by decide +kernel
theorem dX3_readsDoor_46 : decode cX3_readsDoor 46 = .ok (.bipush 108, 2) := by decide +kernel
theorem dX3_readsDoor_48 : decode cX3_readsDoor 48 = .ok (.if_icmp .eq 11, 3) := by decide +kernel
theorem dX3_readsDoor_51 : decode cX3_readsDoor 51 = .ok (.iload_n 3, 1) := by decide +kernel
theorem dX3_readsDoor_52 : decode cX3_readsDoor 52 = .ok (.bipush 99, 2) := by decide +kernel
theorem dX3_readsDoor_54 : decode cX3_readsDoor 54 = .ok (.if_icmp .eq 5, 3) := by decide +kernel
theorem dX3_readsDoor_57 : decode cX3_readsDoor 57 = .ok (.iconst 0, 1) := by decide +kernel
theorem dX3_readsDoor_58 : decode cX3_readsDoor 58 = .ok (.ireturn, 1) := by decide +kernel
theorem dX3_readsDoor_59 : decode cX3_readsDoor 59 = .ok (.aload_n 0, 1) := by decide +kernel
theorem dX3_readsDoor_60 : decode cX3_readsDoor 60 = .ok (.dup, 1) := by decide +kernel
theorem dX3_readsDoor_61 : decode cX3_readsDoor 61 = .ok (.getfield 86, 3) := by decide +kernel
theorem dX3_readsDoor_64 : decode cX3_readsDoor 64 = .ok (.iconst 1, 1) := by decide +kernel
theorem dX3_readsDoor_65 : decode cX3_readsDoor 65 = .ok (.iadd, 1) := by decide +kernel
theorem dX3_readsDoor_66 : decode cX3_readsDoor 66 = .ok (.putfield 86, 3) := by decide +kernel
theorem dX3_readsDoor_69 : decode cX3_readsDoor 69 = .ok (.aload_n 0, 1) := by decide +kernel
theorem dX3_readsDoor_70 : decode cX3_readsDoor 70 = .ok (.iload_n 1, 1) := by decide +kernel
theorem dX3_readsDoor_71 : decode cX3_readsDoor 71 = .ok (.iload_n 2, 1) := by decide +kernel
theorem dX3_readsDoor_72 : decode cX3_readsDoor 72 = .ok (.iconst 0, 1) := by decide +kernel
theorem dX3_readsDoor_73 : decode cX3_readsDoor 73 = .ok (.aload_n 0, 1) := by decide +kernel
theorem dX3_readsDoor_74 : decode cX3_readsDoor 74 = .ok (.getfield 96, 3) := by decide +kernel
theorem dX3_readsDoor_77 : decode cX3_readsDoor 77 = .ok (.iconst 1, 1) := by decide +kernel
theorem dX3_readsDoor_78 : decode cX3_readsDoor 78 = .ok (.isub, 1) := by decide +kernel
theorem dX3_readsDoor_79 : decode cX3_readsDoor 79 = .ok (.invokevirtual 99, 3) := by decide +kernel
theorem dX3_readsDoor_82 : decode cX3_readsDoor 82 = .ok (.istore 4, 2) := by decide +kernel
theorem dX3_readsDoor_84 : decode cX3_readsDoor 84 = .ok (.iload 4, 2) := by decide +kernel
theorem dX3_readsDoor_86 : decode cX3_readsDoor 86 = .ok (.ifCond .ge 8, 3) := by decide +kernel
theorem dX3_readsDoor_89 : decode cX3_readsDoor 89 = .ok (.bipush (-9), 2) := by decide +kernel
theorem dX3_readsDoor_91 : decode cX3_readsDoor 91 = .ok (.goto 16, 3) := by decide +kernel
theorem dX3_readsDoor_94 : decode cX3_readsDoor 94 = .ok (.aload_n 0, 1) := by decide +kernel
theorem dX3_readsDoor_95 : decode cX3_readsDoor 95 = .ok (.iload_n 1, 1) := by decide +kernel
theorem dX3_readsDoor_96 : decode cX3_readsDoor 96 = .ok (.iload_n 2, 1) := by decide +kernel
theorem dX3_readsDoor_97 : decode cX3_readsDoor 97 = .ok (.iconst 0, 1) := by decide +kernel
theorem dX3_readsDoor_98 : decode cX3_readsDoor 98 = .ok (.aload_n 0, 1) := by decide +kernel
theorem dX3_readsDoor_99 : decode cX3_readsDoor 99 = .ok (.getfield 96, 3) := by decide +kernel
theorem dX3_readsDoor_102 : decode cX3_readsDoor 102 = .ok (.iconst 1, 1) := by decide +kernel
theorem dX3_readsDoor_103 : decode cX3_readsDoor 103 = .ok (.isub, 1) := by decide +kernel
theorem dX3_readsDoor_104 : decode cX3_readsDoor 104 = .ok (.invokevirtual 99, 3) := by decide +kernel
theorem dX3_readsDoor_107 : decode cX3_readsDoor 107 = .ok (.istore 5, 2) := by decide +kernel
theorem dX3_readsDoor_109 : decode cX3_readsDoor 109 = .ok (.iload 5, 2) := by decide +kernel
theorem dX3_readsDoor_111 : decode cX3_readsDoor 111 = .ok (.ifCond .ge 8, 3) := by decide +kernel
theorem dX3_readsDoor_114 : decode cX3_readsDoor 114 = .ok (.bipush (-9), 2) := by decide +kernel
theorem dX3_readsDoor_116 : decode cX3_readsDoor 116 = .ok (.goto 11, 3) := by decide +kernel
theorem dX3_readsDoor_119 : decode cX3_readsDoor 119 = .ok (.aload_n 0, 1) := by decide +kernel
theorem dX3_readsDoor_120 : decode cX3_readsDoor 120 = .ok (.iload_n 1, 1) := by decide +kernel
theorem dX3_readsDoor_121 : decode cX3_readsDoor 121 = .ok (.iload_n 2, 1) := by decide +kernel
theorem dX3_readsDoor_122 : decode cX3_readsDoor 122 = .ok (.iconst 0, 1) := by decide +kernel
theorem dX3_readsDoor_123 : decode cX3_readsDoor 123 = .ok (.iconst 5, 1) := by decide +kernel
theorem dX3_readsDoor_124 : decode cX3_readsDoor 124 = .ok (.invokevirtual 99, 3) := by decide +kernel
theorem dX3_readsDoor_127 : decode cX3_readsDoor 127 = .ok (.istore 6, 2) := by decide +kernel
theorem dX3_readsDoor_129 : decode cX3_readsDoor 129 = .ok (.iload 6, 2) := by decide +kernel
theorem dX3_readsDoor_131 : decode cX3_readsDoor 131 = .ok (.ifCond .ge 5, 3) := by decide +kernel
theorem dX3_readsDoor_134 : decode cX3_readsDoor 134 = .ok (.iconst 0, 1) := by decide +kernel
theorem dX3_readsDoor_135 : decode cX3_readsDoor 135 = .ok (.ireturn, 1) := by decide +kernel
theorem dX3_readsDoor_136 : decode cX3_readsDoor 136 = .ok (.aload_n 0, 1) := by decide +kernel
theorem dX3_readsDoor_137 : decode cX3_readsDoor 137 = .ok (.getfield 26, 3) := by decide +kernel
theorem dX3_readsDoor_140 : decode cX3_readsDoor 140 = .ok (.aload_n 0, 1) := by decide +kernel
theorem dX3_readsDoor_141 : decode cX3_readsDoor 141 = .ok (.getfield 93, 3) := by decide +kernel
theorem dX3_readsDoor_144 : decode cX3_readsDoor 144 = .ok (.iload_n 3, 1) := by decide +kernel
theorem dX3_readsDoor_145 : decode cX3_readsDoor 145 = .ok (.bipush 112, 2) := by decide +kernel
theorem dX3_readsDoor_147 : decode cX3_readsDoor 147 = .ok (.if_icmp .ne 7, 3) := by decide +kernel
theorem dX3_readsDoor_150 : decode cX3_readsDoor 150 = .ok (.iconst 0, 1) := by decide +kernel
theorem dX3_readsDoor_151 : decode cX3_readsDoor 151 = .ok (.goto 14, 3) := by decide +kernel
theorem dX3_readsDoor_154 : decode cX3_readsDoor 154 = .ok (.iload_n 3, 1) := by decide +kernel
theorem dX3_readsDoor_155 : decode cX3_readsDoor 155 = .ok (.bipush 108, 2) := by decide +kernel
theorem dX3_readsDoor_157 : decode cX3_readsDoor 157 = .ok (.if_icmp .ne 7, 3) := by decide +kernel
theorem dX3_readsDoor_160 : decode cX3_readsDoor 160 = .ok (.iconst 1, 1) := by decide +kernel
theorem dX3_readsDoor_161 : decode cX3_readsDoor 161 = .ok (.goto 4, 3) := by decide +kernel
theorem dX3_readsDoor_164 : decode cX3_readsDoor 164 = .ok (.iconst 2, 1) := by decide +kernel
theorem dX3_readsDoor_165 : decode cX3_readsDoor 165 = .ok (.iastore, 1) := by decide +kernel
theorem dX3_readsDoor_166 : decode cX3_readsDoor 166 = .ok (.aload_n 0, 1) := by decide +kernel
theorem dX3_readsDoor_167 : decode cX3_readsDoor 167 = .ok (.getfield 29, 3) := by decide +kernel
theorem dX3_readsDoor_170 : decode cX3_readsDoor 170 = .ok (.aload_n 0, 1) := by decide +kernel
theorem dX3_readsDoor_171 : decode cX3_readsDoor 171 = .ok (.getfield 93, 3) := by decide +kernel
theorem dX3_readsDoor_174 : decode cX3_readsDoor 174 = .ok (.iload 4, 2) := by decide +kernel
theorem dX3_readsDoor_176 : decode cX3_readsDoor 176 = .ok (.iastore, 1) := by decide +kernel
theorem dX3_readsDoor_177 : decode cX3_readsDoor 177 = .ok (.aload_n 0, 1) := by decide +kernel
theorem dX3_readsDoor_178 : decode cX3_readsDoor 178 = .ok (.getfield 32, 3) := by decide +kernel
theorem dX3_readsDoor_181 : decode cX3_readsDoor 181 = .ok (.aload_n 0, 1) := by decide +kernel
theorem dX3_readsDoor_182 : decode cX3_readsDoor 182 = .ok (.getfield 93, 3) := by decide +kernel
theorem dX3_readsDoor_185 : decode cX3_readsDoor 185 = .ok (.iload 5, 2) := by decide +kernel
theorem dX3_readsDoor_187 : decode cX3_readsDoor 187 = .ok (.iastore, 1) := by decide +kernel
theorem dX3_readsDoor_188 : decode cX3_readsDoor 188 = .ok (.aload_n 0, 1) := by decide +kernel
theorem dX3_readsDoor_189 : decode cX3_readsDoor 189 = .ok (.getfield 35, 3) := by decide +kernel
theorem dX3_readsDoor_192 : decode cX3_readsDoor 192 = .ok (.aload_n 0, 1) := by decide +kernel
theorem dX3_readsDoor_193 : decode cX3_readsDoor 193 = .ok (.getfield 93, 3) := by decide +kernel
theorem dX3_readsDoor_196 : decode cX3_readsDoor 196 = .ok (.iload 6, 2) := by decide +kernel
theorem dX3_readsDoor_198 : decode cX3_readsDoor 198 = .ok (.iastore, 1) := by decide +kernel
theorem dX3_readsDoor_199 : decode cX3_readsDoor 199 = .ok (.aload_n 0, 1) := by decide +kernel
theorem dX3_readsDoor_200 : decode cX3_readsDoor 200 = .ok (.dup, 1) := by decide +kernel
theorem dX3_readsDoor_201 : decode cX3_readsDoor 201 = .ok (.getfield 93, 3) := by decide +kernel
theorem dX3_readsDoor_204 : decode cX3_readsDoor 204 = .ok (.iconst 1, 1) := by decide +kernel
theorem dX3_readsDoor_205 : decode cX3_readsDoor 205 = .ok (.iadd, 1) := by decide +kernel
theorem dX3_readsDoor_206 : decode cX3_readsDoor 206 = .ok (.putfield 93, 3) := by decide +kernel
theorem dX3_readsDoor_209 : decode cX3_readsDoor 209 = .ok (.iconst 1, 1) := by decide +kernel
theorem dX3_readsDoor_210 : decode cX3_readsDoor 210 = .ok (.ireturn, 1) := by decide +kernel
theorem dX3_readsHouse_0 : decode cX3_readsHouse 0 = .ok (.aload_n 0, 1) := by decide +kernel
theorem dX3_readsHouse_1 : decode cX3_readsHouse 1 = .ok (.iconst 0, 1) := by decide +kernel
theorem dX3_readsHouse_2 : decode cX3_readsHouse 2 = .ok (.putfield 86, 3) := by decide +kernel
theorem dX3_readsHouse_5 : decode cX3_readsHouse 5 = .ok (.aload_n 0, 1) := by decide +kernel
theorem dX3_readsHouse_6 : decode cX3_readsHouse 6 = .ok (.iconst 0, 1) := by decide +kernel
theorem dX3_readsHouse_7 : decode cX3_readsHouse 7 = .ok (.putfield 93, 3) := by decide +kernel
theorem dX3_readsHouse_10 : decode cX3_readsHouse 10 = .ok (.aload_n 0, 1) := by decide +kernel
theorem dX3_readsHouse_11 : decode cX3_readsHouse 11 = .ok (.iload_n 1, 1) := by decide +kernel
theorem dX3_readsHouse_12 : decode cX3_readsHouse 12 = .ok (.iload_n 2, 1) := by decide +kernel
theorem dX3_readsHouse_13 : decode cX3_readsHouse 13 = .ok (.invokevirtual 89, 3) := by decide +kernel
theorem dX3_readsHouse_16 : decode cX3_readsHouse 16 = .ok (.bipush 100, 2) := by decide +kernel
theorem dX3_readsHouse_18 : decode cX3_readsHouse 18 = .ok (.if_icmp .ne 7, 3) := by decide +kernel
theorem dX3_readsHouse_21 : decode cX3_readsHouse 21 = .ok (.iconst 1, 1) := by decide +kernel
theorem dX3_readsHouse_22 : decode cX3_readsHouse 22 = .ok (.goto 4, 3) := by decide +kernel
theorem dX3_readsHouse_25 : decode cX3_readsHouse 25 = .ok (.iconst 0, 1) := by decide +kernel
theorem dX3_readsHouse_26 : decode cX3_readsHouse 26 = .ok (.istore_n 3, 1) := by decide +kernel
theorem dX3_readsHouse_27 : decode cX3_readsHouse 27 = .ok (.aload_n 0, 1) := by decide +kernel
theorem dX3_readsHouse_28 : decode cX3_readsHouse 28 = .ok (.dup, 1) := by decide +kernel
theorem dX3_readsHouse_29 : decode cX3_readsHouse 29 = .ok (.getfield 86, 3) := by decide +kernel
theorem dX3_readsHouse_32 : decode cX3_readsHouse 32 = .ok (.iload_n 3, 1) := by decide +kernel
theorem dX3_readsHouse_33 : decode cX3_readsHouse 33 = .ok (.ifCond .eq 7, 3) := by decide +kernel
theorem dX3_readsHouse_36 : decode cX3_readsHouse 36 = .ok (.iconst 1, 1) := by decide +kernel
theorem dX3_readsHouse_37 : decode cX3_readsHouse 37 = .ok (.goto 4, 3) := by decide +kernel
theorem dX3_readsHouse_40 : decode cX3_readsHouse 40 = .ok (.iconst 0, 1) := by decide +kernel
theorem dX3_readsHouse_41 : decode cX3_readsHouse 41 = .ok (.iadd, 1) := by decide +kernel
theorem dX3_readsHouse_42 : decode cX3_readsHouse 42 = .ok (.putfield 86, 3) := by decide +kernel
theorem dX3_readsHouse_45 : decode cX3_readsHouse 45 = .ok (.aload_n 0, 1) := by decide +kernel
theorem dX3_readsHouse_46 : decode cX3_readsHouse 46 = .ok (.iload_n 3, 1) := by decide +kernel
theorem dX3_readsHouse_47 : decode cX3_readsHouse 47 = .ok (.ifCond .eq 15, 3) := by decide +kernel
theorem dX3_readsHouse_50 : decode cX3_readsHouse 50 = .ok (.aload_n 0, 1) := by decide +kernel
theorem dX3_readsHouse_51 : decode cX3_readsHouse 51 = .ok (.iload_n 1, 1) := by decide +kernel
theorem dX3_readsHouse_52 : decode cX3_readsHouse 52 = .ok (.iload_n 2, 1) := by decide +kernel
theorem dX3_readsHouse_53 : decode cX3_readsHouse 53 = .ok (.iconst 2, 1) := by decide +kernel
theorem dX3_readsHouse_54 : decode cX3_readsHouse 54 = .ok (.bipush 6, 2) := by decide +kernel
theorem dX3_readsHouse_56 : decode cX3_readsHouse 56 = .ok (.invokevirtual 99, 3) := by decide +kernel
theorem dX3_readsHouse_59 : decode cX3_readsHouse 59 = .ok (.goto 5, 3) := by decide +kernel
theorem dX3_readsHouse_62 : decode cX3_readsHouse 62 = .ok (.bipush (-9), 2) := by decide +kernel
theorem dX3_readsHouse_64 : decode cX3_readsHouse 64 = .ok (.putfield 96, 3) := by decide +kernel
theorem dX3_readsHouse_67 : decode cX3_readsHouse 67 = .ok (.aload_n 0, 1) := by decide +kernel
theorem dX3_readsHouse_68 : decode cX3_readsHouse 68 = .ok (.getfield 96, 3) := by decide +kernel
theorem dX3_readsHouse_71 : decode cX3_readsHouse 71 = .ok (.ifCond .le 7, 3) := by decide +kernel
theorem dX3_readsHouse_74 : decode cX3_readsHouse 74 = .ok (.iconst 1, 1) := by decide +kernel
theorem dX3_readsHouse_75 : decode cX3_readsHouse 75 = .ok (.goto 4, 3) := by decide +kernel
theorem dX3_readsHouse_78 : decode cX3_readsHouse 78 = .ok (.iconst 0, 1) := by decide +kernel
theorem dX3_readsHouse_79 : decode cX3_readsHouse 79 = .ok (.istore_n 3, 1) := by decide +kernel
theorem dX3_readsHouse_80 : decode cX3_readsHouse 80 = .ok (.iload_n 3, 1) := by decide +kernel
theorem dX3_readsHouse_81 : decode cX3_readsHouse 81 = .ok (.ifCond .eq 28, 3) := by decide +kernel
theorem dX3_readsHouse_84 : decode cX3_readsHouse 84 = .ok (.aload_n 0, 1) := by decide +kernel
theorem dX3_readsHouse_85 : decode cX3_readsHouse 85 = .ok (.getfield 93, 3) := by decide +kernel
theorem dX3_readsHouse_88 : decode cX3_readsHouse 88 = .ok (.ifCond .eq 11, 3) := by decide +kernel
theorem dX3_readsHouse_91 : decode cX3_readsHouse 91 = .ok (.aload_n 0, 1) := by decide +kernel
theorem dX3_readsHouse_92 : decode cX3_readsHouse 92 = .ok (.getfield 86, 3) := by decide +kernel
theorem dX3_readsHouse_95 : decode cX3_readsHouse 95 = .ok (.iload_n 2, 1) := by decide +kernel
theorem dX3_readsHouse_96 : decode cX3_readsHouse 96 = .ok (.if_icmp .ge 13, 3) := by decide +kernel
theorem dX3_readsHouse_99 : decode cX3_readsHouse 99 = .ok (.aload_n 0, 1) := by decide +kernel
theorem dX3_readsHouse_100 : decode cX3_readsHouse 100 = .ok (.iload_n 1, 1) := by decide +kernel
theorem dX3_readsHouse_101 : decode cX3_readsHouse 101 = .ok (.iload_n 2, 1) := by decide +kernel
theorem dX3_readsHouse_102 : decode cX3_readsHouse 102 = .ok (.invokevirtual 103, 3) := by decide +kernel
theorem dX3_readsHouse_105 : decode cX3_readsHouse 105 = .ok (.istore_n 3, 1) := by decide +kernel
theorem dX3_readsHouse_106 : decode cX3_readsHouse 106 = .ok (.goto (-26), 3) := by decide +kernel
theorem dX3_readsHouse_109 : decode cX3_readsHouse 109 = .ok (.iload_n 3, 1) := by decide +kernel
theorem dX3_readsHouse_110 : decode cX3_readsHouse 110 = .ok (.ireturn, 1) := by decide +kernel
theorem dX3_cellsBarred_0 : decode cX3_cellsBarred 0 = .ok (.aload_n 0, 1) := by decide +kernel
theorem dX3_cellsBarred_1 : decode cX3_cellsBarred 1 = .ok (.getfield 53, 3) := by decide +kernel
theorem dX3_cellsBarred_4 : decode cX3_cellsBarred 4 = .ok (.iload_n 1, 1) := by decide +kernel
theorem dX3_cellsBarred_5 : decode cX3_cellsBarred 5 = .ok (.iaload, 1) := by decide +kernel
theorem dX3_cellsBarred_6 : decode cX3_cellsBarred 6 = .ok (.ifCond .lt 19, 3) := by decide +kernel
theorem dX3_cellsBarred_9 : decode cX3_cellsBarred 9 = .ok (.aload_n 0, 1) := by decide +kernel
theorem dX3_cellsBarred_10 : decode cX3_cellsBarred 10 = .ok (.getfield 56, 3) := by decide +kernel
theorem dX3_cellsBarred_13 : decode cX3_cellsBarred 13 = .ok (.iload_n 1, 1) := by decide +kernel
theorem dX3_cellsBarred_14 : decode cX3_cellsBarred 14 = .ok (.iaload, 1) := by decide +kernel
theorem dX3_cellsBarred_15 : decode cX3_cellsBarred 15 = .ok (.iload_n 2, 1) := by decide +kernel
theorem dX3_cellsBarred_16 : decode cX3_cellsBarred 16 = .ok (.if_icmp .eq 9, 3) := by decide +kernel
theorem dX3_cellsBarred_19 : decode cX3_cellsBarred 19 = .ok (.aload_n 0, 1) := by decide +kernel
theorem dX3_cellsBarred_20 : decode cX3_cellsBarred 20 = .ok (.iconst 2, 1) := by decide +kernel
theorem dX3_cellsBarred_21 : decode cX3_cellsBarred 21 = .ok (.invokevirtual 107, 3) := by decide +kernel
theorem dX3_cellsBarred_24 : decode cX3_cellsBarred 24 = .ok (.ireturn, 1) := by decide +kernel
theorem dX3_cellsBarred_25 : decode cX3_cellsBarred 25 = .ok (.aload_n 0, 1) := by decide +kernel
theorem dX3_cellsBarred_26 : decode cX3_cellsBarred 26 = .ok (.getfield 53, 3) := by decide +kernel
theorem dX3_cellsBarred_29 : decode cX3_cellsBarred 29 = .ok (.iload_n 1, 1) := by decide +kernel
theorem dX3_cellsBarred_30 : decode cX3_cellsBarred 30 = .ok (.iaload, 1) := by decide +kernel
theorem dX3_cellsBarred_31 : decode cX3_cellsBarred 31 = .ok (.ifCond .ge 9, 3) := by decide +kernel
theorem dX3_cellsBarred_34 : decode cX3_cellsBarred 34 = .ok (.aload_n 0, 1) := by decide +kernel
theorem dX3_cellsBarred_35 : decode cX3_cellsBarred 35 = .ok (.iconst 1, 1) := by decide +kernel
theorem dX3_cellsBarred_36 : decode cX3_cellsBarred 36 = .ok (.invokevirtual 107, 3) := by decide +kernel
theorem dX3_cellsBarred_39 : decode cX3_cellsBarred 39 = .ok (.ireturn, 1) := by decide +kernel
theorem dX3_cellsBarred_40 : decode cX3_cellsBarred 40 = .ok (.lload 4, 2) := by decide +kernel
theorem dX3_cellsBarred_42 : decode cX3_cellsBarred 42 = .ok (.lconst 0, 1) := by decide +kernel
theorem dX3_cellsBarred_43 : decode cX3_cellsBarred 43 = .ok (.lcmp, 1) := by decide +kernel
theorem dX3_cellsBarred_44 : decode cX3_cellsBarred 44 = .ok (.ifCond .ge 9, 3) := by decide +kernel
theorem dX3_cellsBarred_47 : decode cX3_cellsBarred 47 = .ok (.aload_n 0, 1) := by decide +kernel
theorem dX3_cellsBarred_48 : decode cX3_cellsBarred 48 = .ok (.iconst 4, 1) := by decide +kernel
theorem dX3_cellsBarred_49 : decode cX3_cellsBarred 49 = .ok (.invokevirtual 107, 3) := by decide +kernel
theorem dX3_cellsBarred_52 : decode cX3_cellsBarred 52 = .ok (.ireturn, 1) := by decide +kernel
theorem dX3_cellsBarred_53 : decode cX3_cellsBarred 53 = .ok (.iload_n 3, 1) := by decide +kernel
theorem dX3_cellsBarred_54 : decode cX3_cellsBarred 54 = .ok (.lload 4, 2) := by decide +kernel
theorem dX3_cellsBarred_56 : decode cX3_cellsBarred 56 = .ok (.aload_n 0, 1) := by decide +kernel
theorem dX3_cellsBarred_57 : decode cX3_cellsBarred 57 = .ok (.getfield 53, 3) := by decide +kernel
theorem dX3_cellsBarred_60 : decode cX3_cellsBarred 60 = .ok (.iload_n 1, 1) := by decide +kernel
theorem dX3_cellsBarred_61 : decode cX3_cellsBarred 61 = .ok (.iaload, 1) := by decide +kernel
theorem dX3_cellsBarred_62 : decode cX3_cellsBarred 62 = .ok (.invokestatic 111, 3) := by decide +kernel
theorem dX3_cellsBarred_65 : decode cX3_cellsBarred 65 = .ok (.ifCond .eq 11, 3) := by decide +kernel
theorem dX3_cellsBarred_68 : decode cX3_cellsBarred 68 = .ok (.aload_n 0, 1) := by decide +kernel
theorem dX3_cellsBarred_69 : decode cX3_cellsBarred 69 = .ok (.iconst 3, 1) := by decide +kernel
theorem dX3_cellsBarred_70 : decode cX3_cellsBarred 70 = .ok (.invokevirtual 107, 3) := by decide +kernel
theorem dX3_cellsBarred_73 : decode cX3_cellsBarred 73 = .ok (.goto 4, 3) := by decide +kernel
theorem dX3_cellsBarred_76 : decode cX3_cellsBarred 76 = .ok (.iconst 0, 1) := by decide +kernel
theorem dX3_cellsBarred_77 : decode cX3_cellsBarred 77 = .ok (.ireturn, 1) := by decide +kernel
theorem dX3_house_0 : decode cX3_house 0 = .ok (.iload_n 1, 1) := by decide +kernel
theorem dX3_house_1 : decode cX3_house 1 = .ok (.invokestatic 115, 3) := by decide +kernel
theorem dX3_house_4 : decode cX3_house 4 = .ok (.ifCond .eq 9, 3) := by decide +kernel
theorem dX3_house_7 : decode cX3_house 7 = .ok (.aload_n 0, 1) := by decide +kernel
theorem dX3_house_8 : decode cX3_house 8 = .ok (.iconst (-1), 1) := by decide +kernel
theorem dX3_house_9 : decode cX3_house 9 = .ok (.invokevirtual 119, 3) := by decide +kernel
theorem dX3_house_12 : decode cX3_house 12 = .ok (.ireturn, 1) := by decide +kernel
theorem dX3_house_13 : decode cX3_house 13 = .ok (.iload_n 2, 1) := by decide +kernel
theorem dX3_house_14 : decode cX3_house 14 = .ok (.i2l, 1) := by decide +kernel
theorem dX3_house_15 : decode cX3_house 15 = .ok (.lconst 0, 1) := by decide +kernel
theorem dX3_house_16 : decode cX3_house 16 = .ok (.ldc2_w 122, 3) := by decide +kernel
theorem dX3_house_19 : decode cX3_house 19 = .ok (.invokestatic 77, 3) := by decide +kernel
theorem dX3_house_22 : decode cX3_house 22 = .ok (.ifCond .ne 10, 3) := by decide +kernel
theorem dX3_house_25 : decode cX3_house 25 = .ok (.aload_n 0, 1) := by decide +kernel
theorem dX3_house_26 : decode cX3_house 26 = .ok (.bipush (-2), 2) := by decide +kernel
theorem dX3_house_28 : decode cX3_house 28 = .ok (.invokevirtual 119, 3) := by decide +kernel
theorem dX3_house_31 : decode cX3_house 31 = .ok (.ireturn, 1) := by decide +kernel
theorem dX3_house_32 : decode cX3_house 32 = .ok (.aload_n 0, 1) := by decide +kernel
theorem dX3_house_33 : decode cX3_house 33 = .ok (.iload_n 1, 1) := by decide +kernel
theorem dX3_house_34 : decode cX3_house 34 = .ok (.iload_n 2, 1) := by decide +kernel
theorem dX3_house_35 : decode cX3_house 35 = .ok (.iload_n 3, 1) := by decide +kernel
theorem dX3_house_36 : decode cX3_house 36 = .ok (.iload 4, 2) := by decide +kernel
theorem dX3_house_38 : decode cX3_house 38 = .ok (.i2l, 1) := by decide +kernel
theorem dX3_house_39 : decode cX3_house 39 = .ok (.invokevirtual 124, 3) := by decide +kernel
theorem dX3_house_42 : decode cX3_house 42 = .ok (.istore 5, 2) := by decide +kernel
theorem dX3_house_44 : decode cX3_house 44 = .ok (.iload 5, 2) := by decide +kernel
theorem dX3_house_46 : decode cX3_house 46 = .ok (.ifCond .ge 6, 3) := by decide +kernel
theorem dX3_house_49 : decode cX3_house 49 = .ok (.iload 5, 2) := by decide +kernel
theorem dX3_house_51 : decode cX3_house 51 = .ok (.ireturn, 1) := by decide +kernel
theorem dX3_house_52 : decode cX3_house 52 = .ok (.aload_n 0, 1) := by decide +kernel
theorem dX3_house_53 : decode cX3_house 53 = .ok (.bipush 60, 2) := by decide +kernel
theorem dX3_house_55 : decode cX3_house 55 = .ok (.iload_n 1, 1) := by decide +kernel
theorem dX3_house_56 : decode cX3_house 56 = .ok (.imul, 1) := by decide +kernel
theorem dX3_house_57 : decode cX3_house 57 = .ok (.iload_n 3, 1) := by decide +kernel
theorem dX3_house_58 : decode cX3_house 58 = .ok (.iadd, 1) := by decide +kernel
theorem dX3_house_59 : decode cX3_house 59 = .ok (.iload 4, 2) := by decide +kernel
theorem dX3_house_61 : decode cX3_house 61 = .ok (.invokevirtual 128, 3) := by decide +kernel
theorem dX3_house_64 : decode cX3_house 64 = .ok (.ifCond .ne 15, 3) := by decide +kernel
theorem dX3_house_67 : decode cX3_house 67 = .ok (.aload_n 0, 1) := by decide +kernel
theorem dX3_house_68 : decode cX3_house 68 = .ok (.bipush (-100), 2) := by decide +kernel
theorem dX3_house_70 : decode cX3_house 70 = .ok (.aload_n 0, 1) := by decide +kernel
theorem dX3_house_71 : decode cX3_house 71 = .ok (.getfield 86, 3) := by decide +kernel
theorem dX3_house_74 : decode cX3_house 74 = .ok (.isub, 1) := by decide +kernel
theorem dX3_house_75 : decode cX3_house 75 = .ok (.invokevirtual 119, 3) := by decide +kernel
theorem dX3_house_78 : decode cX3_house 78 = .ok (.ireturn, 1) := by decide +kernel
theorem dX3_house_79 : decode cX3_house 79 = .ok (.aload_n 0, 1) := by decide +kernel
theorem dX3_house_80 : decode cX3_house 80 = .ok (.aload_n 0, 1) := by decide +kernel
theorem dX3_house_81 : decode cX3_house 81 = .ok (.getfield 96, 3) := by decide +kernel
theorem dX3_house_84 : decode cX3_house 84 = .ok (.putfield 74, 3) := by decide +kernel
theorem dX3_house_87 : decode cX3_house 87 = .ok (.aload_n 0, 1) := by decide +kernel
theorem dX3_house_88 : decode cX3_house 88 = .ok (.aload_n 0, 1) := by decide +kernel
theorem dX3_house_89 : decode cX3_house 89 = .ok (.getfield 93, 3) := by decide +kernel
theorem dX3_house_92 : decode cX3_house 92 = .ok (.putfield 81, 3) := by decide +kernel
theorem dX3_house_95 : decode cX3_house 95 = .ok (.iconst 0, 1) := by decide +kernel
theorem dX3_house_96 : decode cX3_house 96 = .ok (.istore 6, 2) := by decide +kernel
theorem dX3_house_98 : decode cX3_house 98 = .ok (.iload 6, 2) := by decide +kernel
theorem dX3_house_100 : decode cX3_house 100 = .ok (.aload_n 0, 1) := by decide +kernel
theorem dX3_house_101 : decode cX3_house 101 = .ok (.getfield 81, 3) := by decide +kernel
theorem dX3_house_104 : decode cX3_house 104 = .ok (.if_icmp .ge 65, 3) := by decide +kernel
theorem dX3_house_107 : decode cX3_house 107 = .ok (.aload_n 0, 1) := by decide +kernel
theorem dX3_house_108 : decode cX3_house 108 = .ok (.getfield 7, 3) := by decide +kernel
theorem dX3_house_111 : decode cX3_house 111 = .ok (.iload 6, 2) := by decide +kernel
theorem dX3_house_113 : decode cX3_house 113 = .ok (.aload_n 0, 1) := by decide +kernel
theorem dX3_house_114 : decode cX3_house 114 = .ok (.getfield 26, 3) := by decide +kernel
theorem dX3_house_117 : decode cX3_house 117 = .ok (.iload 6, 2) := by decide +kernel
theorem dX3_house_119 : decode cX3_house 119 = .ok (.iaload, 1) := by decide +kernel
theorem dX3_house_120 : decode cX3_house 120 = .ok (.iastore, 1) := by decide +kernel
theorem dX3_house_121 : decode cX3_house 121 = .ok (.aload_n 0, 1) := by decide +kernel
theorem dX3_house_122 : decode cX3_house 122 = .ok (.getfield 13, 3) := by decide +kernel
theorem dX3_house_125 : decode cX3_house 125 = .ok (.iload 6, 2) := by decide +kernel
theorem dX3_house_127 : decode cX3_house 127 = .ok (.aload_n 0, 1) := by decide +kernel
theorem dX3_house_128 : decode cX3_house 128 = .ok (.getfield 29, 3) := by decide +kernel
theorem dX3_house_131 : decode cX3_house 131 = .ok (.iload 6, 2) := by decide +kernel
theorem dX3_house_133 : decode cX3_house 133 = .ok (.iaload, 1) := by decide +kernel
theorem dX3_house_134 : decode cX3_house 134 = .ok (.iastore, 1) := by decide +kernel
theorem dX3_house_135 : decode cX3_house 135 = .ok (.aload_n 0, 1) := by decide +kernel
theorem dX3_house_136 : decode cX3_house 136 = .ok (.getfield 16, 3) := by decide +kernel
theorem dX3_house_139 : decode cX3_house 139 = .ok (.iload 6, 2) := by decide +kernel
theorem dX3_house_141 : decode cX3_house 141 = .ok (.aload_n 0, 1) := by decide +kernel
theorem dX3_house_142 : decode cX3_house 142 = .ok (.getfield 32, 3) := by decide +kernel
theorem dX3_house_145 : decode cX3_house 145 = .ok (.iload 6, 2) := by decide +kernel
theorem dX3_house_147 : decode cX3_house 147 = .ok (.iaload, 1) := by decide +kernel
theorem dX3_house_148 : decode cX3_house 148 = .ok (.iastore, 1) := by decide +kernel
theorem dX3_house_149 : decode cX3_house 149 = .ok (.aload_n 0, 1) := by decide +kernel
theorem dX3_house_150 : decode cX3_house 150 = .ok (.getfield 19, 3) := by decide +kernel
theorem dX3_house_153 : decode cX3_house 153 = .ok (.iload 6, 2) := by decide +kernel
theorem dX3_house_155 : decode cX3_house 155 = .ok (.aload_n 0, 1) := by decide +kernel
theorem dX3_house_156 : decode cX3_house 156 = .ok (.getfield 35, 3) := by decide +kernel
theorem dX3_house_159 : decode cX3_house 159 = .ok (.iload 6, 2) := by decide +kernel
theorem dX3_house_161 : decode cX3_house 161 = .ok (.iaload, 1) := by decide +kernel
theorem dX3_house_162 : decode cX3_house 162 = .ok (.iastore, 1) := by decide +kernel
theorem dX3_house_163 : decode cX3_house 163 = .ok (.iinc 6 1, 3) := by decide +kernel
theorem dX3_house_166 : decode cX3_house 166 = .ok (.goto (-68), 3) := by decide +kernel
theorem dX3_house_169 : decode cX3_house 169 = .ok (.aload_n 0, 1) := by decide +kernel
theorem dX3_house_170 : decode cX3_house 170 = .ok (.iconst 0, 1) := by decide +kernel
theorem dX3_house_171 : decode cX3_house 171 = .ok (.putfield 131, 3) := by decide +kernel
theorem dX3_house_174 : decode cX3_house 174 = .ok (.aload_n 0, 1) := by decide +kernel
theorem dX3_house_175 : decode cX3_house 175 = .ok (.aload_n 0, 1) := by decide +kernel
theorem dX3_house_176 : decode cX3_house 176 = .ok (.getfield 81, 3) := by decide +kernel
theorem dX3_house_179 : decode cX3_house 179 = .ok (.invokevirtual 119, 3) := by decide +kernel
theorem dX3_house_182 : decode cX3_house 182 = .ok (.ireturn, 1) := by decide +kernel
theorem dX3_ofDoor_0 : decode cX3_ofDoor 0 = .ok (.aload_n 0, 1) := by decide +kernel
theorem dX3_ofDoor_1 : decode cX3_ofDoor 1 = .ok (.iload_n 1, 1) := by decide +kernel
theorem dX3_ofDoor_2 : decode cX3_ofDoor 2 = .ok (.invokevirtual 134, 3) := by decide +kernel
theorem dX3_ofDoor_5 : decode cX3_ofDoor 5 = .ok (.ifCond .eq 5, 3) := by decide +kernel
theorem dX3_ofDoor_8 : decode cX3_ofDoor 8 = .ok (.iconst (-1), 1) := by decide +kernel
theorem dX3_ofDoor_9 : decode cX3_ofDoor 9 = .ok (.ireturn, 1) := by decide +kernel
theorem dX3_ofDoor_10 : decode cX3_ofDoor 10 = .ok (.iload_n 2, 1) := by decide +kernel
theorem dX3_ofDoor_11 : decode cX3_ofDoor 11 = .ok (.tableswitch 57 0 3 #[29, 36, 43, 50], 29) := by decide +kernel
theorem dX3_ofDoor_40 : decode cX3_ofDoor 40 = .ok (.aload_n 0, 1) := by decide +kernel
theorem dX3_ofDoor_41 : decode cX3_ofDoor 41 = .ok (.getfield 7, 3) := by decide +kernel
theorem dX3_ofDoor_44 : decode cX3_ofDoor 44 = .ok (.iload_n 1, 1) := by decide +kernel
theorem dX3_ofDoor_45 : decode cX3_ofDoor 45 = .ok (.iaload, 1) := by decide +kernel
theorem dX3_ofDoor_46 : decode cX3_ofDoor 46 = .ok (.ireturn, 1) := by decide +kernel
theorem dX3_ofDoor_47 : decode cX3_ofDoor 47 = .ok (.aload_n 0, 1) := by decide +kernel
theorem dX3_ofDoor_48 : decode cX3_ofDoor 48 = .ok (.getfield 13, 3) := by decide +kernel
theorem dX3_ofDoor_51 : decode cX3_ofDoor 51 = .ok (.iload_n 1, 1) := by decide +kernel
theorem dX3_ofDoor_52 : decode cX3_ofDoor 52 = .ok (.iaload, 1) := by decide +kernel
theorem dX3_ofDoor_53 : decode cX3_ofDoor 53 = .ok (.ireturn, 1) := by decide +kernel
theorem dX3_ofDoor_54 : decode cX3_ofDoor 54 = .ok (.aload_n 0, 1) := by decide +kernel
theorem dX3_ofDoor_55 : decode cX3_ofDoor 55 = .ok (.getfield 16, 3) := by decide +kernel
theorem dX3_ofDoor_58 : decode cX3_ofDoor 58 = .ok (.iload_n 1, 1) := by decide +kernel
theorem dX3_ofDoor_59 : decode cX3_ofDoor 59 = .ok (.iaload, 1) := by decide +kernel
theorem dX3_ofDoor_60 : decode cX3_ofDoor 60 = .ok (.ireturn, 1) := by decide +kernel
theorem dX3_ofDoor_61 : decode cX3_ofDoor 61 = .ok (.aload_n 0, 1) := by decide +kernel
theorem dX3_ofDoor_62 : decode cX3_ofDoor 62 = .ok (.getfield 19, 3) := by decide +kernel
theorem dX3_ofDoor_65 : decode cX3_ofDoor 65 = .ok (.iload_n 1, 1) := by decide +kernel
theorem dX3_ofDoor_66 : decode cX3_ofDoor 66 = .ok (.iaload, 1) := by decide +kernel
theorem dX3_ofDoor_67 : decode cX3_ofDoor 67 = .ok (.ireturn, 1) := by decide +kernel
theorem dX3_ofDoor_68 : decode cX3_ofDoor 68 = .ok (.bipush (-2), 2) := by decide +kernel
theorem dX3_ofDoor_70 : decode cX3_ofDoor 70 = .ok (.ireturn, 1) := by decide +kernel
theorem dX3_leadsAt_0 : decode cX3_leadsAt 0 = .ok (.aload_n 0, 1) := by decide +kernel
theorem dX3_leadsAt_1 : decode cX3_leadsAt 1 = .ok (.getfield 7, 3) := by decide +kernel
theorem dX3_leadsAt_4 : decode cX3_leadsAt 4 = .ok (.iload_n 1, 1) := by decide +kernel
theorem dX3_leadsAt_5 : decode cX3_leadsAt 5 = .ok (.iaload, 1) := by decide +kernel
theorem dX3_leadsAt_6 : decode cX3_leadsAt 6 = .ok (.iconst 2, 1) := by decide +kernel
theorem dX3_leadsAt_7 : decode cX3_leadsAt 7 = .ok (.if_icmp .ne 12, 3) := by decide +kernel
theorem dX3_leadsAt_10 : decode cX3_leadsAt 10 = .ok (.iload_n 2, 1) := by decide +kernel
theorem dX3_leadsAt_11 : decode cX3_leadsAt 11 = .ok (.iconst 3, 1) := by decide +kernel
theorem dX3_leadsAt_12 : decode cX3_leadsAt 12 = .ok (.irem, 1) := by decide +kernel
theorem dX3_leadsAt_13 : decode cX3_leadsAt 13 = .ok (.ifCond .eq 6, 3) := by decide +kernel
theorem dX3_leadsAt_16 : decode cX3_leadsAt 16 = .ok (.bipush (-9), 2) := by decide +kernel
theorem dX3_leadsAt_18 : decode cX3_leadsAt 18 = .ok (.ireturn, 1) := by decide +kernel
theorem dX3_leadsAt_19 : decode cX3_leadsAt 19 = .ok (.aload_n 0, 1) := by decide +kernel
theorem dX3_leadsAt_20 : decode cX3_leadsAt 20 = .ok (.getfield 7, 3) := by decide +kernel
theorem dX3_leadsAt_23 : decode cX3_leadsAt 23 = .ok (.iload_n 1, 1) := by decide +kernel
theorem dX3_leadsAt_24 : decode cX3_leadsAt 24 = .ok (.iaload, 1) := by decide +kernel
theorem dX3_leadsAt_25 : decode cX3_leadsAt 25 = .ok (.ifCond .ne 7, 3) := by decide +kernel
theorem dX3_leadsAt_28 : decode cX3_leadsAt 28 = .ok (.iload_n 2, 1) := by decide +kernel
theorem dX3_leadsAt_29 : decode cX3_leadsAt 29 = .ok (.goto 12, 3) := by decide +kernel
theorem dX3_leadsAt_32 : decode cX3_leadsAt 32 = .ok (.iload_n 2, 1) := by decide +kernel
theorem dX3_leadsAt_33 : decode cX3_leadsAt 33 = .ok (.bipush 12, 2) := by decide +kernel
theorem dX3_leadsAt_35 : decode cX3_leadsAt 35 = .ok (.iadd, 1) := by decide +kernel
theorem dX3_leadsAt_36 : decode cX3_leadsAt 36 = .ok (.iconst 1, 1) := by decide +kernel
theorem dX3_leadsAt_37 : decode cX3_leadsAt 37 = .ok (.isub, 1) := by decide +kernel
theorem dX3_leadsAt_38 : decode cX3_leadsAt 38 = .ok (.bipush 12, 2) := by decide +kernel
theorem dX3_leadsAt_40 : decode cX3_leadsAt 40 = .ok (.irem, 1) := by decide +kernel
theorem dX3_leadsAt_41 : decode cX3_leadsAt 41 = .ok (.istore_n 3, 1) := by decide +kernel
theorem dX3_leadsAt_42 : decode cX3_leadsAt 42 = .ok (.aload_n 0, 1) := by decide +kernel
theorem dX3_leadsAt_43 : decode cX3_leadsAt 43 = .ok (.getfield 16, 3) := by decide +kernel
theorem dX3_leadsAt_46 : decode cX3_leadsAt 46 = .ok (.iload_n 1, 1) := by decide +kernel
theorem dX3_leadsAt_47 : decode cX3_leadsAt 47 = .ok (.iaload, 1) := by decide +kernel
theorem dX3_leadsAt_48 : decode cX3_leadsAt 48 = .ok (.aload_n 0, 1) := by decide +kernel
theorem dX3_leadsAt_49 : decode cX3_leadsAt 49 = .ok (.getfield 19, 3) := by decide +kernel
theorem dX3_leadsAt_52 : decode cX3_leadsAt 52 = .ok (.iload_n 1, 1) := by decide +kernel
theorem dX3_leadsAt_53 : decode cX3_leadsAt 53 = .ok (.iaload, 1) := by decide +kernel
theorem dX3_leadsAt_54 : decode cX3_leadsAt 54 = .ok (.iload_n 3, 1) := by decide +kernel
theorem dX3_leadsAt_55 : decode cX3_leadsAt 55 = .ok (.imul, 1) := by decide +kernel
theorem dX3_leadsAt_56 : decode cX3_leadsAt 56 = .ok (.iadd, 1) := by decide +kernel
theorem dX3_leadsAt_57 : decode cX3_leadsAt 57 = .ok (.aload_n 0, 1) := by decide +kernel
theorem dX3_leadsAt_58 : decode cX3_leadsAt 58 = .ok (.getfield 74, 3) := by decide +kernel
theorem dX3_leadsAt_61 : decode cX3_leadsAt 61 = .ok (.irem, 1) := by decide +kernel
theorem dX3_leadsAt_62 : decode cX3_leadsAt 62 = .ok (.ireturn, 1) := by decide +kernel
theorem dX3_leads_0 : decode cX3_leads 0 = .ok (.aload_n 0, 1) := by decide +kernel
theorem dX3_leads_1 : decode cX3_leads 1 = .ok (.iload_n 1, 1) := by decide +kernel
theorem dX3_leads_2 : decode cX3_leads 2 = .ok (.invokevirtual 134, 3) := by decide +kernel
theorem dX3_leads_5 : decode cX3_leads 5 = .ok (.ifCond .eq 5, 3) := by decide +kernel
theorem dX3_leads_8 : decode cX3_leads 8 = .ok (.iconst (-1), 1) := by decide +kernel
theorem dX3_leads_9 : decode cX3_leads 9 = .ok (.ireturn, 1) := by decide +kernel
theorem dX3_leads_10 : decode cX3_leads 10 = .ok (.iload_n 2, 1) := by decide +kernel
theorem dX3_leads_11 : decode cX3_leads 11 = .ok (.invokestatic 137, 3) := by decide +kernel
theorem dX3_leads_14 : decode cX3_leads 14 = .ok (.ifCond .eq 8, 3) := by decide +kernel
theorem dX3_leads_17 : decode cX3_leads 17 = .ok (.bipush (-2), 2) := by decide +kernel
theorem dX3_leads_19 : decode cX3_leads 19 = .ok (.goto 9, 3) := by decide +kernel
theorem dX3_leads_22 : decode cX3_leads 22 = .ok (.aload_n 0, 1) := by decide +kernel
theorem dX3_leads_23 : decode cX3_leads 23 = .ok (.iload_n 1, 1) := by decide +kernel
theorem dX3_leads_24 : decode cX3_leads 24 = .ok (.iload_n 2, 1) := by decide +kernel
theorem dX3_leads_25 : decode cX3_leads 25 = .ok (.invokevirtual 140, 3) := by decide +kernel
theorem dX3_leads_28 : decode cX3_leads 28 = .ok (.ireturn, 1) := by decide +kernel
theorem dX3_step_0 : decode cX3_step 0 = .ok (.aload_n 0, 1) := by decide +kernel
theorem dX3_step_1 : decode cX3_step 1 = .ok (.iload_n 1, 1) := by decide +kernel
theorem dX3_step_2 : decode cX3_step 2 = .ok (.invokevirtual 134, 3) := by decide +kernel
theorem dX3_step_5 : decode cX3_step 5 = .ok (.ifCond .eq 5, 3) := by decide +kernel
theorem dX3_step_8 : decode cX3_step 8 = .ok (.iconst (-1), 1) := by decide +kernel
theorem dX3_step_9 : decode cX3_step 9 = .ok (.ireturn, 1) := by decide +kernel
theorem dX3_step_10 : decode cX3_step 10 = .ok (.iload_n 2, 1) := by decide +kernel
theorem dX3_step_11 : decode cX3_step 11 = .ok (.i2l, 1) := by decide +kernel
theorem dX3_step_12 : decode cX3_step 12 = .ok (.lconst 0, 1) := by decide +kernel
theorem dX3_step_13 : decode cX3_step 13 = .ok (.ldc2_w 143, 3) := by decide +kernel
theorem dX3_step_16 : decode cX3_step 16 = .ok (.invokestatic 77, 3) := by decide +kernel
theorem dX3_step_19 : decode cX3_step 19 = .ok (.ifCond .ne 6, 3) := by decide +kernel
theorem dX3_step_22 : decode cX3_step 22 = .ok (.bipush (-2), 2) := by decide +kernel
theorem dX3_step_24 : decode cX3_step 24 = .ok (.ireturn, 1) := by decide +kernel
theorem dX3_step_25 : decode cX3_step 25 = .ok (.aload_n 0, 1) := by decide +kernel
theorem dX3_step_26 : decode cX3_step 26 = .ok (.getfield 19, 3) := by decide +kernel
theorem dX3_step_29 : decode cX3_step 29 = .ok (.iload_n 1, 1) := by decide +kernel
theorem dX3_step_30 : decode cX3_step 30 = .ok (.iaload, 1) := by decide +kernel
theorem dX3_step_31 : decode cX3_step 31 = .ok (.istore_n 3, 1) := by decide +kernel
theorem dX3_step_32 : decode cX3_step 32 = .ok (.aload_n 0, 1) := by decide +kernel
theorem dX3_step_33 : decode cX3_step 33 = .ok (.getfield 19, 3) := by decide +kernel
theorem dX3_step_36 : decode cX3_step 36 = .ok (.iload_n 1, 1) := by decide +kernel
theorem dX3_step_37 : decode cX3_step 37 = .ok (.iload_n 2, 1) := by decide +kernel
theorem dX3_step_38 : decode cX3_step 38 = .ok (.iastore, 1) := by decide +kernel
theorem dX3_step_39 : decode cX3_step 39 = .ok (.iload_n 3, 1) := by decide +kernel
theorem dX3_step_40 : decode cX3_step 40 = .ok (.ireturn, 1) := by decide +kernel
theorem dX3_turn_0 : decode cX3_turn 0 = .ok (.aload_n 0, 1) := by decide +kernel
theorem dX3_turn_1 : decode cX3_turn 1 = .ok (.iload_n 1, 1) := by decide +kernel
theorem dX3_turn_2 : decode cX3_turn 2 = .ok (.invokevirtual 134, 3) := by decide +kernel
theorem dX3_turn_5 : decode cX3_turn 5 = .ok (.ifCond .ne 11, 3) := by decide +kernel
theorem dX3_turn_8 : decode cX3_turn 8 = .ok (.aload_n 0, 1) := by decide +kernel
theorem dX3_turn_9 : decode cX3_turn 9 = .ok (.iload_n 2, 1) := by decide +kernel
theorem dX3_turn_10 : decode cX3_turn 10 = .ok (.invokevirtual 145, 3) := by decide +kernel
theorem dX3_turn_13 : decode cX3_turn 13 = .ok (.ifCond .eq 5, 3) := by decide +kernel
theorem dX3_turn_16 : decode cX3_turn 16 = .ok (.iconst (-1), 1) := by decide +kernel
theorem dX3_turn_17 : decode cX3_turn 17 = .ok (.ireturn, 1) := by decide +kernel
theorem dX3_turn_18 : decode cX3_turn 18 = .ok (.aload_n 0, 1) := by decide +kernel
theorem dX3_turn_19 : decode cX3_turn 19 = .ok (.getfield 16, 3) := by decide +kernel
theorem dX3_turn_22 : decode cX3_turn 22 = .ok (.iload_n 1, 1) := by decide +kernel
theorem dX3_turn_23 : decode cX3_turn 23 = .ok (.iaload, 1) := by decide +kernel
theorem dX3_turn_24 : decode cX3_turn 24 = .ok (.istore_n 3, 1) := by decide +kernel
theorem dX3_turn_25 : decode cX3_turn 25 = .ok (.aload_n 0, 1) := by decide +kernel
theorem dX3_turn_26 : decode cX3_turn 26 = .ok (.getfield 16, 3) := by decide +kernel
theorem dX3_turn_29 : decode cX3_turn 29 = .ok (.iload_n 1, 1) := by decide +kernel
theorem dX3_turn_30 : decode cX3_turn 30 = .ok (.iload_n 2, 1) := by decide +kernel
theorem dX3_turn_31 : decode cX3_turn 31 = .ok (.iastore, 1) := by decide +kernel
theorem dX3_turn_32 : decode cX3_turn 32 = .ok (.iload_n 3, 1) := by decide +kernel
theorem dX3_turn_33 : decode cX3_turn 33 = .ok (.ireturn, 1) := by decide +kernel
theorem dX3_behind_0 : decode cX3_behind 0 = .ok (.iload_n 3, 1) := by decide +kernel
theorem dX3_behind_1 : decode cX3_behind 1 = .ok (.aload_n 0, 1) := by decide +kernel
theorem dX3_behind_2 : decode cX3_behind 2 = .ok (.getfield 81, 3) := by decide +kernel
theorem dX3_behind_5 : decode cX3_behind 5 = .ok (.if_icmp .ne 5, 3) := by decide +kernel
theorem dX3_behind_8 : decode cX3_behind 8 = .ok (.iload_n 1, 1) := by decide +kernel
theorem dX3_behind_9 : decode cX3_behind 9 = .ok (.ireturn, 1) := by decide +kernel
theorem dX3_behind_10 : decode cX3_behind 10 = .ok (.iload_n 3, 1) := by decide +kernel
theorem dX3_behind_11 : decode cX3_behind 11 = .ok (.aload_n 0, 1) := by decide +kernel
theorem dX3_behind_12 : decode cX3_behind 12 = .ok (.getfield 22, 3) := by decide +kernel
theorem dX3_behind_15 : decode cX3_behind 15 = .ok (.if_icmp .eq 13, 3) := by decide +kernel
theorem dX3_behind_18 : decode cX3_behind 18 = .ok (.aload_n 0, 1) := by decide +kernel
theorem dX3_behind_19 : decode cX3_behind 19 = .ok (.getfield 13, 3) := by decide +kernel
theorem dX3_behind_22 : decode cX3_behind 22 = .ok (.iload_n 3, 1) := by decide +kernel
theorem dX3_behind_23 : decode cX3_behind 23 = .ok (.iaload, 1) := by decide +kernel
theorem dX3_behind_24 : decode cX3_behind 24 = .ok (.iload_n 1, 1) := by decide +kernel
theorem dX3_behind_25 : decode cX3_behind 25 = .ok (.if_icmp .eq 8, 3) := by decide +kernel
theorem dX3_behind_28 : decode cX3_behind 28 = .ok (.bipush (-9), 2) := by decide +kernel
theorem dX3_behind_30 : decode cX3_behind 30 = .ok (.goto 9, 3) := by decide +kernel
theorem dX3_behind_33 : decode cX3_behind 33 = .ok (.aload_n 0, 1) := by decide +kernel
theorem dX3_behind_34 : decode cX3_behind 34 = .ok (.iload_n 3, 1) := by decide +kernel
theorem dX3_behind_35 : decode cX3_behind 35 = .ok (.iload_n 2, 1) := by decide +kernel
theorem dX3_behind_36 : decode cX3_behind 36 = .ok (.invokevirtual 140, 3) := by decide +kernel
theorem dX3_behind_39 : decode cX3_behind 39 = .ok (.ireturn, 1) := by decide +kernel
theorem dX3_goWalk_0 : decode cX3_goWalk 0 = .ok (.aload_n 0, 1) := by decide +kernel
theorem dX3_goWalk_1 : decode cX3_goWalk 1 = .ok (.bipush (-9), 2) := by decide +kernel
theorem dX3_goWalk_3 : decode cX3_goWalk 3 = .ok (.putfield 148, 3) := by decide +kernel
theorem dX3_goWalk_6 : decode cX3_goWalk 6 = .ok (.aload_n 0, 1) := by decide +kernel
theorem dX3_goWalk_7 : decode cX3_goWalk 7 = .ok (.iload_n 1, 1) := by decide +kernel
theorem dX3_goWalk_8 : decode cX3_goWalk 8 = .ok (.putfield 151, 3) := by decide +kernel
theorem dX3_goWalk_11 : decode cX3_goWalk 11 = .ok (.aload_n 0, 1) := by decide +kernel
theorem dX3_goWalk_12 : decode cX3_goWalk 12 = .ok (.iconst 1, 1) := by decide +kernel
theorem dX3_goWalk_13 : decode cX3_goWalk 13 = .ok (.iload_n 1, 1) := by decide +kernel
theorem dX3_goWalk_14 : decode cX3_goWalk 14 = .ok (.ishl, 1) := by decide +kernel
theorem dX3_goWalk_15 : decode cX3_goWalk 15 = .ok (.putfield 154, 3) := by decide +kernel
theorem dX3_goWalk_18 : decode cX3_goWalk 18 = .ok (.aload_n 0, 1) := by decide +kernel
theorem dX3_goWalk_19 : decode cX3_goWalk 19 = .ok (.iconst 0, 1) := by decide +kernel
theorem dX3_goWalk_20 : decode cX3_goWalk 20 = .ok (.putfield 157, 3) := by decide +kernel
theorem dX3_goWalk_23 : decode cX3_goWalk 23 = .ok (.iconst 0, 1) := by decide +kernel
theorem dX3_goWalk_24 : decode cX3_goWalk 24 = .ok (.istore 5, 2) := by decide +kernel
theorem dX3_goWalk_26 : decode cX3_goWalk 26 = .ok (.iload 5, 2) := by decide +kernel
theorem dX3_goWalk_28 : decode cX3_goWalk 28 = .ok (.iload 4, 2) := by decide +kernel
theorem dX3_goWalk_30 : decode cX3_goWalk 30 = .ok (.if_icmp .ge 102, 3) := by decide +kernel
theorem dX3_goWalk_33 : decode cX3_goWalk 33 = .ok (.aload_n 0, 1) := by decide +kernel
theorem dX3_goWalk_34 : decode cX3_goWalk 34 = .ok (.getfield 148, 3) := by decide +kernel
theorem dX3_goWalk_37 : decode cX3_goWalk 37 = .ok (.ifCond .ge 95, 3) := by decide +kernel
theorem dX3_goWalk_40 : decode cX3_goWalk 40 = .ok (.aload_n 0, 1) := by decide +kernel
theorem dX3_goWalk_41 : decode cX3_goWalk 41 = .ok (.getfield 59, 3) := by decide +kernel
theorem dX3_goWalk_44 : decode cX3_goWalk 44 = .ok (.iload_n 3, 1) := by decide +kernel
theorem dX3_goWalk_45 : decode cX3_goWalk 45 = .ok (.iload 5, 2) := by decide +kernel
theorem dX3_goWalk_47 : decode cX3_goWalk 47 = .ok (.iadd, 1) := by decide +kernel
theorem dX3_goWalk_48 : decode cX3_goWalk 48 = .ok (.iaload, 1) := by decide +kernel
theorem dX3_goWalk_49 : decode cX3_goWalk 49 = .ok (.istore 6, 2) := by decide +kernel
theorem dX3_goWalk_51 : decode cX3_goWalk 51 = .ok (.aload_n 0, 1) := by decide +kernel
theorem dX3_goWalk_52 : decode cX3_goWalk 52 = .ok (.aload_n 0, 1) := by decide +kernel
theorem dX3_goWalk_53 : decode cX3_goWalk 53 = .ok (.getfield 151, 3) := by decide +kernel
theorem dX3_goWalk_56 : decode cX3_goWalk 56 = .ok (.iload_n 2, 1) := by decide +kernel
theorem dX3_goWalk_57 : decode cX3_goWalk 57 = .ok (.iload 5, 2) := by decide +kernel
theorem dX3_goWalk_59 : decode cX3_goWalk 59 = .ok (.iadd, 1) := by decide +kernel
theorem dX3_goWalk_60 : decode cX3_goWalk 60 = .ok (.bipush 12, 2) := by decide +kernel
theorem dX3_goWalk_62 : decode cX3_goWalk 62 = .ok (.irem, 1) := by decide +kernel
theorem dX3_goWalk_63 : decode cX3_goWalk 63 = .ok (.iload 6, 2) := by decide +kernel
theorem dX3_goWalk_65 : decode cX3_goWalk 65 = .ok (.invokevirtual 160, 3) := by decide +kernel
theorem dX3_goWalk_68 : decode cX3_goWalk 68 = .ok (.istore 7, 2) := by decide +kernel
theorem dX3_goWalk_70 : decode cX3_goWalk 70 = .ok (.iload 7, 2) := by decide +kernel
theorem dX3_goWalk_72 : decode cX3_goWalk 72 = .ok (.ifCond .ge 12, 3) := by decide +kernel
theorem dX3_goWalk_75 : decode cX3_goWalk 75 = .ok (.aload_n 0, 1) := by decide +kernel
theorem dX3_goWalk_76 : decode cX3_goWalk 76 = .ok (.iload 5, 2) := by decide +kernel
theorem dX3_goWalk_78 : decode cX3_goWalk 78 = .ok (.putfield 148, 3) := by decide +kernel
theorem dX3_goWalk_81 : decode cX3_goWalk 81 = .ok (.goto 45, 3) := by decide +kernel
theorem dX3_goWalk_84 : decode cX3_goWalk 84 = .ok (.aload_n 0, 1) := by decide +kernel
theorem dX3_goWalk_85 : decode cX3_goWalk 85 = .ok (.iload 7, 2) := by decide +kernel
theorem dX3_goWalk_87 : decode cX3_goWalk 87 = .ok (.putfield 151, 3) := by decide +kernel
theorem dX3_goWalk_90 : decode cX3_goWalk 90 = .ok (.aload_n 0, 1) := by decide +kernel
theorem dX3_goWalk_91 : decode cX3_goWalk 91 = .ok (.dup, 1) := by decide +kernel
theorem dX3_goWalk_92 : decode cX3_goWalk 92 = .ok (.getfield 154, 3) := by decide +kernel
theorem dX3_goWalk_95 : decode cX3_goWalk 95 = .ok (.iconst 1, 1) := by decide +kernel
theorem dX3_goWalk_96 : decode cX3_goWalk 96 = .ok (.iload 7, 2) := by decide +kernel
theorem dX3_goWalk_98 : decode cX3_goWalk 98 = .ok (.ishl, 1) := by decide +kernel
theorem dX3_goWalk_99 : decode cX3_goWalk 99 = .ok (.ior, 1) := by decide +kernel
theorem dX3_goWalk_100 : decode cX3_goWalk 100 = .ok (.putfield 154, 3) := by decide +kernel
theorem dX3_goWalk_103 : decode cX3_goWalk 103 = .ok (.aload_n 0, 1) := by decide +kernel
theorem dX3_goWalk_104 : decode cX3_goWalk 104 = .ok (.dup, 1) := by decide +kernel
theorem dX3_goWalk_105 : decode cX3_goWalk 105 = .ok (.getfield 157, 3) := by decide +kernel
theorem dX3_goWalk_108 : decode cX3_goWalk 108 = .ok (.iload 6, 2) := by decide +kernel
theorem dX3_goWalk_110 : decode cX3_goWalk 110 = .ok (.aload_n 0, 1) := by decide +kernel
theorem dX3_goWalk_111 : decode cX3_goWalk 111 = .ok (.getfield 81, 3) := by decide +kernel
theorem dX3_goWalk_114 : decode cX3_goWalk 114 = .ok (.if_icmp .ge 7, 3) := by decide +kernel
theorem dX3_goWalk_117 : decode cX3_goWalk 117 = .ok (.iconst 1, 1) := by decide +kernel
theorem dX3_goWalk_118 : decode cX3_goWalk 118 = .ok (.goto 4, 3) := by decide +kernel
theorem dX3_goWalk_121 : decode cX3_goWalk 121 = .ok (.iconst 0, 1) := by decide +kernel
theorem dX3_goWalk_122 : decode cX3_goWalk 122 = .ok (.iadd, 1) := by decide +kernel
theorem dX3_goWalk_123 : decode cX3_goWalk 123 = .ok (.putfield 157, 3) := by decide +kernel
theorem dX3_goWalk_126 : decode cX3_goWalk 126 = .ok (.iinc 5 1, 3) := by decide +kernel
theorem dX3_goWalk_129 : decode cX3_goWalk 129 = .ok (.goto (-103), 3) := by decide +kernel
theorem dX3_goWalk_132 : decode cX3_goWalk 132 = .ok (.return_, 1) := by decide +kernel
theorem dX3_walk_0 : decode cX3_walk 0 = .ok (.aload_n 0, 1) := by decide +kernel
theorem dX3_walk_1 : decode cX3_walk 1 = .ok (.iload_n 1, 1) := by decide +kernel
theorem dX3_walk_2 : decode cX3_walk 2 = .ok (.invokevirtual 145, 3) := by decide +kernel
theorem dX3_walk_5 : decode cX3_walk 5 = .ok (.ifCond .ne 10, 3) := by decide +kernel
theorem dX3_walk_8 : decode cX3_walk 8 = .ok (.iload_n 3, 1) := by decide +kernel
theorem dX3_walk_9 : decode cX3_walk 9 = .ok (.invokestatic 115, 3) := by decide +kernel
theorem dX3_walk_12 : decode cX3_walk 12 = .ok (.ifCond .eq 9, 3) := by decide +kernel
theorem dX3_walk_15 : decode cX3_walk 15 = .ok (.aload_n 0, 1) := by decide +kernel
theorem dX3_walk_16 : decode cX3_walk 16 = .ok (.iconst (-1), 1) := by decide +kernel
theorem dX3_walk_17 : decode cX3_walk 17 = .ok (.invokevirtual 119, 3) := by decide +kernel
theorem dX3_walk_20 : decode cX3_walk 20 = .ok (.ireturn, 1) := by decide +kernel
theorem dX3_walk_21 : decode cX3_walk 21 = .ok (.iload_n 2, 1) := by decide +kernel
theorem dX3_walk_22 : decode cX3_walk 22 = .ok (.invokestatic 137, 3) := by decide +kernel
theorem dX3_walk_25 : decode cX3_walk 25 = .ok (.ifCond .ne 42, 3) := by decide +kernel
theorem dX3_walk_28 : decode cX3_walk 28 = .ok (.iload 4, 2) := by decide +kernel
theorem dX3_walk_30 : decode cX3_walk 30 = .ok (.i2l, 1) := by decide +kernel
theorem dX3_walk_31 : decode cX3_walk 31 = .ok (.lconst 0, 1) := by decide +kernel
theorem dX3_walk_32 : decode cX3_walk 32 = .ok (.ldc2_w 122, 3) := by decide +kernel
theorem dX3_walk_35 : decode cX3_walk 35 = .ok (.invokestatic 77, 3) := by decide +kernel
theorem dX3_walk_38 : decode cX3_walk 38 = .ok (.ifCond .eq 29, 3) := by decide +kernel
theorem dX3_walk_41 : decode cX3_walk 41 = .ok (.iload 6, 2) := by decide +kernel
theorem dX3_walk_43 : decode cX3_walk 43 = .ok (.i2l, 1) := by decide +kernel
theorem dX3_walk_44 : decode cX3_walk 44 = .ok (.lconst 0, 1) := by decide +kernel
theorem dX3_walk_45 : decode cX3_walk 45 = .ok (.ldc2_w 164, 3) := by decide +kernel
theorem dX3_walk_48 : decode cX3_walk 48 = .ok (.invokestatic 77, 3) := by decide +kernel
theorem dX3_walk_51 : decode cX3_walk 51 = .ok (.ifCond .eq 16, 3) := by decide +kernel
theorem dX3_walk_54 : decode cX3_walk 54 = .ok (.iload 7, 2) := by decide +kernel
theorem dX3_walk_56 : decode cX3_walk 56 = .ok (.i2l, 1) := by decide +kernel
theorem dX3_walk_57 : decode cX3_walk 57 = .ok (.lconst 0, 1) := by decide +kernel
theorem dX3_walk_58 : decode cX3_walk 58 = .ok (.ldc2_w 166, 3) := by decide +kernel
theorem dX3_walk_61 : decode cX3_walk 61 = .ok (.invokestatic 77, 3) := by decide +kernel
theorem dX3_walk_64 : decode cX3_walk 64 = .ok (.ifCond .ne 10, 3) := by decide +kernel
theorem dX3_walk_67 : decode cX3_walk 67 = .ok (.aload_n 0, 1) := by decide +kernel
theorem dX3_walk_68 : decode cX3_walk 68 = .ok (.bipush (-2), 2) := by decide +kernel
theorem dX3_walk_70 : decode cX3_walk 70 = .ok (.invokevirtual 119, 3) := by decide +kernel
theorem dX3_walk_73 : decode cX3_walk 73 = .ok (.ireturn, 1) := by decide +kernel
theorem dX3_walk_74 : decode cX3_walk 74 = .ok (.aload_n 0, 1) := by decide +kernel
theorem dX3_walk_75 : decode cX3_walk 75 = .ok (.iload_n 3, 1) := by decide +kernel
theorem dX3_walk_76 : decode cX3_walk 76 = .ok (.iload 4, 2) := by decide +kernel
theorem dX3_walk_78 : decode cX3_walk 78 = .ok (.iload 5, 2) := by decide +kernel
theorem dX3_walk_80 : decode cX3_walk 80 = .ok (.iload 6, 2) := by decide +kernel
theorem dX3_walk_82 : decode cX3_walk 82 = .ok (.i2l, 1) := by decide +kernel
theorem dX3_walk_83 : decode cX3_walk 83 = .ok (.invokevirtual 124, 3) := by decide +kernel
theorem dX3_walk_86 : decode cX3_walk 86 = .ok (.istore 8, 2) := by decide +kernel
theorem dX3_walk_88 : decode cX3_walk 88 = .ok (.iload 8, 2) := by decide +kernel
theorem dX3_walk_90 : decode cX3_walk 90 = .ok (.ifCond .ge 6, 3) := by decide +kernel
theorem dX3_walk_93 : decode cX3_walk 93 = .ok (.iload 8, 2) := by decide +kernel
theorem dX3_walk_95 : decode cX3_walk 95 = .ok (.ireturn, 1) := by decide +kernel
theorem dX3_walk_96 : decode cX3_walk 96 = .ok (.iconst 0, 1) := by decide +kernel
theorem dX3_walk_97 : decode cX3_walk 97 = .ok (.istore 9, 2) := by decide +kernel
theorem dX3_walk_99 : decode cX3_walk 99 = .ok (.iload 9, 2) := by decide +kernel
theorem dX3_walk_101 : decode cX3_walk 101 = .ok (.iload 6, 2) := by decide +kernel
theorem dX3_walk_103 : decode cX3_walk 103 = .ok (.if_icmp .ge 44, 3) := by decide +kernel
theorem dX3_walk_106 : decode cX3_walk 106 = .ok (.aload_n 0, 1) := by decide +kernel
theorem dX3_walk_107 : decode cX3_walk 107 = .ok (.getfield 59, 3) := by decide +kernel
theorem dX3_walk_110 : decode cX3_walk 110 = .ok (.bipush 60, 2) := by decide +kernel
theorem dX3_walk_112 : decode cX3_walk 112 = .ok (.iload_n 3, 1) := by decide +kernel
theorem dX3_walk_113 : decode cX3_walk 113 = .ok (.imul, 1) := by decide +kernel
theorem dX3_walk_114 : decode cX3_walk 114 = .ok (.iload 5, 2) := by decide +kernel
theorem dX3_walk_116 : decode cX3_walk 116 = .ok (.iadd, 1) := by decide +kernel
theorem dX3_walk_117 : decode cX3_walk 117 = .ok (.iload 9, 2) := by decide +kernel
theorem dX3_walk_119 : decode cX3_walk 119 = .ok (.iadd, 1) := by decide +kernel
theorem dX3_walk_120 : decode cX3_walk 120 = .ok (.iaload, 1) := by decide +kernel
theorem dX3_walk_121 : decode cX3_walk 121 = .ok (.i2l, 1) := by decide +kernel
theorem dX3_walk_122 : decode cX3_walk 122 = .ok (.lconst 0, 1) := by decide +kernel
theorem dX3_walk_123 : decode cX3_walk 123 = .ok (.aload_n 0, 1) := by decide +kernel
theorem dX3_walk_124 : decode cX3_walk 124 = .ok (.getfield 81, 3) := by decide +kernel
theorem dX3_walk_127 : decode cX3_walk 127 = .ok (.i2l, 1) := by decide +kernel
theorem dX3_walk_128 : decode cX3_walk 128 = .ok (.invokestatic 77, 3) := by decide +kernel
theorem dX3_walk_131 : decode cX3_walk 131 = .ok (.ifCond .ne 10, 3) := by decide +kernel
theorem dX3_walk_134 : decode cX3_walk 134 = .ok (.aload_n 0, 1) := by decide +kernel
theorem dX3_walk_135 : decode cX3_walk 135 = .ok (.bipush (-2), 2) := by decide +kernel
theorem dX3_walk_137 : decode cX3_walk 137 = .ok (.invokevirtual 119, 3) := by decide +kernel
theorem dX3_walk_140 : decode cX3_walk 140 = .ok (.ireturn, 1) := by decide +kernel
theorem dX3_walk_141 : decode cX3_walk 141 = .ok (.iinc 9 1, 3) := by decide +kernel
theorem dX3_walk_144 : decode cX3_walk 144 = .ok (.goto (-45), 3) := by decide +kernel
theorem dX3_walk_147 : decode cX3_walk 147 = .ok (.aload_n 0, 1) := by decide +kernel
theorem dX3_walk_148 : decode cX3_walk 148 = .ok (.iload_n 1, 1) := by decide +kernel
theorem dX3_walk_149 : decode cX3_walk 149 = .ok (.iload_n 2, 1) := by decide +kernel
theorem dX3_walk_150 : decode cX3_walk 150 = .ok (.bipush 60, 2) := by decide +kernel
theorem dX3_walk_152 : decode cX3_walk 152 = .ok (.iload_n 3, 1) := by decide +kernel
theorem dX3_walk_153 : decode cX3_walk 153 = .ok (.imul, 1) := by decide +kernel
theorem dX3_walk_154 : decode cX3_walk 154 = .ok (.iload 5, 2) := by decide +kernel
theorem dX3_walk_156 : decode cX3_walk 156 = .ok (.iadd, 1) := by decide +kernel
theorem dX3_walk_157 : decode cX3_walk 157 = .ok (.iload 6, 2) := by decide +kernel
theorem dX3_walk_159 : decode cX3_walk 159 = .ok (.invokevirtual 168, 3) := by decide +kernel
theorem dX3_walk_162 : decode cX3_walk 162 = .ok (.iload 7, 2) := by decide +kernel
theorem dX3_walk_164 : decode cX3_walk 164 = .ok (.iconst 1, 1) := by decide +kernel
theorem dX3_walk_165 : decode cX3_walk 165 = .ok (.if_icmp .ne 12, 3) := by decide +kernel
theorem dX3_walk_168 : decode cX3_walk 168 = .ok (.aload_n 0, 1) := by decide +kernel
theorem dX3_walk_169 : decode cX3_walk 169 = .ok (.aload_n 0, 1) := by decide +kernel
theorem dX3_walk_170 : decode cX3_walk 170 = .ok (.getfield 148, 3) := by decide +kernel
theorem dX3_walk_173 : decode cX3_walk 173 = .ok (.invokevirtual 119, 3) := by decide +kernel
theorem dX3_walk_176 : decode cX3_walk 176 = .ok (.ireturn, 1) := by decide +kernel
theorem dX3_walk_177 : decode cX3_walk 177 = .ok (.aload_n 0, 1) := by decide +kernel
theorem dX3_walk_178 : decode cX3_walk 178 = .ok (.getfield 148, 3) := by decide +kernel
theorem dX3_walk_181 : decode cX3_walk 181 = .ok (.ifCond .lt 15, 3) := by decide +kernel
theorem dX3_walk_184 : decode cX3_walk 184 = .ok (.aload_n 0, 1) := by decide +kernel
theorem dX3_walk_185 : decode cX3_walk 185 = .ok (.bipush (-100), 2) := by decide +kernel
theorem dX3_walk_187 : decode cX3_walk 187 = .ok (.aload_n 0, 1) := by decide +kernel
theorem dX3_walk_188 : decode cX3_walk 188 = .ok (.getfield 148, 3) := by decide +kernel
theorem dX3_walk_191 : decode cX3_walk 191 = .ok (.isub, 1) := by decide +kernel
theorem dX3_walk_192 : decode cX3_walk 192 = .ok (.invokevirtual 119, 3) := by decide +kernel
theorem dX3_walk_195 : decode cX3_walk 195 = .ok (.ireturn, 1) := by decide +kernel
theorem dX3_walk_196 : decode cX3_walk 196 = .ok (.iload 7, 2) := by decide +kernel
theorem dX3_walk_198 : decode cX3_walk 198 = .ok (.tableswitch 60 0 3 #[30, 60, 39, 48], 30) := by decide +kernel
theorem dX3_walk_228 : decode cX3_walk 228 = .ok (.aload_n 0, 1) := by decide +kernel
theorem dX3_walk_229 : decode cX3_walk 229 = .ok (.aload_n 0, 1) := by decide +kernel
theorem dX3_walk_230 : decode cX3_walk 230 = .ok (.getfield 151, 3) := by decide +kernel
theorem dX3_walk_233 : decode cX3_walk 233 = .ok (.invokevirtual 119, 3) := by decide +kernel
theorem dX3_walk_236 : decode cX3_walk 236 = .ok (.ireturn, 1) := by decide +kernel
theorem dX3_walk_237 : decode cX3_walk 237 = .ok (.aload_n 0, 1) := by decide +kernel
theorem dX3_walk_238 : decode cX3_walk 238 = .ok (.aload_n 0, 1) := by decide +kernel
theorem dX3_walk_239 : decode cX3_walk 239 = .ok (.getfield 154, 3) := by decide +kernel
theorem dX3_walk_242 : decode cX3_walk 242 = .ok (.invokevirtual 119, 3) := by decide +kernel
theorem dX3_walk_245 : decode cX3_walk 245 = .ok (.ireturn, 1) := by decide +kernel
theorem dX3_walk_246 : decode cX3_walk 246 = .ok (.aload_n 0, 1) := by decide +kernel
theorem dX3_walk_247 : decode cX3_walk 247 = .ok (.iload_n 2, 1) := by decide +kernel
theorem dX3_walk_248 : decode cX3_walk 248 = .ok (.iload 6, 2) := by decide +kernel
theorem dX3_walk_250 : decode cX3_walk 250 = .ok (.iadd, 1) := by decide +kernel
theorem dX3_walk_251 : decode cX3_walk 251 = .ok (.bipush 12, 2) := by decide +kernel
theorem dX3_walk_253 : decode cX3_walk 253 = .ok (.irem, 1) := by decide +kernel
theorem dX3_walk_254 : decode cX3_walk 254 = .ok (.invokevirtual 119, 3) := by decide +kernel
theorem dX3_walk_257 : decode cX3_walk 257 = .ok (.ireturn, 1) := by decide +kernel
theorem dX3_walk_258 : decode cX3_walk 258 = .ok (.aload_n 0, 1) := by decide +kernel
theorem dX3_walk_259 : decode cX3_walk 259 = .ok (.aload_n 0, 1) := by decide +kernel
theorem dX3_walk_260 : decode cX3_walk 260 = .ok (.getfield 157, 3) := by decide +kernel
theorem dX3_walk_263 : decode cX3_walk 263 = .ok (.invokevirtual 119, 3) := by decide +kernel
theorem dX3_walk_266 : decode cX3_walk 266 = .ok (.ireturn, 1) := by decide +kernel
theorem dX3_setBehind_0 : decode cX3_setBehind 0 = .ok (.iload_n 1, 1) := by decide +kernel
theorem dX3_setBehind_1 : decode cX3_setBehind 1 = .ok (.istore_n 3, 1) := by decide +kernel
theorem dX3_setBehind_2 : decode cX3_setBehind 2 = .ok (.iconst 0, 1) := by decide +kernel
theorem dX3_setBehind_3 : decode cX3_setBehind 3 = .ok (.istore 4, 2) := by decide +kernel
theorem dX3_setBehind_5 : decode cX3_setBehind 5 = .ok (.iload 4, 2) := by decide +kernel
theorem dX3_setBehind_7 : decode cX3_setBehind 7 = .ok (.aload_n 0, 1) := by decide +kernel
theorem dX3_setBehind_8 : decode cX3_setBehind 8 = .ok (.getfield 81, 3) := by decide +kernel
theorem dX3_setBehind_11 : decode cX3_setBehind 11 = .ok (.if_icmp .ge 60, 3) := by decide +kernel
theorem dX3_setBehind_14 : decode cX3_setBehind 14 = .ok (.iload_n 1, 1) := by decide +kernel
theorem dX3_setBehind_15 : decode cX3_setBehind 15 = .ok (.aload_n 0, 1) := by decide +kernel
theorem dX3_setBehind_16 : decode cX3_setBehind 16 = .ok (.getfield 13, 3) := by decide +kernel
theorem dX3_setBehind_19 : decode cX3_setBehind 19 = .ok (.iload 4, 2) := by decide +kernel
theorem dX3_setBehind_21 : decode cX3_setBehind 21 = .ok (.iaload, 1) := by decide +kernel
theorem dX3_setBehind_22 : decode cX3_setBehind 22 = .ok (.invokestatic 172, 3) := by decide +kernel
theorem dX3_setBehind_25 : decode cX3_setBehind 25 = .ok (.ifCond .eq 20, 3) := by decide +kernel
theorem dX3_setBehind_28 : decode cX3_setBehind 28 = .ok (.aload_n 0, 1) := by decide +kernel
theorem dX3_setBehind_29 : decode cX3_setBehind 29 = .ok (.aload_n 0, 1) := by decide +kernel
theorem dX3_setBehind_30 : decode cX3_setBehind 30 = .ok (.getfield 13, 3) := by decide +kernel
theorem dX3_setBehind_33 : decode cX3_setBehind 33 = .ok (.iload 4, 2) := by decide +kernel
theorem dX3_setBehind_35 : decode cX3_setBehind 35 = .ok (.iaload, 1) := by decide +kernel
theorem dX3_setBehind_36 : decode cX3_setBehind 36 = .ok (.iload_n 2, 1) := by decide +kernel
theorem dX3_setBehind_37 : decode cX3_setBehind 37 = .ok (.iload 4, 2) := by decide +kernel
theorem dX3_setBehind_39 : decode cX3_setBehind 39 = .ok (.invokevirtual 160, 3) := by decide +kernel
theorem dX3_setBehind_42 : decode cX3_setBehind 42 = .ok (.goto 5, 3) := by decide +kernel
theorem dX3_setBehind_45 : decode cX3_setBehind 45 = .ok (.bipush (-9), 2) := by decide +kernel
theorem dX3_setBehind_47 : decode cX3_setBehind 47 = .ok (.istore 5, 2) := by decide +kernel
theorem dX3_setBehind_49 : decode cX3_setBehind 49 = .ok (.iload_n 3, 1) := by decide +kernel
theorem dX3_setBehind_50 : decode cX3_setBehind 50 = .ok (.iload 5, 2) := by decide +kernel
theorem dX3_setBehind_52 : decode cX3_setBehind 52 = .ok (.ifCond .lt 10, 3) := by decide +kernel
theorem dX3_setBehind_55 : decode cX3_setBehind 55 = .ok (.iconst 1, 1) := by decide +kernel
theorem dX3_setBehind_56 : decode cX3_setBehind 56 = .ok (.iload 5, 2) := by decide +kernel
theorem dX3_setBehind_58 : decode cX3_setBehind 58 = .ok (.ishl, 1) := by decide +kernel
theorem dX3_setBehind_59 : decode cX3_setBehind 59 = .ok (.goto 4, 3) := by decide +kernel
theorem dX3_setBehind_62 : decode cX3_setBehind 62 = .ok (.iconst 0, 1) := by decide +kernel
theorem dX3_setBehind_63 : decode cX3_setBehind 63 = .ok (.ior, 1) := by decide +kernel
theorem dX3_setBehind_64 : decode cX3_setBehind 64 = .ok (.istore_n 3, 1) := by decide +kernel
theorem dX3_setBehind_65 : decode cX3_setBehind 65 = .ok (.iinc 4 1, 3) := by decide +kernel
theorem dX3_setBehind_68 : decode cX3_setBehind 68 = .ok (.goto (-63), 3) := by decide +kernel
theorem dX3_setBehind_71 : decode cX3_setBehind 71 = .ok (.iload_n 3, 1) := by decide +kernel
theorem dX3_setBehind_72 : decode cX3_setBehind 72 = .ok (.ireturn, 1) := by decide +kernel
theorem dX3_soonestOf_0 : decode cX3_soonestOf 0 = .ok (.iconst 1, 1) := by decide +kernel
theorem dX3_soonestOf_1 : decode cX3_soonestOf 1 = .ok (.iload_n 1, 1) := by decide +kernel
theorem dX3_soonestOf_2 : decode cX3_soonestOf 2 = .ok (.ishl, 1) := by decide +kernel
theorem dX3_soonestOf_3 : decode cX3_soonestOf 3 = .ok (.istore 5, 2) := by decide +kernel
theorem dX3_soonestOf_5 : decode cX3_soonestOf 5 = .ok (.iconst 0, 1) := by decide +kernel
theorem dX3_soonestOf_6 : decode cX3_soonestOf 6 = .ok (.istore 6, 2) := by decide +kernel
theorem dX3_soonestOf_8 : decode cX3_soonestOf 8 = .ok (.iload 6, 2) := by decide +kernel
theorem dX3_soonestOf_10 : decode cX3_soonestOf 10 = .ok (.iload 4, 2) := by decide +kernel
theorem dX3_soonestOf_12 : decode cX3_soonestOf 12 = .ok (.if_icmp .gt 36, 3) := by decide +kernel
theorem dX3_soonestOf_15 : decode cX3_soonestOf 15 = .ok (.iload 5, 2) := by decide +kernel
theorem dX3_soonestOf_17 : decode cX3_soonestOf 17 = .ok (.iload_n 2, 1) := by decide +kernel
theorem dX3_soonestOf_18 : decode cX3_soonestOf 18 = .ok (.invokestatic 172, 3) := by decide +kernel
theorem dX3_soonestOf_21 : decode cX3_soonestOf 21 = .ok (.ifCond .eq 6, 3) := by decide +kernel
theorem dX3_soonestOf_24 : decode cX3_soonestOf 24 = .ok (.iload 6, 2) := by decide +kernel
theorem dX3_soonestOf_26 : decode cX3_soonestOf 26 = .ok (.ireturn, 1) := by decide +kernel
theorem dX3_soonestOf_27 : decode cX3_soonestOf 27 = .ok (.aload_n 0, 1) := by decide +kernel
theorem dX3_soonestOf_28 : decode cX3_soonestOf 28 = .ok (.iload 5, 2) := by decide +kernel
theorem dX3_soonestOf_30 : decode cX3_soonestOf 30 = .ok (.iload_n 3, 1) := by decide +kernel
theorem dX3_soonestOf_31 : decode cX3_soonestOf 31 = .ok (.iload 6, 2) := by decide +kernel
theorem dX3_soonestOf_33 : decode cX3_soonestOf 33 = .ok (.iadd, 1) := by decide +kernel
theorem dX3_soonestOf_34 : decode cX3_soonestOf 34 = .ok (.bipush 12, 2) := by decide +kernel
theorem dX3_soonestOf_36 : decode cX3_soonestOf 36 = .ok (.irem, 1) := by decide +kernel
theorem dX3_soonestOf_37 : decode cX3_soonestOf 37 = .ok (.invokevirtual 175, 3) := by decide +kernel
theorem dX3_soonestOf_40 : decode cX3_soonestOf 40 = .ok (.istore 5, 2) := by decide +kernel
theorem dX3_soonestOf_42 : decode cX3_soonestOf 42 = .ok (.iinc 6 1, 3) := by decide +kernel
theorem dX3_soonestOf_45 : decode cX3_soonestOf 45 = .ok (.goto (-37), 3) := by decide +kernel
theorem dX3_soonestOf_48 : decode cX3_soonestOf 48 = .ok (.bipush (-9), 2) := by decide +kernel
theorem dX3_soonestOf_50 : decode cX3_soonestOf 50 = .ok (.ireturn, 1) := by decide +kernel
theorem dX3_soonest_0 : decode cX3_soonest 0 = .ok (.aload_n 0, 1) := by decide +kernel
theorem dX3_soonest_1 : decode cX3_soonest 1 = .ok (.iload_n 1, 1) := by decide +kernel
theorem dX3_soonest_2 : decode cX3_soonest 2 = .ok (.invokevirtual 145, 3) := by decide +kernel
theorem dX3_soonest_5 : decode cX3_soonest 5 = .ok (.ifCond .ne 11, 3) := by decide +kernel
theorem dX3_soonest_8 : decode cX3_soonest 8 = .ok (.aload_n 0, 1) := by decide +kernel
theorem dX3_soonest_9 : decode cX3_soonest 9 = .ok (.iload_n 2, 1) := by decide +kernel
theorem dX3_soonest_10 : decode cX3_soonest 10 = .ok (.invokevirtual 145, 3) := by decide +kernel
theorem dX3_soonest_13 : decode cX3_soonest 13 = .ok (.ifCond .eq 5, 3) := by decide +kernel
theorem dX3_soonest_16 : decode cX3_soonest 16 = .ok (.iconst (-1), 1) := by decide +kernel
theorem dX3_soonest_17 : decode cX3_soonest 17 = .ok (.ireturn, 1) := by decide +kernel
theorem dX3_soonest_18 : decode cX3_soonest 18 = .ok (.iload_n 3, 1) := by decide +kernel
theorem dX3_soonest_19 : decode cX3_soonest 19 = .ok (.invokestatic 137, 3) := by decide +kernel
theorem dX3_soonest_22 : decode cX3_soonest 22 = .ok (.ifCond .ne 18, 3) := by decide +kernel
theorem dX3_soonest_25 : decode cX3_soonest 25 = .ok (.iload 4, 2) := by decide +kernel
theorem dX3_soonest_27 : decode cX3_soonest 27 = .ok (.i2l, 1) := by decide +kernel
theorem dX3_soonest_28 : decode cX3_soonest 28 = .ok (.ldc2_w 178, 3) := by decide +kernel
theorem dX3_soonest_31 : decode cX3_soonest 31 = .ok (.ldc2_w 180, 3) := by decide +kernel
theorem dX3_soonest_34 : decode cX3_soonest 34 = .ok (.invokestatic 77, 3) := by decide +kernel
theorem dX3_soonest_37 : decode cX3_soonest 37 = .ok (.ifCond .ne 6, 3) := by decide +kernel
theorem dX3_soonest_40 : decode cX3_soonest 40 = .ok (.bipush (-2), 2) := by decide +kernel
theorem dX3_soonest_42 : decode cX3_soonest 42 = .ok (.ireturn, 1) := by decide +kernel
theorem dX3_soonest_43 : decode cX3_soonest 43 = .ok (.aload_n 0, 1) := by decide +kernel
theorem dX3_soonest_44 : decode cX3_soonest 44 = .ok (.iload_n 1, 1) := by decide +kernel
theorem dX3_soonest_45 : decode cX3_soonest 45 = .ok (.iload_n 2, 1) := by decide +kernel
theorem dX3_soonest_46 : decode cX3_soonest 46 = .ok (.iload_n 3, 1) := by decide +kernel
theorem dX3_soonest_47 : decode cX3_soonest 47 = .ok (.bipush 24, 2) := by decide +kernel
theorem dX3_soonest_49 : decode cX3_soonest 49 = .ok (.invokevirtual 182, 3) := by decide +kernel
theorem dX3_soonest_52 : decode cX3_soonest 52 = .ok (.istore 5, 2) := by decide +kernel
theorem dX3_soonest_54 : decode cX3_soonest 54 = .ok (.iload 4, 2) := by decide +kernel
theorem dX3_soonest_56 : decode cX3_soonest 56 = .ok (.ifCond .lt 10, 3) := by decide +kernel
theorem dX3_soonest_59 : decode cX3_soonest 59 = .ok (.iload 4, 2) := by decide +kernel
theorem dX3_soonest_61 : decode cX3_soonest 61 = .ok (.iload 5, 2) := by decide +kernel
theorem dX3_soonest_63 : decode cX3_soonest 63 = .ok (.if_icmp .lt 16, 3) := by decide +kernel
theorem dX3_soonest_66 : decode cX3_soonest 66 = .ok (.iload 4, 2) := by decide +kernel
theorem dX3_soonest_68 : decode cX3_soonest 68 = .ok (.ifCond .ge 8, 3) := by decide +kernel
theorem dX3_soonest_71 : decode cX3_soonest 71 = .ok (.iload 5, 2) := by decide +kernel
theorem dX3_soonest_73 : decode cX3_soonest 73 = .ok (.goto 5, 3) := by decide +kernel
theorem dX3_soonest_76 : decode cX3_soonest 76 = .ok (.bipush (-9), 2) := by decide +kernel
theorem dX3_soonest_78 : decode cX3_soonest 78 = .ok (.ireturn, 1) := by decide +kernel
theorem dX3_soonest_79 : decode cX3_soonest 79 = .ok (.iload_n 1, 1) := by decide +kernel
theorem dX3_soonest_80 : decode cX3_soonest 80 = .ok (.istore 6, 2) := by decide +kernel
theorem dX3_soonest_82 : decode cX3_soonest 82 = .ok (.bipush (-9), 2) := by decide +kernel
theorem dX3_soonest_84 : decode cX3_soonest 84 = .ok (.istore 7, 2) := by decide +kernel
theorem dX3_soonest_86 : decode cX3_soonest 86 = .ok (.iconst 0, 1) := by decide +kernel
theorem dX3_soonest_87 : decode cX3_soonest 87 = .ok (.istore 8, 2) := by decide +kernel
theorem dX3_soonest_89 : decode cX3_soonest 89 = .ok (.iload 8, 2) := by decide +kernel
theorem dX3_soonest_91 : decode cX3_soonest 91 = .ok (.iload 4, 2) := by decide +kernel
theorem dX3_soonest_93 : decode cX3_soonest 93 = .ok (.if_icmp .gt 121, 3) := by decide +kernel
theorem dX3_soonest_96 : decode cX3_soonest 96 = .ok (.iload_n 3, 1) := by decide +kernel
theorem dX3_soonest_97 : decode cX3_soonest 97 = .ok (.iload 8, 2) := by decide +kernel
theorem dX3_soonest_99 : decode cX3_soonest 99 = .ok (.iadd, 1) := by decide +kernel
theorem dX3_soonest_100 : decode cX3_soonest 100 = .ok (.bipush 12, 2) := by decide +kernel
theorem dX3_soonest_102 : decode cX3_soonest 102 = .ok (.irem, 1) := by decide +kernel
theorem dX3_soonest_103 : decode cX3_soonest 103 = .ok (.istore 9, 2) := by decide +kernel
theorem dX3_soonest_105 : decode cX3_soonest 105 = .ok (.bipush (-9), 2) := by decide +kernel
theorem dX3_soonest_107 : decode cX3_soonest 107 = .ok (.istore 10, 2) := by decide +kernel
theorem dX3_soonest_109 : decode cX3_soonest 109 = .ok (.aload_n 0, 1) := by decide +kernel
theorem dX3_soonest_110 : decode cX3_soonest 110 = .ok (.getfield 81, 3) := by decide +kernel
theorem dX3_soonest_113 : decode cX3_soonest 113 = .ok (.istore 11, 2) := by decide +kernel
theorem dX3_soonest_115 : decode cX3_soonest 115 = .ok (.iload 11, 2) := by decide +kernel
theorem dX3_soonest_117 : decode cX3_soonest 117 = .ok (.ifCond .lt 87, 3) := by decide +kernel
theorem dX3_soonest_120 : decode cX3_soonest 120 = .ok (.aload_n 0, 1) := by decide +kernel
theorem dX3_soonest_121 : decode cX3_soonest 121 = .ok (.iload 6, 2) := by decide +kernel
theorem dX3_soonest_123 : decode cX3_soonest 123 = .ok (.iload 9, 2) := by decide +kernel
theorem dX3_soonest_125 : decode cX3_soonest 125 = .ok (.iload 11, 2) := by decide +kernel
theorem dX3_soonest_127 : decode cX3_soonest 127 = .ok (.invokevirtual 160, 3) := by decide +kernel
theorem dX3_soonest_130 : decode cX3_soonest 130 = .ok (.istore 12, 2) := by decide +kernel
theorem dX3_soonest_132 : decode cX3_soonest 132 = .ok (.iload 12, 2) := by decide +kernel
theorem dX3_soonest_134 : decode cX3_soonest 134 = .ok (.ifCond .lt 33, 3) := by decide +kernel
theorem dX3_soonest_137 : decode cX3_soonest 137 = .ok (.aload_n 0, 1) := by decide +kernel
theorem dX3_soonest_138 : decode cX3_soonest 138 = .ok (.iload 12, 2) := by decide +kernel
theorem dX3_soonest_140 : decode cX3_soonest 140 = .ok (.iload_n 2, 1) := by decide +kernel
theorem dX3_soonest_141 : decode cX3_soonest 141 = .ok (.iload 9, 2) := by decide +kernel
theorem dX3_soonest_143 : decode cX3_soonest 143 = .ok (.iconst 1, 1) := by decide +kernel
theorem dX3_soonest_144 : decode cX3_soonest 144 = .ok (.iadd, 1) := by decide +kernel
theorem dX3_soonest_145 : decode cX3_soonest 145 = .ok (.bipush 12, 2) := by decide +kernel
theorem dX3_soonest_147 : decode cX3_soonest 147 = .ok (.irem, 1) := by decide +kernel
theorem dX3_soonest_148 : decode cX3_soonest 148 = .ok (.bipush 24, 2) := by decide +kernel
theorem dX3_soonest_150 : decode cX3_soonest 150 = .ok (.invokevirtual 182, 3) := by decide +kernel
theorem dX3_soonest_153 : decode cX3_soonest 153 = .ok (.iload 5, 2) := by decide +kernel
theorem dX3_soonest_155 : decode cX3_soonest 155 = .ok (.iload 8, 2) := by decide +kernel
theorem dX3_soonest_157 : decode cX3_soonest 157 = .ok (.isub, 1) := by decide +kernel
theorem dX3_soonest_158 : decode cX3_soonest 158 = .ok (.iconst 1, 1) := by decide +kernel
theorem dX3_soonest_159 : decode cX3_soonest 159 = .ok (.isub, 1) := by decide +kernel
theorem dX3_soonest_160 : decode cX3_soonest 160 = .ok (.if_icmp .ne 7, 3) := by decide +kernel
theorem dX3_soonest_163 : decode cX3_soonest 163 = .ok (.iconst 1, 1) := by decide +kernel
theorem dX3_soonest_164 : decode cX3_soonest 164 = .ok (.goto 4, 3) := by decide +kernel
theorem dX3_soonest_167 : decode cX3_soonest 167 = .ok (.iconst 0, 1) := by decide +kernel
theorem dX3_soonest_168 : decode cX3_soonest 168 = .ok (.istore 13, 2) := by decide +kernel
theorem dX3_soonest_170 : decode cX3_soonest 170 = .ok (.iload 13, 2) := by decide +kernel
theorem dX3_soonest_172 : decode cX3_soonest 172 = .ok (.ifCond .eq 8, 3) := by decide +kernel
theorem dX3_soonest_175 : decode cX3_soonest 175 = .ok (.iload 11, 2) := by decide +kernel
theorem dX3_soonest_177 : decode cX3_soonest 177 = .ok (.goto 5, 3) := by decide +kernel
theorem dX3_soonest_180 : decode cX3_soonest 180 = .ok (.iload 7, 2) := by decide +kernel
theorem dX3_soonest_182 : decode cX3_soonest 182 = .ok (.istore 7, 2) := by decide +kernel
theorem dX3_soonest_184 : decode cX3_soonest 184 = .ok (.iload 13, 2) := by decide +kernel
theorem dX3_soonest_186 : decode cX3_soonest 186 = .ok (.ifCond .eq 8, 3) := by decide +kernel
theorem dX3_soonest_189 : decode cX3_soonest 189 = .ok (.iload 12, 2) := by decide +kernel
theorem dX3_soonest_191 : decode cX3_soonest 191 = .ok (.goto 5, 3) := by decide +kernel
theorem dX3_soonest_194 : decode cX3_soonest 194 = .ok (.iload 10, 2) := by decide +kernel
theorem dX3_soonest_196 : decode cX3_soonest 196 = .ok (.istore 10, 2) := by decide +kernel
theorem dX3_soonest_198 : decode cX3_soonest 198 = .ok (.iinc 11 (-1), 3) := by decide +kernel
theorem dX3_soonest_201 : decode cX3_soonest 201 = .ok (.goto (-86), 3) := by decide +kernel
theorem dX3_soonest_204 : decode cX3_soonest 204 = .ok (.iload 10, 2) := by decide +kernel
theorem dX3_soonest_206 : decode cX3_soonest 206 = .ok (.istore 6, 2) := by decide +kernel
theorem dX3_soonest_208 : decode cX3_soonest 208 = .ok (.iinc 8 1, 3) := by decide +kernel
theorem dX3_soonest_211 : decode cX3_soonest 211 = .ok (.goto (-122), 3) := by decide +kernel
theorem dX3_soonest_214 : decode cX3_soonest 214 = .ok (.iload 7, 2) := by decide +kernel
theorem dX3_soonest_216 : decode cX3_soonest 216 = .ok (.ireturn, 1) := by decide +kernel
theorem dX3_goHour_0 : decode cX3_goHour 0 = .ok (.iconst 0, 1) := by decide +kernel
theorem dX3_goHour_1 : decode cX3_goHour 1 = .ok (.istore_n 2, 1) := by decide +kernel
theorem dX3_goHour_2 : decode cX3_goHour 2 = .ok (.iload_n 2, 1) := by decide +kernel
theorem dX3_goHour_3 : decode cX3_goHour 3 = .ok (.bipush 64, 2) := by decide +kernel
theorem dX3_goHour_5 : decode cX3_goHour 5 = .ok (.if_icmp .ge 16, 3) := by decide +kernel
theorem dX3_goHour_8 : decode cX3_goHour 8 = .ok (.aload_n 0, 1) := by decide +kernel
theorem dX3_goHour_9 : decode cX3_goHour 9 = .ok (.getfield 41, 3) := by decide +kernel
theorem dX3_goHour_12 : decode cX3_goHour 12 = .ok (.iload_n 2, 1) := by decide +kernel
theorem dX3_goHour_13 : decode cX3_goHour 13 = .ok (.iconst 0, 1) := by decide +kernel
theorem dX3_goHour_14 : decode cX3_goHour 14 = .ok (.iastore, 1) := by decide +kernel
theorem dX3_goHour_15 : decode cX3_goHour 15 = .ok (.iinc 2 1, 3) := by decide +kernel
theorem dX3_goHour_18 : decode cX3_goHour 18 = .ok (.goto (-16), 3) := by decide +kernel
theorem dX3_goHour_21 : decode cX3_goHour 21 = .ok (.iconst 0, 1) := by decide +kernel
theorem dX3_goHour_22 : decode cX3_goHour 22 = .ok (.istore_n 2, 1) := by decide +kernel
theorem dX3_goHour_23 : decode cX3_goHour 23 = .ok (.iload_n 2, 1) := by decide +kernel
theorem dX3_goHour_24 : decode cX3_goHour 24 = .ok (.bipush 64, 2) := by decide +kernel
theorem dX3_goHour_26 : decode cX3_goHour 26 = .ok (.aload_n 0, 1) := by decide +kernel
theorem dX3_goHour_27 : decode cX3_goHour 27 = .ok (.getfield 74, 3) := by decide +kernel
theorem dX3_goHour_30 : decode cX3_goHour 30 = .ok (.imul, 1) := by decide +kernel
theorem dX3_goHour_31 : decode cX3_goHour 31 = .ok (.if_icmp .ge 59, 3) := by decide +kernel
theorem dX3_goHour_34 : decode cX3_goHour 34 = .ok (.iload_n 2, 1) := by decide +kernel
theorem dX3_goHour_35 : decode cX3_goHour 35 = .ok (.aload_n 0, 1) := by decide +kernel
theorem dX3_goHour_36 : decode cX3_goHour 36 = .ok (.getfield 74, 3) := by decide +kernel
theorem dX3_goHour_39 : decode cX3_goHour 39 = .ok (.idiv, 1) := by decide +kernel
theorem dX3_goHour_40 : decode cX3_goHour 40 = .ok (.istore_n 3, 1) := by decide +kernel
theorem dX3_goHour_41 : decode cX3_goHour 41 = .ok (.iload_n 2, 1) := by decide +kernel
theorem dX3_goHour_42 : decode cX3_goHour 42 = .ok (.aload_n 0, 1) := by decide +kernel
theorem dX3_goHour_43 : decode cX3_goHour 43 = .ok (.getfield 74, 3) := by decide +kernel
theorem dX3_goHour_46 : decode cX3_goHour 46 = .ok (.irem, 1) := by decide +kernel
theorem dX3_goHour_47 : decode cX3_goHour 47 = .ok (.istore 4, 2) := by decide +kernel
theorem dX3_goHour_49 : decode cX3_goHour 49 = .ok (.aload_n 0, 1) := by decide +kernel
theorem dX3_goHour_50 : decode cX3_goHour 50 = .ok (.getfield 38, 3) := by decide +kernel
theorem dX3_goHour_53 : decode cX3_goHour 53 = .ok (.iload_n 3, 1) := by decide +kernel
theorem dX3_goHour_54 : decode cX3_goHour 54 = .ok (.iaload, 1) := by decide +kernel
theorem dX3_goHour_55 : decode cX3_goHour 55 = .ok (.iload 4, 2) := by decide +kernel
theorem dX3_goHour_57 : decode cX3_goHour 57 = .ok (.invokestatic 172, 3) := by decide +kernel
theorem dX3_goHour_60 : decode cX3_goHour 60 = .ok (.ifCond .eq 24, 3) := by decide +kernel
theorem dX3_goHour_63 : decode cX3_goHour 63 = .ok (.aload_n 0, 1) := by decide +kernel
theorem dX3_goHour_64 : decode cX3_goHour 64 = .ok (.getfield 41, 3) := by decide +kernel
theorem dX3_goHour_67 : decode cX3_goHour 67 = .ok (.iload_n 3, 1) := by decide +kernel
theorem dX3_goHour_68 : decode cX3_goHour 68 = .ok (.dup2, 1) := by decide +kernel
theorem dX3_goHour_69 : decode cX3_goHour 69 = .ok (.iaload, 1) := by decide +kernel
theorem dX3_goHour_70 : decode cX3_goHour 70 = .ok (.iconst 1, 1) := by decide +kernel
theorem dX3_goHour_71 : decode cX3_goHour 71 = .ok (.iload 4, 2) := by decide +kernel
theorem dX3_goHour_73 : decode cX3_goHour 73 = .ok (.ishl, 1) := by decide +kernel
theorem dX3_goHour_74 : decode cX3_goHour 74 = .ok (.ior, 1) := by decide +kernel
theorem dX3_goHour_75 : decode cX3_goHour 75 = .ok (.iastore, 1) := by decide +kernel
theorem dX3_goHour_76 : decode cX3_goHour 76 = .ok (.aload_n 0, 1) := by decide +kernel
theorem dX3_goHour_77 : decode cX3_goHour 77 = .ok (.iload_n 3, 1) := by decide +kernel
theorem dX3_goHour_78 : decode cX3_goHour 78 = .ok (.iload 4, 2) := by decide +kernel
theorem dX3_goHour_80 : decode cX3_goHour 80 = .ok (.iload_n 1, 1) := by decide +kernel
theorem dX3_goHour_81 : decode cX3_goHour 81 = .ok (.invokevirtual 185, 3) := by decide +kernel
theorem dX3_goHour_84 : decode cX3_goHour 84 = .ok (.iinc 2 1, 3) := by decide +kernel
theorem dX3_goHour_87 : decode cX3_goHour 87 = .ok (.goto (-64), 3) := by decide +kernel
theorem dX3_goHour_90 : decode cX3_goHour 90 = .ok (.iconst 0, 1) := by decide +kernel
theorem dX3_goHour_91 : decode cX3_goHour 91 = .ok (.istore_n 2, 1) := by decide +kernel
theorem dX3_goHour_92 : decode cX3_goHour 92 = .ok (.iload_n 2, 1) := by decide +kernel
theorem dX3_goHour_93 : decode cX3_goHour 93 = .ok (.bipush 64, 2) := by decide +kernel
theorem dX3_goHour_95 : decode cX3_goHour 95 = .ok (.if_icmp .ge 21, 3) := by decide +kernel
theorem dX3_goHour_98 : decode cX3_goHour 98 = .ok (.aload_n 0, 1) := by decide +kernel
theorem dX3_goHour_99 : decode cX3_goHour 99 = .ok (.getfield 38, 3) := by decide +kernel
theorem dX3_goHour_102 : decode cX3_goHour 102 = .ok (.iload_n 2, 1) := by decide +kernel
theorem dX3_goHour_103 : decode cX3_goHour 103 = .ok (.aload_n 0, 1) := by decide +kernel
theorem dX3_goHour_104 : decode cX3_goHour 104 = .ok (.getfield 41, 3) := by decide +kernel
theorem dX3_goHour_107 : decode cX3_goHour 107 = .ok (.iload_n 2, 1) := by decide +kernel
theorem dX3_goHour_108 : decode cX3_goHour 108 = .ok (.iaload, 1) := by decide +kernel
theorem dX3_goHour_109 : decode cX3_goHour 109 = .ok (.iastore, 1) := by decide +kernel
theorem dX3_goHour_110 : decode cX3_goHour 110 = .ok (.iinc 2 1, 3) := by decide +kernel
theorem dX3_goHour_113 : decode cX3_goHour 113 = .ok (.goto (-21), 3) := by decide +kernel
theorem dX3_goHour_116 : decode cX3_goHour 116 = .ok (.return_, 1) := by decide +kernel
theorem dX3_goOn_0 : decode cX3_goOn 0 = .ok (.iconst 0, 1) := by decide +kernel
theorem dX3_goOn_1 : decode cX3_goOn 1 = .ok (.istore 4, 2) := by decide +kernel
theorem dX3_goOn_3 : decode cX3_goOn 3 = .ok (.iload 4, 2) := by decide +kernel
theorem dX3_goOn_5 : decode cX3_goOn 5 = .ok (.aload_n 0, 1) := by decide +kernel
theorem dX3_goOn_6 : decode cX3_goOn 6 = .ok (.getfield 81, 3) := by decide +kernel
theorem dX3_goOn_9 : decode cX3_goOn 9 = .ok (.if_icmp .ge 42, 3) := by decide +kernel
theorem dX3_goOn_12 : decode cX3_goOn 12 = .ok (.aload_n 0, 1) := by decide +kernel
theorem dX3_goOn_13 : decode cX3_goOn 13 = .ok (.iload_n 2, 1) := by decide +kernel
theorem dX3_goOn_14 : decode cX3_goOn 14 = .ok (.iload_n 3, 1) := by decide +kernel
theorem dX3_goOn_15 : decode cX3_goOn 15 = .ok (.iload 4, 2) := by decide +kernel
theorem dX3_goOn_17 : decode cX3_goOn 17 = .ok (.invokevirtual 160, 3) := by decide +kernel
theorem dX3_goOn_20 : decode cX3_goOn 20 = .ok (.istore 5, 2) := by decide +kernel
theorem dX3_goOn_22 : decode cX3_goOn 22 = .ok (.iload 5, 2) := by decide +kernel
theorem dX3_goOn_24 : decode cX3_goOn 24 = .ok (.ifCond .lt 21, 3) := by decide +kernel
theorem dX3_goOn_27 : decode cX3_goOn 27 = .ok (.aload_n 0, 1) := by decide +kernel
theorem dX3_goOn_28 : decode cX3_goOn 28 = .ok (.getfield 41, 3) := by decide +kernel
theorem dX3_goOn_31 : decode cX3_goOn 31 = .ok (.iload_n 1, 1) := by decide +kernel
theorem dX3_goOn_32 : decode cX3_goOn 32 = .ok (.iconst 1, 1) := by decide +kernel
theorem dX3_goOn_33 : decode cX3_goOn 33 = .ok (.iload 5, 2) := by decide +kernel
theorem dX3_goOn_35 : decode cX3_goOn 35 = .ok (.ishl, 1) := by decide +kernel
theorem dX3_goOn_36 : decode cX3_goOn 36 = .ok (.ior, 1) := by decide +kernel
theorem dX3_goOn_37 : decode cX3_goOn 37 = .ok (.dup2, 1) := by decide +kernel
theorem dX3_goOn_38 : decode cX3_goOn 38 = .ok (.iaload, 1) := by decide +kernel
theorem dX3_goOn_39 : decode cX3_goOn 39 = .ok (.iconst 1, 1) := by decide +kernel
theorem dX3_goOn_40 : decode cX3_goOn 40 = .ok (.iload 5, 2) := by decide +kernel
theorem dX3_goOn_42 : decode cX3_goOn 42 = .ok (.ishl, 1) := by decide +kernel
theorem dX3_goOn_43 : decode cX3_goOn 43 = .ok (.ior, 1) := by decide +kernel
theorem dX3_goOn_44 : decode cX3_goOn 44 = .ok (.iastore, 1) := by decide +kernel
theorem dX3_goOn_45 : decode cX3_goOn 45 = .ok (.iinc 4 1, 3) := by decide +kernel
theorem dX3_goOn_48 : decode cX3_goOn 48 = .ok (.goto (-45), 3) := by decide +kernel
theorem dX3_goOn_51 : decode cX3_goOn 51 = .ok (.return_, 1) := by decide +kernel
theorem dX3_haveBeen_0 : decode cX3_haveBeen 0 = .ok (.iconst 0, 1) := by decide +kernel
theorem dX3_haveBeen_1 : decode cX3_haveBeen 1 = .ok (.istore_n 2, 1) := by decide +kernel
theorem dX3_haveBeen_2 : decode cX3_haveBeen 2 = .ok (.iconst 0, 1) := by decide +kernel
theorem dX3_haveBeen_3 : decode cX3_haveBeen 3 = .ok (.istore_n 3, 1) := by decide +kernel
theorem dX3_haveBeen_4 : decode cX3_haveBeen 4 = .ok (.iload_n 3, 1) := by decide +kernel
theorem dX3_haveBeen_5 : decode cX3_haveBeen 5 = .ok (.bipush 64, 2) := by decide +kernel
theorem dX3_haveBeen_7 : decode cX3_haveBeen 7 = .ok (.if_icmp .ge 36, 3) := by decide +kernel
theorem dX3_haveBeen_10 : decode cX3_haveBeen 10 = .ok (.iload_n 2, 1) := by decide +kernel
theorem dX3_haveBeen_11 : decode cX3_haveBeen 11 = .ok (.ifCond .ne 20, 3) := by decide +kernel
theorem dX3_haveBeen_14 : decode cX3_haveBeen 14 = .ok (.aload_n 0, 1) := by decide +kernel
theorem dX3_haveBeen_15 : decode cX3_haveBeen 15 = .ok (.getfield 38, 3) := by decide +kernel
theorem dX3_haveBeen_18 : decode cX3_haveBeen 18 = .ok (.iload_n 3, 1) := by decide +kernel
theorem dX3_haveBeen_19 : decode cX3_haveBeen 19 = .ok (.iaload, 1) := by decide +kernel
theorem dX3_haveBeen_20 : decode cX3_haveBeen 20 = .ok (.ifCond .eq 15, 3) := by decide +kernel
theorem dX3_haveBeen_23 : decode cX3_haveBeen 23 = .ok (.iload_n 1, 1) := by decide +kernel
theorem dX3_haveBeen_24 : decode cX3_haveBeen 24 = .ok (.iload_n 3, 1) := by decide +kernel
theorem dX3_haveBeen_25 : decode cX3_haveBeen 25 = .ok (.iconst (-1), 1) := by decide +kernel
theorem dX3_haveBeen_26 : decode cX3_haveBeen 26 = .ok (.ixor, 1) := by decide +kernel
theorem dX3_haveBeen_27 : decode cX3_haveBeen 27 = .ok (.iand, 1) := by decide +kernel
theorem dX3_haveBeen_28 : decode cX3_haveBeen 28 = .ok (.ifCond .ne 7, 3) := by decide +kernel
theorem dX3_haveBeen_31 : decode cX3_haveBeen 31 = .ok (.iconst 1, 1) := by decide +kernel
theorem dX3_haveBeen_32 : decode cX3_haveBeen 32 = .ok (.goto 4, 3) := by decide +kernel
theorem dX3_haveBeen_35 : decode cX3_haveBeen 35 = .ok (.iconst 0, 1) := by decide +kernel
theorem dX3_haveBeen_36 : decode cX3_haveBeen 36 = .ok (.istore_n 2, 1) := by decide +kernel
theorem dX3_haveBeen_37 : decode cX3_haveBeen 37 = .ok (.iinc 3 1, 3) := by decide +kernel
theorem dX3_haveBeen_40 : decode cX3_haveBeen 40 = .ok (.goto (-36), 3) := by decide +kernel
theorem dX3_haveBeen_43 : decode cX3_haveBeen 43 = .ok (.iload_n 2, 1) := by decide +kernel
theorem dX3_haveBeen_44 : decode cX3_haveBeen 44 = .ok (.ireturn, 1) := by decide +kernel
theorem dX3_errands_0 : decode cX3_errands 0 = .ok (.aload_n 0, 1) := by decide +kernel
theorem dX3_errands_1 : decode cX3_errands 1 = .ok (.iload_n 1, 1) := by decide +kernel
theorem dX3_errands_2 : decode cX3_errands 2 = .ok (.invokevirtual 145, 3) := by decide +kernel
theorem dX3_errands_5 : decode cX3_errands 5 = .ok (.ifCond .eq 5, 3) := by decide +kernel
theorem dX3_errands_8 : decode cX3_errands 8 = .ok (.iconst (-1), 1) := by decide +kernel
theorem dX3_errands_9 : decode cX3_errands 9 = .ok (.ireturn, 1) := by decide +kernel
theorem dX3_errands_10 : decode cX3_errands 10 = .ok (.iload_n 2, 1) := by decide +kernel
theorem dX3_errands_11 : decode cX3_errands 11 = .ok (.i2l, 1) := by decide +kernel
theorem dX3_errands_12 : decode cX3_errands 12 = .ok (.lconst 0, 1) := by decide +kernel
theorem dX3_errands_13 : decode cX3_errands 13 = .ok (.iconst 1, 1) := by decide +kernel
theorem dX3_errands_14 : decode cX3_errands 14 = .ok (.aload_n 0, 1) := by decide +kernel
theorem dX3_errands_15 : decode cX3_errands 15 = .ok (.getfield 74, 3) := by decide +kernel
theorem dX3_errands_18 : decode cX3_errands 18 = .ok (.ishl, 1) := by decide +kernel
theorem dX3_errands_19 : decode cX3_errands 19 = .ok (.i2l, 1) := by decide +kernel
theorem dX3_errands_20 : decode cX3_errands 20 = .ok (.lconst 1, 1) := by decide +kernel
theorem dX3_errands_21 : decode cX3_errands 21 = .ok (.lsub, 1) := by decide +kernel
theorem dX3_errands_22 : decode cX3_errands 22 = .ok (.invokestatic 77, 3) := by decide +kernel
theorem dX3_errands_25 : decode cX3_errands 25 = .ok (.ifCond .eq 10, 3) := by decide +kernel
theorem dX3_errands_28 : decode cX3_errands 28 = .ok (.iload_n 3, 1) := by decide +kernel
theorem dX3_errands_29 : decode cX3_errands 29 = .ok (.invokestatic 137, 3) := by decide +kernel
theorem dX3_errands_32 : decode cX3_errands 32 = .ok (.ifCond .eq 6, 3) := by decide +kernel
theorem dX3_errands_35 : decode cX3_errands 35 = .ok (.bipush (-2), 2) := by decide +kernel
theorem dX3_errands_37 : decode cX3_errands 37 = .ok (.ireturn, 1) := by decide +kernel
theorem dX3_errands_38 : decode cX3_errands 38 = .ok (.iconst 0, 1) := by decide +kernel
theorem dX3_errands_39 : decode cX3_errands 39 = .ok (.istore 4, 2) := by decide +kernel
theorem dX3_errands_41 : decode cX3_errands 41 = .ok (.iload 4, 2) := by decide +kernel
theorem dX3_errands_43 : decode cX3_errands 43 = .ok (.bipush 64, 2) := by decide +kernel
theorem dX3_errands_45 : decode cX3_errands 45 = .ok (.if_icmp .ge 31, 3) := by decide +kernel
theorem dX3_errands_48 : decode cX3_errands 48 = .ok (.aload_n 0, 1) := by decide +kernel
theorem dX3_errands_49 : decode cX3_errands 49 = .ok (.getfield 38, 3) := by decide +kernel
theorem dX3_errands_52 : decode cX3_errands 52 = .ok (.iload 4, 2) := by decide +kernel
theorem dX3_errands_54 : decode cX3_errands 54 = .ok (.iload 4, 2) := by decide +kernel
theorem dX3_errands_56 : decode cX3_errands 56 = .ok (.iconst 1, 1) := by decide +kernel
theorem dX3_errands_57 : decode cX3_errands 57 = .ok (.iload_n 1, 1) := by decide +kernel
theorem dX3_errands_58 : decode cX3_errands 58 = .ok (.ishl, 1) := by decide +kernel
theorem dX3_errands_59 : decode cX3_errands 59 = .ok (.if_icmp .ne 9, 3) := by decide +kernel
theorem dX3_errands_62 : decode cX3_errands 62 = .ok (.iconst 1, 1) := by decide +kernel
theorem dX3_errands_63 : decode cX3_errands 63 = .ok (.iload_n 1, 1) := by decide +kernel
theorem dX3_errands_64 : decode cX3_errands 64 = .ok (.ishl, 1) := by decide +kernel
theorem dX3_errands_65 : decode cX3_errands 65 = .ok (.goto 4, 3) := by decide +kernel
theorem dX3_errands_68 : decode cX3_errands 68 = .ok (.iconst 0, 1) := by decide +kernel
theorem dX3_errands_69 : decode cX3_errands 69 = .ok (.iastore, 1) := by decide +kernel
theorem dX3_errands_70 : decode cX3_errands 70 = .ok (.iinc 4 1, 3) := by decide +kernel
theorem dX3_errands_73 : decode cX3_errands 73 = .ok (.goto (-32), 3) := by decide +kernel
theorem dX3_errands_76 : decode cX3_errands 76 = .ok (.iconst 0, 1) := by decide +kernel
theorem dX3_errands_77 : decode cX3_errands 77 = .ok (.istore 4, 2) := by decide +kernel
theorem dX3_errands_79 : decode cX3_errands 79 = .ok (.iload 4, 2) := by decide +kernel
theorem dX3_errands_81 : decode cX3_errands 81 = .ok (.bipush 24, 2) := by decide +kernel
theorem dX3_errands_83 : decode cX3_errands 83 = .ok (.if_icmp .gt 31, 3) := by decide +kernel
theorem dX3_errands_86 : decode cX3_errands 86 = .ok (.aload_n 0, 1) := by decide +kernel
theorem dX3_errands_87 : decode cX3_errands 87 = .ok (.iload_n 2, 1) := by decide +kernel
theorem dX3_errands_88 : decode cX3_errands 88 = .ok (.invokevirtual 189, 3) := by decide +kernel
theorem dX3_errands_91 : decode cX3_errands 91 = .ok (.ifCond .eq 6, 3) := by decide +kernel
theorem dX3_errands_94 : decode cX3_errands 94 = .ok (.iload 4, 2) := by decide +kernel
theorem dX3_errands_96 : decode cX3_errands 96 = .ok (.ireturn, 1) := by decide +kernel
theorem dX3_errands_97 : decode cX3_errands 97 = .ok (.aload_n 0, 1) := by decide +kernel
theorem dX3_errands_98 : decode cX3_errands 98 = .ok (.iload_n 3, 1) := by decide +kernel
theorem dX3_errands_99 : decode cX3_errands 99 = .ok (.iload 4, 2) := by decide +kernel
theorem dX3_errands_101 : decode cX3_errands 101 = .ok (.iadd, 1) := by decide +kernel
theorem dX3_errands_102 : decode cX3_errands 102 = .ok (.bipush 12, 2) := by decide +kernel
theorem dX3_errands_104 : decode cX3_errands 104 = .ok (.irem, 1) := by decide +kernel
theorem dX3_errands_105 : decode cX3_errands 105 = .ok (.invokevirtual 192, 3) := by decide +kernel
theorem dX3_errands_108 : decode cX3_errands 108 = .ok (.iinc 4 1, 3) := by decide +kernel
theorem dX3_errands_111 : decode cX3_errands 111 = .ok (.goto (-32), 3) := by decide +kernel
theorem dX3_errands_114 : decode cX3_errands 114 = .ok (.bipush (-9), 2) := by decide +kernel
theorem dX3_errands_116 : decode cX3_errands 116 = .ok (.ireturn, 1) := by decide +kernel
theorem dX3_meet_0 : decode cX3_meet 0 = .ok (.aload_n 0, 1) := by decide +kernel
theorem dX3_meet_1 : decode cX3_meet 1 = .ok (.iload_n 1, 1) := by decide +kernel
theorem dX3_meet_2 : decode cX3_meet 2 = .ok (.invokevirtual 145, 3) := by decide +kernel
theorem dX3_meet_5 : decode cX3_meet 5 = .ok (.ifCond .ne 11, 3) := by decide +kernel
theorem dX3_meet_8 : decode cX3_meet 8 = .ok (.aload_n 0, 1) := by decide +kernel
theorem dX3_meet_9 : decode cX3_meet 9 = .ok (.iload_n 2, 1) := by decide +kernel
theorem dX3_meet_10 : decode cX3_meet 10 = .ok (.invokevirtual 145, 3) := by decide +kernel
theorem dX3_meet_13 : decode cX3_meet 13 = .ok (.ifCond .eq 5, 3) := by decide +kernel
theorem dX3_meet_16 : decode cX3_meet 16 = .ok (.iconst (-1), 1) := by decide +kernel
theorem dX3_meet_17 : decode cX3_meet 17 = .ok (.ireturn, 1) := by decide +kernel
theorem dX3_meet_18 : decode cX3_meet 18 = .ok (.iload_n 3, 1) := by decide +kernel
theorem dX3_meet_19 : decode cX3_meet 19 = .ok (.invokestatic 137, 3) := by decide +kernel
theorem dX3_meet_22 : decode cX3_meet 22 = .ok (.ifCond .eq 6, 3) := by decide +kernel
theorem dX3_meet_25 : decode cX3_meet 25 = .ok (.bipush (-2), 2) := by decide +kernel
theorem dX3_meet_27 : decode cX3_meet 27 = .ok (.ireturn, 1) := by decide +kernel
theorem dX3_meet_28 : decode cX3_meet 28 = .ok (.iconst 1, 1) := by decide +kernel
theorem dX3_meet_29 : decode cX3_meet 29 = .ok (.iload_n 1, 1) := by decide +kernel
theorem dX3_meet_30 : decode cX3_meet 30 = .ok (.ishl, 1) := by decide +kernel
theorem dX3_meet_31 : decode cX3_meet 31 = .ok (.istore 4, 2) := by decide +kernel
theorem dX3_meet_33 : decode cX3_meet 33 = .ok (.iconst 1, 1) := by decide +kernel
theorem dX3_meet_34 : decode cX3_meet 34 = .ok (.iload_n 2, 1) := by decide +kernel
theorem dX3_meet_35 : decode cX3_meet 35 = .ok (.ishl, 1) := by decide +kernel
theorem dX3_meet_36 : decode cX3_meet 36 = .ok (.istore 5, 2) := by decide +kernel
theorem dX3_meet_38 : decode cX3_meet 38 = .ok (.iconst 0, 1) := by decide +kernel
theorem dX3_meet_39 : decode cX3_meet 39 = .ok (.istore 6, 2) := by decide +kernel
theorem dX3_meet_41 : decode cX3_meet 41 = .ok (.iload 6, 2) := by decide +kernel
theorem dX3_meet_43 : decode cX3_meet 43 = .ok (.bipush 24, 2) := by decide +kernel
theorem dX3_meet_45 : decode cX3_meet 45 = .ok (.if_icmp .gt 50, 3) := by decide +kernel
theorem dX3_meet_48 : decode cX3_meet 48 = .ok (.iload 4, 2) := by decide +kernel
theorem dX3_meet_50 : decode cX3_meet 50 = .ok (.iload 5, 2) := by decide +kernel
theorem dX3_meet_52 : decode cX3_meet 52 = .ok (.iand, 1) := by decide +kernel
theorem dX3_meet_53 : decode cX3_meet 53 = .ok (.ifCond .eq 6, 3) := by decide +kernel
theorem dX3_meet_56 : decode cX3_meet 56 = .ok (.iload 6, 2) := by decide +kernel
theorem dX3_meet_58 : decode cX3_meet 58 = .ok (.ireturn, 1) := by decide +kernel
theorem dX3_meet_59 : decode cX3_meet 59 = .ok (.aload_n 0, 1) := by decide +kernel
theorem dX3_meet_60 : decode cX3_meet 60 = .ok (.iload 4, 2) := by decide +kernel
theorem dX3_meet_62 : decode cX3_meet 62 = .ok (.iload_n 3, 1) := by decide +kernel
theorem dX3_meet_63 : decode cX3_meet 63 = .ok (.iload 6, 2) := by decide +kernel
theorem dX3_meet_65 : decode cX3_meet 65 = .ok (.iadd, 1) := by decide +kernel
theorem dX3_meet_66 : decode cX3_meet 66 = .ok (.bipush 12, 2) := by decide +kernel
theorem dX3_meet_68 : decode cX3_meet 68 = .ok (.irem, 1) := by decide +kernel
theorem dX3_meet_69 : decode cX3_meet 69 = .ok (.invokevirtual 175, 3) := by decide +kernel
theorem dX3_meet_72 : decode cX3_meet 72 = .ok (.istore 4, 2) := by decide +kernel
theorem dX3_meet_74 : decode cX3_meet 74 = .ok (.aload_n 0, 1) := by decide +kernel
theorem dX3_meet_75 : decode cX3_meet 75 = .ok (.iload 5, 2) := by decide +kernel
theorem dX3_meet_77 : decode cX3_meet 77 = .ok (.iload_n 3, 1) := by decide +kernel
theorem dX3_meet_78 : decode cX3_meet 78 = .ok (.iload 6, 2) := by decide +kernel
theorem dX3_meet_80 : decode cX3_meet 80 = .ok (.iadd, 1) := by decide +kernel
theorem dX3_meet_81 : decode cX3_meet 81 = .ok (.bipush 12, 2) := by decide +kernel
theorem dX3_meet_83 : decode cX3_meet 83 = .ok (.irem, 1) := by decide +kernel
theorem dX3_meet_84 : decode cX3_meet 84 = .ok (.invokevirtual 175, 3) := by decide +kernel
theorem dX3_meet_87 : decode cX3_meet 87 = .ok (.istore 5, 2) := by decide +kernel
theorem dX3_meet_89 : decode cX3_meet 89 = .ok (.iinc 6 1, 3) := by decide +kernel
theorem dX3_meet_92 : decode cX3_meet 92 = .ok (.goto (-51), 3) := by decide +kernel
theorem dX3_meet_95 : decode cX3_meet 95 = .ok (.bipush (-9), 2) := by decide +kernel
theorem dX3_meet_97 : decode cX3_meet 97 = .ok (.ireturn, 1) := by decide +kernel
theorem dX3_cut_0 : decode cX3_cut 0 = .ok (.aload_n 0, 1) := by decide +kernel
theorem dX3_cut_1 : decode cX3_cut 1 = .ok (.iload_n 1, 1) := by decide +kernel
theorem dX3_cut_2 : decode cX3_cut 2 = .ok (.invokevirtual 145, 3) := by decide +kernel
theorem dX3_cut_5 : decode cX3_cut 5 = .ok (.ifCond .ne 11, 3) := by decide +kernel
theorem dX3_cut_8 : decode cX3_cut 8 = .ok (.aload_n 0, 1) := by decide +kernel
theorem dX3_cut_9 : decode cX3_cut 9 = .ok (.iload_n 2, 1) := by decide +kernel
theorem dX3_cut_10 : decode cX3_cut 10 = .ok (.invokevirtual 145, 3) := by decide +kernel
theorem dX3_cut_13 : decode cX3_cut 13 = .ok (.ifCond .eq 5, 3) := by decide +kernel
theorem dX3_cut_16 : decode cX3_cut 16 = .ok (.iconst (-1), 1) := by decide +kernel
theorem dX3_cut_17 : decode cX3_cut 17 = .ok (.ireturn, 1) := by decide +kernel
theorem dX3_cut_18 : decode cX3_cut 18 = .ok (.iload_n 3, 1) := by decide +kernel
theorem dX3_cut_19 : decode cX3_cut 19 = .ok (.invokestatic 137, 3) := by decide +kernel
theorem dX3_cut_22 : decode cX3_cut 22 = .ok (.ifCond .eq 6, 3) := by decide +kernel
theorem dX3_cut_25 : decode cX3_cut 25 = .ok (.bipush (-2), 2) := by decide +kernel
theorem dX3_cut_27 : decode cX3_cut 27 = .ok (.ireturn, 1) := by decide +kernel
theorem dX3_cut_28 : decode cX3_cut 28 = .ok (.bipush (-9), 2) := by decide +kernel
theorem dX3_cut_30 : decode cX3_cut 30 = .ok (.istore 4, 2) := by decide +kernel
theorem dX3_cut_32 : decode cX3_cut 32 = .ok (.aload_n 0, 1) := by decide +kernel
theorem dX3_cut_33 : decode cX3_cut 33 = .ok (.iload_n 1, 1) := by decide +kernel
theorem dX3_cut_34 : decode cX3_cut 34 = .ok (.iload_n 2, 1) := by decide +kernel
theorem dX3_cut_35 : decode cX3_cut 35 = .ok (.iload_n 3, 1) := by decide +kernel
theorem dX3_cut_36 : decode cX3_cut 36 = .ok (.bipush 24, 2) := by decide +kernel
theorem dX3_cut_38 : decode cX3_cut 38 = .ok (.invokevirtual 182, 3) := by decide +kernel
theorem dX3_cut_41 : decode cX3_cut 41 = .ok (.ifCond .lt 49, 3) := by decide +kernel
theorem dX3_cut_44 : decode cX3_cut 44 = .ok (.aload_n 0, 1) := by decide +kernel
theorem dX3_cut_45 : decode cX3_cut 45 = .ok (.getfield 81, 3) := by decide +kernel
theorem dX3_cut_48 : decode cX3_cut 48 = .ok (.iconst 1, 1) := by decide +kernel
theorem dX3_cut_49 : decode cX3_cut 49 = .ok (.isub, 1) := by decide +kernel
theorem dX3_cut_50 : decode cX3_cut 50 = .ok (.istore 5, 2) := by decide +kernel
theorem dX3_cut_52 : decode cX3_cut 52 = .ok (.iload 5, 2) := by decide +kernel
theorem dX3_cut_54 : decode cX3_cut 54 = .ok (.ifCond .lt 36, 3) := by decide +kernel
theorem dX3_cut_57 : decode cX3_cut 57 = .ok (.aload_n 0, 1) := by decide +kernel
theorem dX3_cut_58 : decode cX3_cut 58 = .ok (.iload 5, 2) := by decide +kernel
theorem dX3_cut_60 : decode cX3_cut 60 = .ok (.putfield 22, 3) := by decide +kernel
theorem dX3_cut_63 : decode cX3_cut 63 = .ok (.aload_n 0, 1) := by decide +kernel
theorem dX3_cut_64 : decode cX3_cut 64 = .ok (.iload_n 1, 1) := by decide +kernel
theorem dX3_cut_65 : decode cX3_cut 65 = .ok (.iload_n 2, 1) := by decide +kernel
theorem dX3_cut_66 : decode cX3_cut 66 = .ok (.iload_n 3, 1) := by decide +kernel
theorem dX3_cut_67 : decode cX3_cut 67 = .ok (.bipush 24, 2) := by decide +kernel
theorem dX3_cut_69 : decode cX3_cut 69 = .ok (.invokevirtual 182, 3) := by decide +kernel
theorem dX3_cut_72 : decode cX3_cut 72 = .ok (.ifCond .ge 8, 3) := by decide +kernel
theorem dX3_cut_75 : decode cX3_cut 75 = .ok (.iload 5, 2) := by decide +kernel
theorem dX3_cut_77 : decode cX3_cut 77 = .ok (.goto 5, 3) := by decide +kernel
theorem dX3_cut_80 : decode cX3_cut 80 = .ok (.iload 4, 2) := by decide +kernel
theorem dX3_cut_82 : decode cX3_cut 82 = .ok (.istore 4, 2) := by decide +kernel
theorem dX3_cut_84 : decode cX3_cut 84 = .ok (.iinc 5 (-1), 3) := by decide +kernel
theorem dX3_cut_87 : decode cX3_cut 87 = .ok (.goto (-35), 3) := by decide +kernel
theorem dX3_cut_90 : decode cX3_cut 90 = .ok (.aload_n 0, 1) := by decide +kernel
theorem dX3_cut_91 : decode cX3_cut 91 = .ok (.bipush (-9), 2) := by decide +kernel
theorem dX3_cut_93 : decode cX3_cut 93 = .ok (.putfield 22, 3) := by decide +kernel
theorem dX3_cut_96 : decode cX3_cut 96 = .ok (.iload 4, 2) := by decide +kernel
theorem dX3_cut_98 : decode cX3_cut 98 = .ok (.ireturn, 1) := by decide +kernel
theorem dX3_reach_0 : decode cX3_reach 0 = .ok (.aload_n 0, 1) := by decide +kernel
theorem dX3_reach_1 : decode cX3_reach 1 = .ok (.getfield 74, 3) := by decide +kernel
theorem dX3_reach_4 : decode cX3_reach 4 = .ok (.ifCond .ne 6, 3) := by decide +kernel
theorem dX3_reach_7 : decode cX3_reach 7 = .ok (.bipush (-3), 2) := by decide +kernel
theorem dX3_reach_9 : decode cX3_reach 9 = .ok (.ireturn, 1) := by decide +kernel
theorem dX3_reach_10 : decode cX3_reach 10 = .ok (.iload_n 1, 1) := by decide +kernel
theorem dX3_reach_11 : decode cX3_reach 11 = .ok (.invokestatic 137, 3) := by decide +kernel
theorem dX3_reach_14 : decode cX3_reach 14 = .ok (.ifCond .eq 6, 3) := by decide +kernel
theorem dX3_reach_17 : decode cX3_reach 17 = .ok (.bipush (-2), 2) := by decide +kernel
theorem dX3_reach_19 : decode cX3_reach 19 = .ok (.ireturn, 1) := by decide +kernel
theorem dX3_reach_20 : decode cX3_reach 20 = .ok (.iconst 0, 1) := by decide +kernel
theorem dX3_reach_21 : decode cX3_reach 21 = .ok (.istore_n 2, 1) := by decide +kernel
theorem dX3_reach_22 : decode cX3_reach 22 = .ok (.iconst 0, 1) := by decide +kernel
theorem dX3_reach_23 : decode cX3_reach 23 = .ok (.istore_n 3, 1) := by decide +kernel
theorem dX3_reach_24 : decode cX3_reach 24 = .ok (.iload_n 3, 1) := by decide +kernel
theorem dX3_reach_25 : decode cX3_reach 25 = .ok (.aload_n 0, 1) := by decide +kernel
theorem dX3_reach_26 : decode cX3_reach 26 = .ok (.getfield 74, 3) := by decide +kernel
theorem dX3_reach_29 : decode cX3_reach 29 = .ok (.if_icmp .ge 70, 3) := by decide +kernel
theorem dX3_reach_32 : decode cX3_reach 32 = .ok (.iconst 1, 1) := by decide +kernel
theorem dX3_reach_33 : decode cX3_reach 33 = .ok (.istore 4, 2) := by decide +kernel
theorem dX3_reach_35 : decode cX3_reach 35 = .ok (.iconst 0, 1) := by decide +kernel
theorem dX3_reach_36 : decode cX3_reach 36 = .ok (.istore 5, 2) := by decide +kernel
theorem dX3_reach_38 : decode cX3_reach 38 = .ok (.iload 5, 2) := by decide +kernel
theorem dX3_reach_40 : decode cX3_reach 40 = .ok (.aload_n 0, 1) := by decide +kernel
theorem dX3_reach_41 : decode cX3_reach 41 = .ok (.getfield 74, 3) := by decide +kernel
theorem dX3_reach_44 : decode cX3_reach 44 = .ok (.if_icmp .ge 34, 3) := by decide +kernel
theorem dX3_reach_47 : decode cX3_reach 47 = .ok (.iload 4, 2) := by decide +kernel
theorem dX3_reach_49 : decode cX3_reach 49 = .ok (.ifCond .eq 20, 3) := by decide +kernel
theorem dX3_reach_52 : decode cX3_reach 52 = .ok (.aload_n 0, 1) := by decide +kernel
theorem dX3_reach_53 : decode cX3_reach 53 = .ok (.iload_n 3, 1) := by decide +kernel
theorem dX3_reach_54 : decode cX3_reach 54 = .ok (.iload 5, 2) := by decide +kernel
theorem dX3_reach_56 : decode cX3_reach 56 = .ok (.iload_n 1, 1) := by decide +kernel
theorem dX3_reach_57 : decode cX3_reach 57 = .ok (.bipush 24, 2) := by decide +kernel
theorem dX3_reach_59 : decode cX3_reach 59 = .ok (.invokevirtual 182, 3) := by decide +kernel
theorem dX3_reach_62 : decode cX3_reach 62 = .ok (.ifCond .lt 7, 3) := by decide +kernel
theorem dX3_reach_65 : decode cX3_reach 65 = .ok (.iconst 1, 1) := by decide +kernel
theorem dX3_reach_66 : decode cX3_reach 66 = .ok (.goto 4, 3) := by decide +kernel
theorem dX3_reach_69 : decode cX3_reach 69 = .ok (.iconst 0, 1) := by decide +kernel
theorem dX3_reach_70 : decode cX3_reach 70 = .ok (.istore 4, 2) := by decide +kernel
theorem dX3_reach_72 : decode cX3_reach 72 = .ok (.iinc 5 1, 3) := by decide +kernel
theorem dX3_reach_75 : decode cX3_reach 75 = .ok (.goto (-37), 3) := by decide +kernel
theorem dX3_reach_78 : decode cX3_reach 78 = .ok (.iload_n 2, 1) := by decide +kernel
theorem dX3_reach_79 : decode cX3_reach 79 = .ok (.iload 4, 2) := by decide +kernel
theorem dX3_reach_81 : decode cX3_reach 81 = .ok (.ifCond .eq 9, 3) := by decide +kernel
theorem dX3_reach_84 : decode cX3_reach 84 = .ok (.iconst 1, 1) := by decide +kernel
theorem dX3_reach_85 : decode cX3_reach 85 = .ok (.iload_n 3, 1) := by decide +kernel
theorem dX3_reach_86 : decode cX3_reach 86 = .ok (.ishl, 1) := by decide +kernel
theorem dX3_reach_87 : decode cX3_reach 87 = .ok (.goto 4, 3) := by decide +kernel
theorem dX3_reach_90 : decode cX3_reach 90 = .ok (.iconst 0, 1) := by decide +kernel
theorem dX3_reach_91 : decode cX3_reach 91 = .ok (.ior, 1) := by decide +kernel
theorem dX3_reach_92 : decode cX3_reach 92 = .ok (.istore_n 2, 1) := by decide +kernel
theorem dX3_reach_93 : decode cX3_reach 93 = .ok (.iinc 3 1, 3) := by decide +kernel
theorem dX3_reach_96 : decode cX3_reach 96 = .ok (.goto (-72), 3) := by decide +kernel
theorem dX3_reach_99 : decode cX3_reach 99 = .ok (.iload_n 2, 1) := by decide +kernel
theorem dX3_reach_100 : decode cX3_reach 100 = .ok (.ireturn, 1) := by decide +kernel
theorem dX3_reading_0 : decode cX3_reading 0 = .ok (.aload_n 0, 1) := by decide +kernel
theorem dX3_reading_1 : decode cX3_reading 1 = .ok (.iload_n 1, 1) := by decide +kernel
theorem dX3_reading_2 : decode cX3_reading 2 = .ok (.invokevirtual 134, 3) := by decide +kernel
theorem dX3_reading_5 : decode cX3_reading 5 = .ok (.ifCond .ne 17, 3) := by decide +kernel
theorem dX3_reading_8 : decode cX3_reading 8 = .ok (.iload_n 3, 1) := by decide +kernel
theorem dX3_reading_9 : decode cX3_reading 9 = .ok (.bipush (-9), 2) := by decide +kernel
theorem dX3_reading_11 : decode cX3_reading 11 = .ok (.if_icmp .eq 13, 3) := by decide +kernel
theorem dX3_reading_14 : decode cX3_reading 14 = .ok (.aload_n 0, 1) := by decide +kernel
theorem dX3_reading_15 : decode cX3_reading 15 = .ok (.iload_n 3, 1) := by decide +kernel
theorem dX3_reading_16 : decode cX3_reading 16 = .ok (.invokevirtual 145, 3) := by decide +kernel
theorem dX3_reading_19 : decode cX3_reading 19 = .ok (.ifCond .eq 5, 3) := by decide +kernel
theorem dX3_reading_22 : decode cX3_reading 22 = .ok (.iconst (-1), 1) := by decide +kernel
theorem dX3_reading_23 : decode cX3_reading 23 = .ok (.ireturn, 1) := by decide +kernel
theorem dX3_reading_24 : decode cX3_reading 24 = .ok (.iload_n 2, 1) := by decide +kernel
theorem dX3_reading_25 : decode cX3_reading 25 = .ok (.invokestatic 137, 3) := by decide +kernel
theorem dX3_reading_28 : decode cX3_reading 28 = .ok (.ifCond .eq 6, 3) := by decide +kernel
theorem dX3_reading_31 : decode cX3_reading 31 = .ok (.bipush (-2), 2) := by decide +kernel
theorem dX3_reading_33 : decode cX3_reading 33 = .ok (.ireturn, 1) := by decide +kernel
theorem dX3_reading_34 : decode cX3_reading 34 = .ok (.aload_n 0, 1) := by decide +kernel
theorem dX3_reading_35 : decode cX3_reading 35 = .ok (.getfield 131, 3) := by decide +kernel
theorem dX3_reading_38 : decode cX3_reading 38 = .ok (.bipush 8, 2) := by decide +kernel
theorem dX3_reading_40 : decode cX3_reading 40 = .ok (.if_icmp .ne 6, 3) := by decide +kernel
theorem dX3_reading_43 : decode cX3_reading 43 = .ok (.bipush (-4), 2) := by decide +kernel
theorem dX3_reading_45 : decode cX3_reading 45 = .ok (.ireturn, 1) := by decide +kernel
theorem dX3_reading_46 : decode cX3_reading 46 = .ok (.aload_n 0, 1) := by decide +kernel
theorem dX3_reading_47 : decode cX3_reading 47 = .ok (.getfield 44, 3) := by decide +kernel
theorem dX3_reading_50 : decode cX3_reading 50 = .ok (.aload_n 0, 1) := by decide +kernel
theorem dX3_reading_51 : decode cX3_reading 51 = .ok (.getfield 131, 3) := by decide +kernel
theorem dX3_reading_54 : decode cX3_reading 54 = .ok (.iload_n 1, 1) := by decide +kernel
theorem dX3_reading_55 : decode cX3_reading 55 = .ok (.iastore, 1) := by decide +kernel
theorem dX3_reading_56 : decode cX3_reading 56 = .ok (.aload_n 0, 1) := by decide +kernel
theorem dX3_reading_57 : decode cX3_reading 57 = .ok (.getfield 47, 3) := by decide +kernel
theorem dX3_reading_60 : decode cX3_reading 60 = .ok (.aload_n 0, 1) := by decide +kernel
theorem dX3_reading_61 : decode cX3_reading 61 = .ok (.getfield 131, 3) := by decide +kernel
theorem dX3_reading_64 : decode cX3_reading 64 = .ok (.iload_n 2, 1) := by decide +kernel
theorem dX3_reading_65 : decode cX3_reading 65 = .ok (.iastore, 1) := by decide +kernel
theorem dX3_reading_66 : decode cX3_reading 66 = .ok (.aload_n 0, 1) := by decide +kernel
theorem dX3_reading_67 : decode cX3_reading 67 = .ok (.getfield 50, 3) := by decide +kernel
theorem dX3_reading_70 : decode cX3_reading 70 = .ok (.aload_n 0, 1) := by decide +kernel
theorem dX3_reading_71 : decode cX3_reading 71 = .ok (.getfield 131, 3) := by decide +kernel
theorem dX3_reading_74 : decode cX3_reading 74 = .ok (.iload_n 3, 1) := by decide +kernel
theorem dX3_reading_75 : decode cX3_reading 75 = .ok (.iastore, 1) := by decide +kernel
theorem dX3_reading_76 : decode cX3_reading 76 = .ok (.aload_n 0, 1) := by decide +kernel
theorem dX3_reading_77 : decode cX3_reading 77 = .ok (.dup, 1) := by decide +kernel
theorem dX3_reading_78 : decode cX3_reading 78 = .ok (.getfield 131, 3) := by decide +kernel
theorem dX3_reading_81 : decode cX3_reading 81 = .ok (.iconst 1, 1) := by decide +kernel
theorem dX3_reading_82 : decode cX3_reading 82 = .ok (.iadd, 1) := by decide +kernel
theorem dX3_reading_83 : decode cX3_reading 83 = .ok (.putfield 131, 3) := by decide +kernel
theorem dX3_reading_86 : decode cX3_reading 86 = .ok (.aload_n 0, 1) := by decide +kernel
theorem dX3_reading_87 : decode cX3_reading 87 = .ok (.getfield 131, 3) := by decide +kernel
theorem dX3_reading_90 : decode cX3_reading 90 = .ok (.iconst 1, 1) := by decide +kernel
theorem dX3_reading_91 : decode cX3_reading 91 = .ok (.isub, 1) := by decide +kernel
theorem dX3_reading_92 : decode cX3_reading 92 = .ok (.ireturn, 1) := by decide +kernel
theorem dX3_back_0 : decode cX3_back 0 = .ok (.iload_n 1, 1) := by decide +kernel
theorem dX3_back_1 : decode cX3_back 1 = .ok (.i2l, 1) := by decide +kernel
theorem dX3_back_2 : decode cX3_back 2 = .ok (.lconst 0, 1) := by decide +kernel
theorem dX3_back_3 : decode cX3_back 3 = .ok (.aload_n 0, 1) := by decide +kernel
theorem dX3_back_4 : decode cX3_back 4 = .ok (.getfield 131, 3) := by decide +kernel
theorem dX3_back_7 : decode cX3_back 7 = .ok (.i2l, 1) := by decide +kernel
theorem dX3_back_8 : decode cX3_back 8 = .ok (.invokestatic 77, 3) := by decide +kernel
theorem dX3_back_11 : decode cX3_back 11 = .ok (.ifCond .ne 6, 3) := by decide +kernel
theorem dX3_back_14 : decode cX3_back 14 = .ok (.bipush (-2), 2) := by decide +kernel
theorem dX3_back_16 : decode cX3_back 16 = .ok (.ireturn, 1) := by decide +kernel
theorem dX3_back_17 : decode cX3_back 17 = .ok (.aload_n 0, 1) := by decide +kernel
theorem dX3_back_18 : decode cX3_back 18 = .ok (.dup, 1) := by decide +kernel
theorem dX3_back_19 : decode cX3_back 19 = .ok (.getfield 131, 3) := by decide +kernel
theorem dX3_back_22 : decode cX3_back 22 = .ok (.iload_n 1, 1) := by decide +kernel
theorem dX3_back_23 : decode cX3_back 23 = .ok (.isub, 1) := by decide +kernel
theorem dX3_back_24 : decode cX3_back 24 = .ok (.putfield 131, 3) := by decide +kernel
theorem dX3_back_27 : decode cX3_back 27 = .ok (.aload_n 0, 1) := by decide +kernel
theorem dX3_back_28 : decode cX3_back 28 = .ok (.getfield 131, 3) := by decide +kernel
theorem dX3_back_31 : decode cX3_back 31 = .ok (.ireturn, 1) := by decide +kernel
theorem dX3_areSo_0 : decode cX3_areSo 0 = .ok (.iconst 1, 1) := by decide +kernel
theorem dX3_areSo_1 : decode cX3_areSo 1 = .ok (.istore_n 1, 1) := by decide +kernel
theorem dX3_areSo_2 : decode cX3_areSo 2 = .ok (.iconst 0, 1) := by decide +kernel
theorem dX3_areSo_3 : decode cX3_areSo 3 = .ok (.istore_n 2, 1) := by decide +kernel
theorem dX3_areSo_4 : decode cX3_areSo 4 = .ok (.iload_n 2, 1) := by decide +kernel
theorem dX3_areSo_5 : decode cX3_areSo 5 = .ok (.aload_n 0, 1) := by decide +kernel
theorem dX3_areSo_6 : decode cX3_areSo 6 = .ok (.getfield 131, 3) := by decide +kernel
theorem dX3_areSo_9 : decode cX3_areSo 9 = .ok (.if_icmp .ge 44, 3) := by decide +kernel
theorem dX3_areSo_12 : decode cX3_areSo 12 = .ok (.iload_n 1, 1) := by decide +kernel
theorem dX3_areSo_13 : decode cX3_areSo 13 = .ok (.ifCond .eq 32, 3) := by decide +kernel
theorem dX3_areSo_16 : decode cX3_areSo 16 = .ok (.aload_n 0, 1) := by decide +kernel
theorem dX3_areSo_17 : decode cX3_areSo 17 = .ok (.aload_n 0, 1) := by decide +kernel
theorem dX3_areSo_18 : decode cX3_areSo 18 = .ok (.getfield 44, 3) := by decide +kernel
theorem dX3_areSo_21 : decode cX3_areSo 21 = .ok (.iload_n 2, 1) := by decide +kernel
theorem dX3_areSo_22 : decode cX3_areSo 22 = .ok (.iaload, 1) := by decide +kernel
theorem dX3_areSo_23 : decode cX3_areSo 23 = .ok (.aload_n 0, 1) := by decide +kernel
theorem dX3_areSo_24 : decode cX3_areSo 24 = .ok (.getfield 47, 3) := by decide +kernel
theorem dX3_areSo_27 : decode cX3_areSo 27 = .ok (.iload_n 2, 1) := by decide +kernel
theorem dX3_areSo_28 : decode cX3_areSo 28 = .ok (.iaload, 1) := by decide +kernel
theorem dX3_areSo_29 : decode cX3_areSo 29 = .ok (.invokevirtual 140, 3) := by decide +kernel
theorem dX3_areSo_32 : decode cX3_areSo 32 = .ok (.aload_n 0, 1) := by decide +kernel
theorem dX3_areSo_33 : decode cX3_areSo 33 = .ok (.getfield 50, 3) := by decide +kernel
theorem dX3_areSo_36 : decode cX3_areSo 36 = .ok (.iload_n 2, 1) := by decide +kernel
theorem dX3_areSo_37 : decode cX3_areSo 37 = .ok (.iaload, 1) := by decide +kernel
theorem dX3_areSo_38 : decode cX3_areSo 38 = .ok (.if_icmp .ne 7, 3) := by decide +kernel
theorem dX3_areSo_41 : decode cX3_areSo 41 = .ok (.iconst 1, 1) := by decide +kernel
theorem dX3_areSo_42 : decode cX3_areSo 42 = .ok (.goto 4, 3) := by decide +kernel
theorem dX3_areSo_45 : decode cX3_areSo 45 = .ok (.iconst 0, 1) := by decide +kernel
theorem dX3_areSo_46 : decode cX3_areSo 46 = .ok (.istore_n 1, 1) := by decide +kernel
theorem dX3_areSo_47 : decode cX3_areSo 47 = .ok (.iinc 2 1, 3) := by decide +kernel
theorem dX3_areSo_50 : decode cX3_areSo 50 = .ok (.goto (-46), 3) := by decide +kernel
theorem dX3_areSo_53 : decode cX3_areSo 53 = .ok (.iload_n 1, 1) := by decide +kernel
theorem dX3_areSo_54 : decode cX3_areSo 54 = .ok (.ireturn, 1) := by decide +kernel
theorem dX3_steps_0 : decode cX3_steps 0 = .ok (.aload_n 0, 1) := by decide +kernel
theorem dX3_steps_1 : decode cX3_steps 1 = .ok (.iload_n 1, 1) := by decide +kernel
theorem dX3_steps_2 : decode cX3_steps 2 = .ok (.invokevirtual 134, 3) := by decide +kernel
theorem dX3_steps_5 : decode cX3_steps 5 = .ok (.ifCond .eq 5, 3) := by decide +kernel
theorem dX3_steps_8 : decode cX3_steps 8 = .ok (.iconst (-1), 1) := by decide +kernel
theorem dX3_steps_9 : decode cX3_steps 9 = .ok (.ireturn, 1) := by decide +kernel
theorem dX3_steps_10 : decode cX3_steps 10 = .ok (.aload_n 0, 1) := by decide +kernel
theorem dX3_steps_11 : decode cX3_steps 11 = .ok (.getfield 19, 3) := by decide +kernel
theorem dX3_steps_14 : decode cX3_steps 14 = .ok (.iload_n 1, 1) := by decide +kernel
theorem dX3_steps_15 : decode cX3_steps 15 = .ok (.iaload, 1) := by decide +kernel
theorem dX3_steps_16 : decode cX3_steps 16 = .ok (.istore_n 2, 1) := by decide +kernel
theorem dX3_steps_17 : decode cX3_steps 17 = .ok (.iconst 0, 1) := by decide +kernel
theorem dX3_steps_18 : decode cX3_steps 18 = .ok (.istore_n 3, 1) := by decide +kernel
theorem dX3_steps_19 : decode cX3_steps 19 = .ok (.iconst 0, 1) := by decide +kernel
theorem dX3_steps_20 : decode cX3_steps 20 = .ok (.istore 4, 2) := by decide +kernel
theorem dX3_steps_22 : decode cX3_steps 22 = .ok (.iload 4, 2) := by decide +kernel
theorem dX3_steps_24 : decode cX3_steps 24 = .ok (.bipush 6, 2) := by decide +kernel
theorem dX3_steps_26 : decode cX3_steps 26 = .ok (.if_icmp .ge 35, 3) := by decide +kernel
theorem dX3_steps_29 : decode cX3_steps 29 = .ok (.aload_n 0, 1) := by decide +kernel
theorem dX3_steps_30 : decode cX3_steps 30 = .ok (.getfield 19, 3) := by decide +kernel
theorem dX3_steps_33 : decode cX3_steps 33 = .ok (.iload_n 1, 1) := by decide +kernel
theorem dX3_steps_34 : decode cX3_steps 34 = .ok (.iload 4, 2) := by decide +kernel
theorem dX3_steps_36 : decode cX3_steps 36 = .ok (.iastore, 1) := by decide +kernel
theorem dX3_steps_37 : decode cX3_steps 37 = .ok (.iload_n 3, 1) := by decide +kernel
theorem dX3_steps_38 : decode cX3_steps 38 = .ok (.aload_n 0, 1) := by decide +kernel
theorem dX3_steps_39 : decode cX3_steps 39 = .ok (.invokevirtual 196, 3) := by decide +kernel
theorem dX3_steps_42 : decode cX3_steps 42 = .ok (.ifCond .eq 10, 3) := by decide +kernel
theorem dX3_steps_45 : decode cX3_steps 45 = .ok (.iconst 1, 1) := by decide +kernel
theorem dX3_steps_46 : decode cX3_steps 46 = .ok (.iload 4, 2) := by decide +kernel
theorem dX3_steps_48 : decode cX3_steps 48 = .ok (.ishl, 1) := by decide +kernel
theorem dX3_steps_49 : decode cX3_steps 49 = .ok (.goto 4, 3) := by decide +kernel
theorem dX3_steps_52 : decode cX3_steps 52 = .ok (.iconst 0, 1) := by decide +kernel
theorem dX3_steps_53 : decode cX3_steps 53 = .ok (.ior, 1) := by decide +kernel
theorem dX3_steps_54 : decode cX3_steps 54 = .ok (.istore_n 3, 1) := by decide +kernel
theorem dX3_steps_55 : decode cX3_steps 55 = .ok (.iinc 4 1, 3) := by decide +kernel
theorem dX3_steps_58 : decode cX3_steps 58 = .ok (.goto (-36), 3) := by decide +kernel
theorem dX3_steps_61 : decode cX3_steps 61 = .ok (.aload_n 0, 1) := by decide +kernel
theorem dX3_steps_62 : decode cX3_steps 62 = .ok (.getfield 19, 3) := by decide +kernel
theorem dX3_steps_65 : decode cX3_steps 65 = .ok (.iload_n 1, 1) := by decide +kernel
theorem dX3_steps_66 : decode cX3_steps 66 = .ok (.iload_n 2, 1) := by decide +kernel
theorem dX3_steps_67 : decode cX3_steps 67 = .ok (.iastore, 1) := by decide +kernel
theorem dX3_steps_68 : decode cX3_steps 68 = .ok (.iload_n 3, 1) := by decide +kernel
theorem dX3_steps_69 : decode cX3_steps 69 = .ok (.ireturn, 1) := by decide +kernel
theorem dX3_targets_0 : decode cX3_targets 0 = .ok (.aload_n 0, 1) := by decide +kernel
theorem dX3_targets_1 : decode cX3_targets 1 = .ok (.iload_n 1, 1) := by decide +kernel
theorem dX3_targets_2 : decode cX3_targets 2 = .ok (.invokevirtual 134, 3) := by decide +kernel
theorem dX3_targets_5 : decode cX3_targets 5 = .ok (.ifCond .eq 5, 3) := by decide +kernel
theorem dX3_targets_8 : decode cX3_targets 8 = .ok (.iconst (-1), 1) := by decide +kernel
theorem dX3_targets_9 : decode cX3_targets 9 = .ok (.ireturn, 1) := by decide +kernel
theorem dX3_targets_10 : decode cX3_targets 10 = .ok (.aload_n 0, 1) := by decide +kernel
theorem dX3_targets_11 : decode cX3_targets 11 = .ok (.getfield 16, 3) := by decide +kernel
theorem dX3_targets_14 : decode cX3_targets 14 = .ok (.iload_n 1, 1) := by decide +kernel
theorem dX3_targets_15 : decode cX3_targets 15 = .ok (.iaload, 1) := by decide +kernel
theorem dX3_targets_16 : decode cX3_targets 16 = .ok (.istore_n 2, 1) := by decide +kernel
theorem dX3_targets_17 : decode cX3_targets 17 = .ok (.iconst 0, 1) := by decide +kernel
theorem dX3_targets_18 : decode cX3_targets 18 = .ok (.istore_n 3, 1) := by decide +kernel
theorem dX3_targets_19 : decode cX3_targets 19 = .ok (.iconst 0, 1) := by decide +kernel
theorem dX3_targets_20 : decode cX3_targets 20 = .ok (.istore 4, 2) := by decide +kernel
theorem dX3_targets_22 : decode cX3_targets 22 = .ok (.iload 4, 2) := by decide +kernel
theorem dX3_targets_24 : decode cX3_targets 24 = .ok (.aload_n 0, 1) := by decide +kernel
theorem dX3_targets_25 : decode cX3_targets 25 = .ok (.getfield 74, 3) := by decide +kernel
theorem dX3_targets_28 : decode cX3_targets 28 = .ok (.if_icmp .ge 35, 3) := by decide +kernel
theorem dX3_targets_31 : decode cX3_targets 31 = .ok (.aload_n 0, 1) := by decide +kernel
theorem dX3_targets_32 : decode cX3_targets 32 = .ok (.getfield 16, 3) := by decide +kernel
theorem dX3_targets_35 : decode cX3_targets 35 = .ok (.iload_n 1, 1) := by decide +kernel
theorem dX3_targets_36 : decode cX3_targets 36 = .ok (.iload 4, 2) := by decide +kernel
theorem dX3_targets_38 : decode cX3_targets 38 = .ok (.iastore, 1) := by decide +kernel
theorem dX3_targets_39 : decode cX3_targets 39 = .ok (.iload_n 3, 1) := by decide +kernel
theorem dX3_targets_40 : decode cX3_targets 40 = .ok (.aload_n 0, 1) := by decide +kernel
theorem dX3_targets_41 : decode cX3_targets 41 = .ok (.invokevirtual 196, 3) := by decide +kernel
theorem dX3_targets_44 : decode cX3_targets 44 = .ok (.ifCond .eq 10, 3) := by decide +kernel
theorem dX3_targets_47 : decode cX3_targets 47 = .ok (.iconst 1, 1) := by decide +kernel
theorem dX3_targets_48 : decode cX3_targets 48 = .ok (.iload 4, 2) := by decide +kernel
theorem dX3_targets_50 : decode cX3_targets 50 = .ok (.ishl, 1) := by decide +kernel
theorem dX3_targets_51 : decode cX3_targets 51 = .ok (.goto 4, 3) := by decide +kernel
theorem dX3_targets_54 : decode cX3_targets 54 = .ok (.iconst 0, 1) := by decide +kernel
theorem dX3_targets_55 : decode cX3_targets 55 = .ok (.ior, 1) := by decide +kernel
theorem dX3_targets_56 : decode cX3_targets 56 = .ok (.istore_n 3, 1) := by decide +kernel
theorem dX3_targets_57 : decode cX3_targets 57 = .ok (.iinc 4 1, 3) := by decide +kernel
theorem dX3_targets_60 : decode cX3_targets 60 = .ok (.goto (-38), 3) := by decide +kernel
theorem dX3_targets_63 : decode cX3_targets 63 = .ok (.aload_n 0, 1) := by decide +kernel
theorem dX3_targets_64 : decode cX3_targets 64 = .ok (.getfield 16, 3) := by decide +kernel
theorem dX3_targets_67 : decode cX3_targets 67 = .ok (.iload_n 1, 1) := by decide +kernel
theorem dX3_targets_68 : decode cX3_targets 68 = .ok (.iload_n 2, 1) := by decide +kernel
theorem dX3_targets_69 : decode cX3_targets 69 = .ok (.iastore, 1) := by decide +kernel
theorem dX3_targets_70 : decode cX3_targets 70 = .ok (.iload_n 3, 1) := by decide +kernel
theorem dX3_targets_71 : decode cX3_targets 71 = .ok (.ireturn, 1) := by decide +kernel
theorem dX3_kinds_0 : decode cX3_kinds 0 = .ok (.aload_n 0, 1) := by decide +kernel
theorem dX3_kinds_1 : decode cX3_kinds 1 = .ok (.iload_n 1, 1) := by decide +kernel
theorem dX3_kinds_2 : decode cX3_kinds 2 = .ok (.invokevirtual 134, 3) := by decide +kernel
theorem dX3_kinds_5 : decode cX3_kinds 5 = .ok (.ifCond .eq 5, 3) := by decide +kernel
theorem dX3_kinds_8 : decode cX3_kinds 8 = .ok (.iconst (-1), 1) := by decide +kernel
theorem dX3_kinds_9 : decode cX3_kinds 9 = .ok (.ireturn, 1) := by decide +kernel
theorem dX3_kinds_10 : decode cX3_kinds 10 = .ok (.aload_n 0, 1) := by decide +kernel
theorem dX3_kinds_11 : decode cX3_kinds 11 = .ok (.getfield 7, 3) := by decide +kernel
theorem dX3_kinds_14 : decode cX3_kinds 14 = .ok (.iload_n 1, 1) := by decide +kernel
theorem dX3_kinds_15 : decode cX3_kinds 15 = .ok (.iaload, 1) := by decide +kernel
theorem dX3_kinds_16 : decode cX3_kinds 16 = .ok (.istore_n 2, 1) := by decide +kernel
theorem dX3_kinds_17 : decode cX3_kinds 17 = .ok (.iconst 0, 1) := by decide +kernel
theorem dX3_kinds_18 : decode cX3_kinds 18 = .ok (.istore_n 3, 1) := by decide +kernel
theorem dX3_kinds_19 : decode cX3_kinds 19 = .ok (.iconst 0, 1) := by decide +kernel
theorem dX3_kinds_20 : decode cX3_kinds 20 = .ok (.istore 4, 2) := by decide +kernel
theorem dX3_kinds_22 : decode cX3_kinds 22 = .ok (.iload 4, 2) := by decide +kernel
theorem dX3_kinds_24 : decode cX3_kinds 24 = .ok (.iconst 3, 1) := by decide +kernel
theorem dX3_kinds_25 : decode cX3_kinds 25 = .ok (.if_icmp .ge 35, 3) := by decide +kernel
theorem dX3_kinds_28 : decode cX3_kinds 28 = .ok (.aload_n 0, 1) := by decide +kernel
theorem dX3_kinds_29 : decode cX3_kinds 29 = .ok (.getfield 7, 3) := by decide +kernel
theorem dX3_kinds_32 : decode cX3_kinds 32 = .ok (.iload_n 1, 1) := by decide +kernel
theorem dX3_kinds_33 : decode cX3_kinds 33 = .ok (.iload 4, 2) := by decide +kernel
theorem dX3_kinds_35 : decode cX3_kinds 35 = .ok (.iastore, 1) := by decide +kernel
theorem dX3_kinds_36 : decode cX3_kinds 36 = .ok (.iload_n 3, 1) := by decide +kernel
theorem dX3_kinds_37 : decode cX3_kinds 37 = .ok (.aload_n 0, 1) := by decide +kernel
theorem dX3_kinds_38 : decode cX3_kinds 38 = .ok (.invokevirtual 196, 3) := by decide +kernel
theorem dX3_kinds_41 : decode cX3_kinds 41 = .ok (.ifCond .eq 10, 3) := by decide +kernel
theorem dX3_kinds_44 : decode cX3_kinds 44 = .ok (.iconst 1, 1) := by decide +kernel
theorem dX3_kinds_45 : decode cX3_kinds 45 = .ok (.iload 4, 2) := by decide +kernel
theorem dX3_kinds_47 : decode cX3_kinds 47 = .ok (.ishl, 1) := by decide +kernel
theorem dX3_kinds_48 : decode cX3_kinds 48 = .ok (.goto 4, 3) := by decide +kernel
theorem dX3_kinds_51 : decode cX3_kinds 51 = .ok (.iconst 0, 1) := by decide +kernel
theorem dX3_kinds_52 : decode cX3_kinds 52 = .ok (.ior, 1) := by decide +kernel
theorem dX3_kinds_53 : decode cX3_kinds 53 = .ok (.istore_n 3, 1) := by decide +kernel
theorem dX3_kinds_54 : decode cX3_kinds 54 = .ok (.iinc 4 1, 3) := by decide +kernel
theorem dX3_kinds_57 : decode cX3_kinds 57 = .ok (.goto (-35), 3) := by decide +kernel
theorem dX3_kinds_60 : decode cX3_kinds 60 = .ok (.aload_n 0, 1) := by decide +kernel
theorem dX3_kinds_61 : decode cX3_kinds 61 = .ok (.getfield 7, 3) := by decide +kernel
theorem dX3_kinds_64 : decode cX3_kinds 64 = .ok (.iload_n 1, 1) := by decide +kernel
theorem dX3_kinds_65 : decode cX3_kinds 65 = .ok (.iload_n 2, 1) := by decide +kernel
theorem dX3_kinds_66 : decode cX3_kinds 66 = .ok (.iastore, 1) := by decide +kernel
theorem dX3_kinds_67 : decode cX3_kinds 67 = .ok (.iload_n 3, 1) := by decide +kernel
theorem dX3_kinds_68 : decode cX3_kinds 68 = .ok (.ireturn, 1) := by decide +kernel
theorem dX3_odds_0 : decode cX3_odds 0 = .ok (.aload_n 0, 1) := by decide +kernel
theorem dX3_odds_1 : decode cX3_odds 1 = .ok (.iload_n 1, 1) := by decide +kernel
theorem dX3_odds_2 : decode cX3_odds 2 = .ok (.invokevirtual 145, 3) := by decide +kernel
theorem dX3_odds_5 : decode cX3_odds 5 = .ok (.ifCond .ne 34, 3) := by decide +kernel
theorem dX3_odds_8 : decode cX3_odds 8 = .ok (.aload_n 0, 1) := by decide +kernel
theorem dX3_odds_9 : decode cX3_odds 9 = .ok (.iload_n 2, 1) := by decide +kernel
theorem dX3_odds_10 : decode cX3_odds 10 = .ok (.invokevirtual 145, 3) := by decide +kernel
theorem dX3_odds_13 : decode cX3_odds 13 = .ok (.ifCond .ne 26, 3) := by decide +kernel
theorem dX3_odds_16 : decode cX3_odds 16 = .ok (.iload_n 3, 1) := by decide +kernel
theorem dX3_odds_17 : decode cX3_odds 17 = .ok (.i2l, 1) := by decide +kernel
theorem dX3_odds_18 : decode cX3_odds 18 = .ok (.lconst 0, 1) := by decide +kernel
theorem dX3_odds_19 : decode cX3_odds 19 = .ok (.ldc2_w 200, 3) := by decide +kernel
theorem dX3_odds_22 : decode cX3_odds 22 = .ok (.invokestatic 77, 3) := by decide +kernel
theorem dX3_odds_25 : decode cX3_odds 25 = .ok (.ifCond .eq 14, 3) := by decide +kernel
theorem dX3_odds_28 : decode cX3_odds 28 = .ok (.iload 4, 2) := by decide +kernel
theorem dX3_odds_30 : decode cX3_odds 30 = .ok (.i2l, 1) := by decide +kernel
theorem dX3_odds_31 : decode cX3_odds 31 = .ok (.lconst 0, 1) := by decide +kernel
theorem dX3_odds_32 : decode cX3_odds 32 = .ok (.lconst 1, 1) := by decide +kernel
theorem dX3_odds_33 : decode cX3_odds 33 = .ok (.invokestatic 77, 3) := by decide +kernel
theorem dX3_odds_36 : decode cX3_odds 36 = .ok (.ifCond .ne 7, 3) := by decide +kernel
theorem dX3_odds_39 : decode cX3_odds 39 = .ok (.invokestatic 70, 3) := by decide +kernel
theorem dX3_odds_42 : decode cX3_odds 42 = .ok (.lreturn, 1) := by decide +kernel
theorem dX3_odds_43 : decode cX3_odds 43 = .ok (.lconst 0, 1) := by decide +kernel
theorem dX3_odds_44 : decode cX3_odds 44 = .ok (.lstore 5, 2) := by decide +kernel
theorem dX3_odds_46 : decode cX3_odds 46 = .ok (.iconst 0, 1) := by decide +kernel
theorem dX3_odds_47 : decode cX3_odds 47 = .ok (.istore 7, 2) := by decide +kernel
theorem dX3_odds_49 : decode cX3_odds 49 = .ok (.iload 7, 2) := by decide +kernel
theorem dX3_odds_51 : decode cX3_odds 51 = .ok (.bipush 12, 2) := by decide +kernel
theorem dX3_odds_53 : decode cX3_odds 53 = .ok (.if_icmp .ge 31, 3) := by decide +kernel
theorem dX3_odds_56 : decode cX3_odds 56 = .ok (.lload 5, 2) := by decide +kernel
theorem dX3_odds_58 : decode cX3_odds 58 = .ok (.aload_n 0, 1) := by decide +kernel
theorem dX3_odds_59 : decode cX3_odds 59 = .ok (.iload_n 1, 1) := by decide +kernel
theorem dX3_odds_60 : decode cX3_odds 60 = .ok (.iload_n 2, 1) := by decide +kernel
theorem dX3_odds_61 : decode cX3_odds 61 = .ok (.iload 7, 2) := by decide +kernel
theorem dX3_odds_63 : decode cX3_odds 63 = .ok (.iload_n 3, 1) := by decide +kernel
theorem dX3_odds_64 : decode cX3_odds 64 = .ok (.invokevirtual 182, 3) := by decide +kernel
theorem dX3_odds_67 : decode cX3_odds 67 = .ok (.ifCond .lt 7, 3) := by decide +kernel
theorem dX3_odds_70 : decode cX3_odds 70 = .ok (.lconst 1, 1) := by decide +kernel
theorem dX3_odds_71 : decode cX3_odds 71 = .ok (.goto 4, 3) := by decide +kernel
theorem dX3_odds_74 : decode cX3_odds 74 = .ok (.lconst 0, 1) := by decide +kernel
theorem dX3_odds_75 : decode cX3_odds 75 = .ok (.ladd, 1) := by decide +kernel
theorem dX3_odds_76 : decode cX3_odds 76 = .ok (.lstore 5, 2) := by decide +kernel
theorem dX3_odds_78 : decode cX3_odds 78 = .ok (.iinc 7 1, 3) := by decide +kernel
theorem dX3_odds_81 : decode cX3_odds 81 = .ok (.goto (-32), 3) := by decide +kernel
theorem dX3_odds_84 : decode cX3_odds 84 = .ok (.lload 5, 2) := by decide +kernel
theorem dX3_odds_86 : decode cX3_odds 86 = .ok (.ldc2_w 202, 3) := by decide +kernel
theorem dX3_odds_89 : decode cX3_odds 89 = .ok (.iload 4, 2) := by decide +kernel
theorem dX3_odds_91 : decode cX3_odds 91 = .ok (.invokestatic 204, 3) := by decide +kernel
theorem dX3_odds_94 : decode cX3_odds 94 = .ok (.lreturn, 1) := by decide +kernel
theorem dX3_noSheet_0 : decode cX3_noSheet 0 = .ok (.iload_n 0, 1) := by decide +kernel
theorem dX3_noSheet_1 : decode cX3_noSheet 1 = .ok (.i2l, 1) := by decide +kernel
theorem dX3_noSheet_2 : decode cX3_noSheet 2 = .ok (.lconst 0, 1) := by decide +kernel
theorem dX3_noSheet_3 : decode cX3_noSheet 3 = .ok (.ldc2_w 208, 3) := by decide +kernel
theorem dX3_noSheet_6 : decode cX3_noSheet 6 = .ok (.invokestatic 77, 3) := by decide +kernel
theorem dX3_noSheet_9 : decode cX3_noSheet 9 = .ok (.ifCond .ne 7, 3) := by decide +kernel
theorem dX3_noSheet_12 : decode cX3_noSheet 12 = .ok (.iconst 1, 1) := by decide +kernel
theorem dX3_noSheet_13 : decode cX3_noSheet 13 = .ok (.goto 4, 3) := by decide +kernel
theorem dX3_noSheet_16 : decode cX3_noSheet 16 = .ok (.iconst 0, 1) := by decide +kernel
theorem dX3_noSheet_17 : decode cX3_noSheet 17 = .ok (.ireturn, 1) := by decide +kernel
theorem dX3_sheet_0 : decode cX3_sheet 0 = .ok (.iload_n 1, 1) := by decide +kernel
theorem dX3_sheet_1 : decode cX3_sheet 1 = .ok (.invokestatic 115, 3) := by decide +kernel
theorem dX3_sheet_4 : decode cX3_sheet 4 = .ok (.ifCond .eq 9, 3) := by decide +kernel
theorem dX3_sheet_7 : decode cX3_sheet 7 = .ok (.aload_n 0, 1) := by decide +kernel
theorem dX3_sheet_8 : decode cX3_sheet 8 = .ok (.iconst (-1), 1) := by decide +kernel
theorem dX3_sheet_9 : decode cX3_sheet 9 = .ok (.invokevirtual 119, 3) := by decide +kernel
theorem dX3_sheet_12 : decode cX3_sheet 12 = .ok (.ireturn, 1) := by decide +kernel
theorem dX3_sheet_13 : decode cX3_sheet 13 = .ok (.iload_n 2, 1) := by decide +kernel
theorem dX3_sheet_14 : decode cX3_sheet 14 = .ok (.i2l, 1) := by decide +kernel
theorem dX3_sheet_15 : decode cX3_sheet 15 = .ok (.lconst 0, 1) := by decide +kernel
theorem dX3_sheet_16 : decode cX3_sheet 16 = .ok (.ldc2_w 122, 3) := by decide +kernel
theorem dX3_sheet_19 : decode cX3_sheet 19 = .ok (.invokestatic 77, 3) := by decide +kernel
theorem dX3_sheet_22 : decode cX3_sheet 22 = .ok (.ifCond .eq 9, 3) := by decide +kernel
theorem dX3_sheet_25 : decode cX3_sheet 25 = .ok (.iload_n 3, 1) := by decide +kernel
theorem dX3_sheet_26 : decode cX3_sheet 26 = .ok (.bipush 60, 2) := by decide +kernel
theorem dX3_sheet_28 : decode cX3_sheet 28 = .ok (.if_icmp .le 10, 3) := by decide +kernel
theorem dX3_sheet_31 : decode cX3_sheet 31 = .ok (.aload_n 0, 1) := by decide +kernel
theorem dX3_sheet_32 : decode cX3_sheet 32 = .ok (.bipush (-2), 2) := by decide +kernel
theorem dX3_sheet_34 : decode cX3_sheet 34 = .ok (.invokevirtual 119, 3) := by decide +kernel
theorem dX3_sheet_37 : decode cX3_sheet 37 = .ok (.ireturn, 1) := by decide +kernel
theorem dX3_sheet_38 : decode cX3_sheet 38 = .ok (.iload_n 3, 1) := by decide +kernel
theorem dX3_sheet_39 : decode cX3_sheet 39 = .ok (.ifCond .ge 9, 3) := by decide +kernel
theorem dX3_sheet_42 : decode cX3_sheet 42 = .ok (.aload_n 0, 1) := by decide +kernel
theorem dX3_sheet_43 : decode cX3_sheet 43 = .ok (.iconst 4, 1) := by decide +kernel
theorem dX3_sheet_44 : decode cX3_sheet 44 = .ok (.invokevirtual 107, 3) := by decide +kernel
theorem dX3_sheet_47 : decode cX3_sheet 47 = .ok (.ireturn, 1) := by decide +kernel
theorem dX3_sheet_48 : decode cX3_sheet 48 = .ok (.aload_n 0, 1) := by decide +kernel
theorem dX3_sheet_49 : decode cX3_sheet 49 = .ok (.getfield 53, 3) := by decide +kernel
theorem dX3_sheet_52 : decode cX3_sheet 52 = .ok (.iload_n 1, 1) := by decide +kernel
theorem dX3_sheet_53 : decode cX3_sheet 53 = .ok (.iload_n 3, 1) := by decide +kernel
theorem dX3_sheet_54 : decode cX3_sheet 54 = .ok (.iastore, 1) := by decide +kernel
theorem dX3_sheet_55 : decode cX3_sheet 55 = .ok (.aload_n 0, 1) := by decide +kernel
theorem dX3_sheet_56 : decode cX3_sheet 56 = .ok (.getfield 56, 3) := by decide +kernel
theorem dX3_sheet_59 : decode cX3_sheet 59 = .ok (.iload_n 1, 1) := by decide +kernel
theorem dX3_sheet_60 : decode cX3_sheet 60 = .ok (.iload_n 2, 1) := by decide +kernel
theorem dX3_sheet_61 : decode cX3_sheet 61 = .ok (.iastore, 1) := by decide +kernel
theorem dX3_sheet_62 : decode cX3_sheet 62 = .ok (.iconst 0, 1) := by decide +kernel
theorem dX3_sheet_63 : decode cX3_sheet 63 = .ok (.istore 4, 2) := by decide +kernel
theorem dX3_sheet_65 : decode cX3_sheet 65 = .ok (.iload 4, 2) := by decide +kernel
theorem dX3_sheet_67 : decode cX3_sheet 67 = .ok (.iload_n 3, 1) := by decide +kernel
theorem dX3_sheet_68 : decode cX3_sheet 68 = .ok (.if_icmp .ge 22, 3) := by decide +kernel
theorem dX3_sheet_71 : decode cX3_sheet 71 = .ok (.aload_n 0, 1) := by decide +kernel
theorem dX3_sheet_72 : decode cX3_sheet 72 = .ok (.getfield 59, 3) := by decide +kernel
theorem dX3_sheet_75 : decode cX3_sheet 75 = .ok (.bipush 60, 2) := by decide +kernel
theorem dX3_sheet_77 : decode cX3_sheet 77 = .ok (.iload_n 1, 1) := by decide +kernel
theorem dX3_sheet_78 : decode cX3_sheet 78 = .ok (.imul, 1) := by decide +kernel
theorem dX3_sheet_79 : decode cX3_sheet 79 = .ok (.iload 4, 2) := by decide +kernel
theorem dX3_sheet_81 : decode cX3_sheet 81 = .ok (.iadd, 1) := by decide +kernel
theorem dX3_sheet_82 : decode cX3_sheet 82 = .ok (.iconst 0, 1) := by decide +kernel
theorem dX3_sheet_83 : decode cX3_sheet 83 = .ok (.iastore, 1) := by decide +kernel
theorem dX3_sheet_84 : decode cX3_sheet 84 = .ok (.iinc 4 1, 3) := by decide +kernel
theorem dX3_sheet_87 : decode cX3_sheet 87 = .ok (.goto (-22), 3) := by decide +kernel
theorem dX3_sheet_90 : decode cX3_sheet 90 = .ok (.aload_n 0, 1) := by decide +kernel
theorem dX3_sheet_91 : decode cX3_sheet 91 = .ok (.iconst 1, 1) := by decide +kernel
theorem dX3_sheet_92 : decode cX3_sheet 92 = .ok (.invokevirtual 119, 3) := by decide +kernel
theorem dX3_sheet_95 : decode cX3_sheet 95 = .ok (.ireturn, 1) := by decide +kernel
theorem dX3_lose_0 : decode cX3_lose 0 = .ok (.iload_n 1, 1) := by decide +kernel
theorem dX3_lose_1 : decode cX3_lose 1 = .ok (.invokestatic 115, 3) := by decide +kernel
theorem dX3_lose_4 : decode cX3_lose 4 = .ok (.ifCond .eq 5, 3) := by decide +kernel
theorem dX3_lose_7 : decode cX3_lose 7 = .ok (.iconst (-1), 1) := by decide +kernel
theorem dX3_lose_8 : decode cX3_lose 8 = .ok (.ireturn, 1) := by decide +kernel
theorem dX3_lose_9 : decode cX3_lose 9 = .ok (.aload_n 0, 1) := by decide +kernel
theorem dX3_lose_10 : decode cX3_lose 10 = .ok (.getfield 53, 3) := by decide +kernel
theorem dX3_lose_13 : decode cX3_lose 13 = .ok (.iload_n 1, 1) := by decide +kernel
theorem dX3_lose_14 : decode cX3_lose 14 = .ok (.iaload, 1) := by decide +kernel
theorem dX3_lose_15 : decode cX3_lose 15 = .ok (.ifCond .ge 7, 3) := by decide +kernel
theorem dX3_lose_18 : decode cX3_lose 18 = .ok (.iconst 0, 1) := by decide +kernel
theorem dX3_lose_19 : decode cX3_lose 19 = .ok (.goto 4, 3) := by decide +kernel
theorem dX3_lose_22 : decode cX3_lose 22 = .ok (.iconst 1, 1) := by decide +kernel
theorem dX3_lose_23 : decode cX3_lose 23 = .ok (.istore_n 2, 1) := by decide +kernel
theorem dX3_lose_24 : decode cX3_lose 24 = .ok (.aload_n 0, 1) := by decide +kernel
theorem dX3_lose_25 : decode cX3_lose 25 = .ok (.getfield 53, 3) := by decide +kernel
theorem dX3_lose_28 : decode cX3_lose 28 = .ok (.iload_n 1, 1) := by decide +kernel
theorem dX3_lose_29 : decode cX3_lose 29 = .ok (.iconst (-1), 1) := by decide +kernel
theorem dX3_lose_30 : decode cX3_lose 30 = .ok (.iastore, 1) := by decide +kernel
theorem dX3_lose_31 : decode cX3_lose 31 = .ok (.iload_n 2, 1) := by decide +kernel
theorem dX3_lose_32 : decode cX3_lose 32 = .ok (.ireturn, 1) := by decide +kernel
theorem dX3_noCell_0 : decode cX3_noCell 0 = .ok (.aload_n 0, 1) := by decide +kernel
theorem dX3_noCell_1 : decode cX3_noCell 1 = .ok (.getfield 53, 3) := by decide +kernel
theorem dX3_noCell_4 : decode cX3_noCell 4 = .ok (.iload_n 1, 1) := by decide +kernel
theorem dX3_noCell_5 : decode cX3_noCell 5 = .ok (.iaload, 1) := by decide +kernel
theorem dX3_noCell_6 : decode cX3_noCell 6 = .ok (.ifCond .ge 7, 3) := by decide +kernel
theorem dX3_noCell_9 : decode cX3_noCell 9 = .ok (.iconst 1, 1) := by decide +kernel
theorem dX3_noCell_10 : decode cX3_noCell 10 = .ok (.goto 26, 3) := by decide +kernel
theorem dX3_noCell_13 : decode cX3_noCell 13 = .ok (.iload_n 2, 1) := by decide +kernel
theorem dX3_noCell_14 : decode cX3_noCell 14 = .ok (.i2l, 1) := by decide +kernel
theorem dX3_noCell_15 : decode cX3_noCell 15 = .ok (.lconst 0, 1) := by decide +kernel
theorem dX3_noCell_16 : decode cX3_noCell 16 = .ok (.aload_n 0, 1) := by decide +kernel
theorem dX3_noCell_17 : decode cX3_noCell 17 = .ok (.getfield 53, 3) := by decide +kernel
theorem dX3_noCell_20 : decode cX3_noCell 20 = .ok (.iload_n 1, 1) := by decide +kernel
theorem dX3_noCell_21 : decode cX3_noCell 21 = .ok (.iaload, 1) := by decide +kernel
theorem dX3_noCell_22 : decode cX3_noCell 22 = .ok (.i2l, 1) := by decide +kernel
theorem dX3_noCell_23 : decode cX3_noCell 23 = .ok (.lconst 1, 1) := by decide +kernel
theorem dX3_noCell_24 : decode cX3_noCell 24 = .ok (.lsub, 1) := by decide +kernel
theorem dX3_noCell_25 : decode cX3_noCell 25 = .ok (.invokestatic 77, 3) := by decide +kernel
theorem dX3_noCell_28 : decode cX3_noCell 28 = .ok (.ifCond .eq 7, 3) := by decide +kernel
theorem dX3_noCell_31 : decode cX3_noCell 31 = .ok (.iconst 0, 1) := by decide +kernel
theorem dX3_noCell_32 : decode cX3_noCell 32 = .ok (.goto 4, 3) := by decide +kernel
theorem dX3_noCell_35 : decode cX3_noCell 35 = .ok (.iconst 3, 1) := by decide +kernel
theorem dX3_noCell_36 : decode cX3_noCell 36 = .ok (.ireturn, 1) := by decide +kernel
theorem dX3_put_0 : decode cX3_put 0 = .ok (.iload_n 1, 1) := by decide +kernel
theorem dX3_put_1 : decode cX3_put 1 = .ok (.invokestatic 115, 3) := by decide +kernel
theorem dX3_put_4 : decode cX3_put 4 = .ok (.ifCond .eq 9, 3) := by decide +kernel
theorem dX3_put_7 : decode cX3_put 7 = .ok (.aload_n 0, 1) := by decide +kernel
theorem dX3_put_8 : decode cX3_put 8 = .ok (.iconst (-1), 1) := by decide +kernel
theorem dX3_put_9 : decode cX3_put 9 = .ok (.invokevirtual 119, 3) := by decide +kernel
theorem dX3_put_12 : decode cX3_put 12 = .ok (.ireturn, 1) := by decide +kernel
theorem dX3_put_13 : decode cX3_put 13 = .ok (.aload_n 0, 1) := by decide +kernel
theorem dX3_put_14 : decode cX3_put 14 = .ok (.iload_n 1, 1) := by decide +kernel
theorem dX3_put_15 : decode cX3_put 15 = .ok (.iload_n 2, 1) := by decide +kernel
theorem dX3_put_16 : decode cX3_put 16 = .ok (.invokevirtual 210, 3) := by decide +kernel
theorem dX3_put_19 : decode cX3_put 19 = .ok (.ifCond .le 14, 3) := by decide +kernel
theorem dX3_put_22 : decode cX3_put 22 = .ok (.aload_n 0, 1) := by decide +kernel
theorem dX3_put_23 : decode cX3_put 23 = .ok (.aload_n 0, 1) := by decide +kernel
theorem dX3_put_24 : decode cX3_put 24 = .ok (.iload_n 1, 1) := by decide +kernel
theorem dX3_put_25 : decode cX3_put 25 = .ok (.iload_n 2, 1) := by decide +kernel
theorem dX3_put_26 : decode cX3_put 26 = .ok (.invokevirtual 210, 3) := by decide +kernel
theorem dX3_put_29 : decode cX3_put 29 = .ok (.invokevirtual 107, 3) := by decide +kernel
theorem dX3_put_32 : decode cX3_put 32 = .ok (.ireturn, 1) := by decide +kernel
theorem dX3_put_33 : decode cX3_put 33 = .ok (.aload_n 0, 1) := by decide +kernel
theorem dX3_put_34 : decode cX3_put 34 = .ok (.getfield 59, 3) := by decide +kernel
theorem dX3_put_37 : decode cX3_put 37 = .ok (.bipush 60, 2) := by decide +kernel
theorem dX3_put_39 : decode cX3_put 39 = .ok (.iload_n 1, 1) := by decide +kernel
theorem dX3_put_40 : decode cX3_put 40 = .ok (.imul, 1) := by decide +kernel
theorem dX3_put_41 : decode cX3_put 41 = .ok (.iload_n 2, 1) := by decide +kernel
theorem dX3_put_42 : decode cX3_put 42 = .ok (.iadd, 1) := by decide +kernel
theorem dX3_put_43 : decode cX3_put 43 = .ok (.aload_n 0, 1) := by decide +kernel
theorem dX3_put_44 : decode cX3_put 44 = .ok (.getfield 56, 3) := by decide +kernel
theorem dX3_put_47 : decode cX3_put 47 = .ok (.iload_n 1, 1) := by decide +kernel
theorem dX3_put_48 : decode cX3_put 48 = .ok (.iaload, 1) := by decide +kernel
theorem dX3_put_49 : decode cX3_put 49 = .ok (.ifCond .ne 8, 3) := by decide +kernel
theorem dX3_put_52 : decode cX3_put 52 = .ok (.iload_n 3, 1) := by decide +kernel
theorem dX3_put_53 : decode cX3_put 53 = .ok (.i2b, 1) := by decide +kernel
theorem dX3_put_54 : decode cX3_put 54 = .ok (.goto 19, 3) := by decide +kernel
theorem dX3_put_57 : decode cX3_put 57 = .ok (.aload_n 0, 1) := by decide +kernel
theorem dX3_put_58 : decode cX3_put 58 = .ok (.getfield 56, 3) := by decide +kernel
theorem dX3_put_61 : decode cX3_put 61 = .ok (.iload_n 1, 1) := by decide +kernel
theorem dX3_put_62 : decode cX3_put 62 = .ok (.iaload, 1) := by decide +kernel
theorem dX3_put_63 : decode cX3_put 63 = .ok (.iconst 1, 1) := by decide +kernel
theorem dX3_put_64 : decode cX3_put 64 = .ok (.if_icmp .ne 8, 3) := by decide +kernel
theorem dX3_put_67 : decode cX3_put 67 = .ok (.iload_n 3, 1) := by decide +kernel
theorem dX3_put_68 : decode cX3_put 68 = .ok (.i2s, 1) := by decide +kernel
theorem dX3_put_69 : decode cX3_put 69 = .ok (.goto 4, 3) := by decide +kernel
theorem dX3_put_72 : decode cX3_put 72 = .ok (.iload_n 3, 1) := by decide +kernel
theorem dX3_put_73 : decode cX3_put 73 = .ok (.iastore, 1) := by decide +kernel
theorem dX3_put_74 : decode cX3_put 74 = .ok (.aload_n 0, 1) := by decide +kernel
theorem dX3_put_75 : decode cX3_put 75 = .ok (.iconst 1, 1) := by decide +kernel
theorem dX3_put_76 : decode cX3_put 76 = .ok (.invokevirtual 119, 3) := by decide +kernel
theorem dX3_put_79 : decode cX3_put 79 = .ok (.ireturn, 1) := by decide +kernel
theorem dX3_cell_0 : decode cX3_cell 0 = .ok (.aload_n 0, 1) := by decide +kernel
theorem dX3_cell_1 : decode cX3_cell 1 = .ok (.iconst 0, 1) := by decide +kernel
theorem dX3_cell_2 : decode cX3_cell 2 = .ok (.putfield 67, 3) := by decide +kernel
theorem dX3_cell_5 : decode cX3_cell 5 = .ok (.iload_n 1, 1) := by decide +kernel
theorem dX3_cell_6 : decode cX3_cell 6 = .ok (.invokestatic 115, 3) := by decide +kernel
theorem dX3_cell_9 : decode cX3_cell 9 = .ok (.ifCond .ne 15, 3) := by decide +kernel
theorem dX3_cell_12 : decode cX3_cell 12 = .ok (.iload_n 3, 1) := by decide +kernel
theorem dX3_cell_13 : decode cX3_cell 13 = .ok (.i2l, 1) := by decide +kernel
theorem dX3_cell_14 : decode cX3_cell 14 = .ok (.lconst 0, 1) := by decide +kernel
theorem dX3_cell_15 : decode cX3_cell 15 = .ok (.ldc2_w 122, 3) := by decide +kernel
theorem dX3_cell_18 : decode cX3_cell 18 = .ok (.invokestatic 77, 3) := by decide +kernel
theorem dX3_cell_21 : decode cX3_cell 21 = .ok (.ifCond .ne 7, 3) := by decide +kernel
theorem dX3_cell_24 : decode cX3_cell 24 = .ok (.invokestatic 70, 3) := by decide +kernel
theorem dX3_cell_27 : decode cX3_cell 27 = .ok (.lreturn, 1) := by decide +kernel
theorem dX3_cell_28 : decode cX3_cell 28 = .ok (.aload_n 0, 1) := by decide +kernel
theorem dX3_cell_29 : decode cX3_cell 29 = .ok (.getfield 53, 3) := by decide +kernel
theorem dX3_cell_32 : decode cX3_cell 32 = .ok (.iload_n 1, 1) := by decide +kernel
theorem dX3_cell_33 : decode cX3_cell 33 = .ok (.iaload, 1) := by decide +kernel
theorem dX3_cell_34 : decode cX3_cell 34 = .ok (.ifCond .lt 19, 3) := by decide +kernel
theorem dX3_cell_37 : decode cX3_cell 37 = .ok (.aload_n 0, 1) := by decide +kernel
theorem dX3_cell_38 : decode cX3_cell 38 = .ok (.getfield 56, 3) := by decide +kernel
theorem dX3_cell_41 : decode cX3_cell 41 = .ok (.iload_n 1, 1) := by decide +kernel
theorem dX3_cell_42 : decode cX3_cell 42 = .ok (.iaload, 1) := by decide +kernel
theorem dX3_cell_43 : decode cX3_cell 43 = .ok (.iload_n 3, 1) := by decide +kernel
theorem dX3_cell_44 : decode cX3_cell 44 = .ok (.if_icmp .eq 9, 3) := by decide +kernel
theorem dX3_cell_47 : decode cX3_cell 47 = .ok (.aload_n 0, 1) := by decide +kernel
theorem dX3_cell_48 : decode cX3_cell 48 = .ok (.iconst 2, 1) := by decide +kernel
theorem dX3_cell_49 : decode cX3_cell 49 = .ok (.invokevirtual 213, 3) := by decide +kernel
theorem dX3_cell_52 : decode cX3_cell 52 = .ok (.lreturn, 1) := by decide +kernel
theorem dX3_cell_53 : decode cX3_cell 53 = .ok (.aload_n 0, 1) := by decide +kernel
theorem dX3_cell_54 : decode cX3_cell 54 = .ok (.iload_n 1, 1) := by decide +kernel
theorem dX3_cell_55 : decode cX3_cell 55 = .ok (.iload_n 2, 1) := by decide +kernel
theorem dX3_cell_56 : decode cX3_cell 56 = .ok (.invokevirtual 210, 3) := by decide +kernel
theorem dX3_cell_59 : decode cX3_cell 59 = .ok (.ifCond .le 16, 3) := by decide +kernel
theorem dX3_cell_62 : decode cX3_cell 62 = .ok (.aload_n 0, 1) := by decide +kernel
theorem dX3_cell_63 : decode cX3_cell 63 = .ok (.aload_n 0, 1) := by decide +kernel
theorem dX3_cell_64 : decode cX3_cell 64 = .ok (.iload_n 1, 1) := by decide +kernel
theorem dX3_cell_65 : decode cX3_cell 65 = .ok (.iload_n 2, 1) := by decide +kernel
theorem dX3_cell_66 : decode cX3_cell 66 = .ok (.invokevirtual 210, 3) := by decide +kernel
theorem dX3_cell_69 : decode cX3_cell 69 = .ok (.invokevirtual 213, 3) := by decide +kernel
theorem dX3_cell_72 : decode cX3_cell 72 = .ok (.goto 15, 3) := by decide +kernel
theorem dX3_cell_75 : decode cX3_cell 75 = .ok (.aload_n 0, 1) := by decide +kernel
theorem dX3_cell_76 : decode cX3_cell 76 = .ok (.getfield 59, 3) := by decide +kernel
theorem dX3_cell_79 : decode cX3_cell 79 = .ok (.bipush 60, 2) := by decide +kernel
theorem dX3_cell_81 : decode cX3_cell 81 = .ok (.iload_n 1, 1) := by decide +kernel
theorem dX3_cell_82 : decode cX3_cell 82 = .ok (.imul, 1) := by decide +kernel
theorem dX3_cell_83 : decode cX3_cell 83 = .ok (.iload_n 2, 1) := by decide +kernel
theorem dX3_cell_84 : decode cX3_cell 84 = .ok (.iadd, 1) := by decide +kernel
theorem dX3_cell_85 : decode cX3_cell 85 = .ok (.iaload, 1) := by decide +kernel
theorem dX3_cell_86 : decode cX3_cell 86 = .ok (.i2l, 1) := by decide +kernel
theorem dX3_cell_87 : decode cX3_cell 87 = .ok (.lreturn, 1) := by decide +kernel
theorem dX3_isBeyond_0 : decode cX3_isBeyond 0 = .ok (.iload_n 0, 1) := by decide +kernel
theorem dX3_isBeyond_1 : decode cX3_isBeyond 1 = .ok (.ifCond .lt 19, 3) := by decide +kernel
theorem dX3_isBeyond_4 : decode cX3_isBeyond 4 = .ok (.lload_n 1, 1) := by decide +kernel
theorem dX3_isBeyond_5 : decode cX3_isBeyond 5 = .ok (.lconst 0, 1) := by decide +kernel
theorem dX3_isBeyond_6 : decode cX3_isBeyond 6 = .ok (.lcmp, 1) := by decide +kernel
theorem dX3_isBeyond_7 : decode cX3_isBeyond 7 = .ok (.ifCond .lt 13, 3) := by decide +kernel
theorem dX3_isBeyond_10 : decode cX3_isBeyond 10 = .ok (.iload_n 0, 1) := by decide +kernel
theorem dX3_isBeyond_11 : decode cX3_isBeyond 11 = .ok (.i2l, 1) := by decide +kernel
theorem dX3_isBeyond_12 : decode cX3_isBeyond 12 = .ok (.lload_n 1, 1) := by decide +kernel
theorem dX3_isBeyond_13 : decode cX3_isBeyond 13 = .ok (.ladd, 1) := by decide +kernel
theorem dX3_isBeyond_14 : decode cX3_isBeyond 14 = .ok (.iload_n 3, 1) := by decide +kernel
theorem dX3_isBeyond_15 : decode cX3_isBeyond 15 = .ok (.i2l, 1) := by decide +kernel
theorem dX3_isBeyond_16 : decode cX3_isBeyond 16 = .ok (.lcmp, 1) := by decide +kernel
theorem dX3_isBeyond_17 : decode cX3_isBeyond 17 = .ok (.ifCond .le 7, 3) := by decide +kernel
theorem dX3_isBeyond_20 : decode cX3_isBeyond 20 = .ok (.iconst 1, 1) := by decide +kernel
theorem dX3_isBeyond_21 : decode cX3_isBeyond 21 = .ok (.goto 4, 3) := by decide +kernel
theorem dX3_isBeyond_24 : decode cX3_isBeyond 24 = .ok (.iconst 0, 1) := by decide +kernel
theorem dX3_isBeyond_25 : decode cX3_isBeyond 25 = .ok (.ireturn, 1) := by decide +kernel
theorem dX3_copy_0 : decode cX3_copy 0 = .ok (.iload_n 1, 1) := by decide +kernel
theorem dX3_copy_1 : decode cX3_copy 1 = .ok (.invokestatic 115, 3) := by decide +kernel
theorem dX3_copy_4 : decode cX3_copy 4 = .ok (.ifCond .ne 10, 3) := by decide +kernel
theorem dX3_copy_7 : decode cX3_copy 7 = .ok (.iload_n 3, 1) := by decide +kernel
theorem dX3_copy_8 : decode cX3_copy 8 = .ok (.invokestatic 115, 3) := by decide +kernel
theorem dX3_copy_11 : decode cX3_copy 11 = .ok (.ifCond .eq 9, 3) := by decide +kernel
theorem dX3_copy_14 : decode cX3_copy 14 = .ok (.aload_n 0, 1) := by decide +kernel
theorem dX3_copy_15 : decode cX3_copy 15 = .ok (.iconst (-1), 1) := by decide +kernel
theorem dX3_copy_16 : decode cX3_copy 16 = .ok (.invokevirtual 119, 3) := by decide +kernel
theorem dX3_copy_19 : decode cX3_copy 19 = .ok (.ireturn, 1) := by decide +kernel
theorem dX3_copy_20 : decode cX3_copy 20 = .ok (.aload_n 0, 1) := by decide +kernel
theorem dX3_copy_21 : decode cX3_copy 21 = .ok (.getfield 53, 3) := by decide +kernel
theorem dX3_copy_24 : decode cX3_copy 24 = .ok (.iload_n 1, 1) := by decide +kernel
theorem dX3_copy_25 : decode cX3_copy 25 = .ok (.iaload, 1) := by decide +kernel
theorem dX3_copy_26 : decode cX3_copy 26 = .ok (.ifCond .lt 12, 3) := by decide +kernel
theorem dX3_copy_29 : decode cX3_copy 29 = .ok (.aload_n 0, 1) := by decide +kernel
theorem dX3_copy_30 : decode cX3_copy 30 = .ok (.getfield 53, 3) := by decide +kernel
theorem dX3_copy_33 : decode cX3_copy 33 = .ok (.iload_n 3, 1) := by decide +kernel
theorem dX3_copy_34 : decode cX3_copy 34 = .ok (.iaload, 1) := by decide +kernel
theorem dX3_copy_35 : decode cX3_copy 35 = .ok (.ifCond .ge 9, 3) := by decide +kernel
theorem dX3_copy_38 : decode cX3_copy 38 = .ok (.aload_n 0, 1) := by decide +kernel
theorem dX3_copy_39 : decode cX3_copy 39 = .ok (.iconst 1, 1) := by decide +kernel
theorem dX3_copy_40 : decode cX3_copy 40 = .ok (.invokevirtual 107, 3) := by decide +kernel
theorem dX3_copy_43 : decode cX3_copy 43 = .ok (.ireturn, 1) := by decide +kernel
theorem dX3_copy_44 : decode cX3_copy 44 = .ok (.aload_n 0, 1) := by decide +kernel
theorem dX3_copy_45 : decode cX3_copy 45 = .ok (.getfield 56, 3) := by decide +kernel
theorem dX3_copy_48 : decode cX3_copy 48 = .ok (.iload_n 1, 1) := by decide +kernel
theorem dX3_copy_49 : decode cX3_copy 49 = .ok (.iaload, 1) := by decide +kernel
theorem dX3_copy_50 : decode cX3_copy 50 = .ok (.aload_n 0, 1) := by decide +kernel
theorem dX3_copy_51 : decode cX3_copy 51 = .ok (.getfield 56, 3) := by decide +kernel
theorem dX3_copy_54 : decode cX3_copy 54 = .ok (.iload_n 3, 1) := by decide +kernel
theorem dX3_copy_55 : decode cX3_copy 55 = .ok (.iaload, 1) := by decide +kernel
theorem dX3_copy_56 : decode cX3_copy 56 = .ok (.if_icmp .eq 9, 3) := by decide +kernel
theorem dX3_copy_59 : decode cX3_copy 59 = .ok (.aload_n 0, 1) := by decide +kernel
theorem dX3_copy_60 : decode cX3_copy 60 = .ok (.iconst 2, 1) := by decide +kernel
theorem dX3_copy_61 : decode cX3_copy 61 = .ok (.invokevirtual 107, 3) := by decide +kernel
theorem dX3_copy_64 : decode cX3_copy 64 = .ok (.ireturn, 1) := by decide +kernel
theorem dX3_copy_65 : decode cX3_copy 65 = .ok (.iload_n 2, 1) := by decide +kernel
theorem dX3_copy_66 : decode cX3_copy 66 = .ok (.iload 5, 2) := by decide +kernel
theorem dX3_copy_68 : decode cX3_copy 68 = .ok (.i2l, 1) := by decide +kernel
theorem dX3_copy_69 : decode cX3_copy 69 = .ok (.aload_n 0, 1) := by decide +kernel
theorem dX3_copy_70 : decode cX3_copy 70 = .ok (.getfield 53, 3) := by decide +kernel
theorem dX3_copy_73 : decode cX3_copy 73 = .ok (.iload_n 1, 1) := by decide +kernel
theorem dX3_copy_74 : decode cX3_copy 74 = .ok (.iaload, 1) := by decide +kernel
theorem dX3_copy_75 : decode cX3_copy 75 = .ok (.invokestatic 111, 3) := by decide +kernel
theorem dX3_copy_78 : decode cX3_copy 78 = .ok (.ifCond .ne 20, 3) := by decide +kernel
theorem dX3_copy_81 : decode cX3_copy 81 = .ok (.iload 4, 2) := by decide +kernel
theorem dX3_copy_83 : decode cX3_copy 83 = .ok (.iload 5, 2) := by decide +kernel
theorem dX3_copy_85 : decode cX3_copy 85 = .ok (.i2l, 1) := by decide +kernel
theorem dX3_copy_86 : decode cX3_copy 86 = .ok (.aload_n 0, 1) := by decide +kernel
theorem dX3_copy_87 : decode cX3_copy 87 = .ok (.getfield 53, 3) := by decide +kernel
theorem dX3_copy_90 : decode cX3_copy 90 = .ok (.iload_n 3, 1) := by decide +kernel
theorem dX3_copy_91 : decode cX3_copy 91 = .ok (.iaload, 1) := by decide +kernel
theorem dX3_copy_92 : decode cX3_copy 92 = .ok (.invokestatic 111, 3) := by decide +kernel
theorem dX3_copy_95 : decode cX3_copy 95 = .ok (.ifCond .eq 9, 3) := by decide +kernel
theorem dX3_copy_98 : decode cX3_copy 98 = .ok (.aload_n 0, 1) := by decide +kernel
theorem dX3_copy_99 : decode cX3_copy 99 = .ok (.iconst 3, 1) := by decide +kernel
theorem dX3_copy_100 : decode cX3_copy 100 = .ok (.invokevirtual 107, 3) := by decide +kernel
theorem dX3_copy_103 : decode cX3_copy 103 = .ok (.ireturn, 1) := by decide +kernel
theorem dX3_copy_104 : decode cX3_copy 104 = .ok (.iconst 0, 1) := by decide +kernel
theorem dX3_copy_105 : decode cX3_copy 105 = .ok (.istore 6, 2) := by decide +kernel
theorem dX3_copy_107 : decode cX3_copy 107 = .ok (.iload 6, 2) := by decide +kernel
theorem dX3_copy_109 : decode cX3_copy 109 = .ok (.iload 5, 2) := by decide +kernel
theorem dX3_copy_111 : decode cX3_copy 111 = .ok (.if_icmp .ge 30, 3) := by decide +kernel
theorem dX3_copy_114 : decode cX3_copy 114 = .ok (.aload_n 0, 1) := by decide +kernel
theorem dX3_copy_115 : decode cX3_copy 115 = .ok (.getfield 62, 3) := by decide +kernel
theorem dX3_copy_118 : decode cX3_copy 118 = .ok (.iload 6, 2) := by decide +kernel
theorem dX3_copy_120 : decode cX3_copy 120 = .ok (.aload_n 0, 1) := by decide +kernel
theorem dX3_copy_121 : decode cX3_copy 121 = .ok (.getfield 59, 3) := by decide +kernel
theorem dX3_copy_124 : decode cX3_copy 124 = .ok (.bipush 60, 2) := by decide +kernel
theorem dX3_copy_126 : decode cX3_copy 126 = .ok (.iload_n 1, 1) := by decide +kernel
theorem dX3_copy_127 : decode cX3_copy 127 = .ok (.imul, 1) := by decide +kernel
theorem dX3_copy_128 : decode cX3_copy 128 = .ok (.iload_n 2, 1) := by decide +kernel
theorem dX3_copy_129 : decode cX3_copy 129 = .ok (.iadd, 1) := by decide +kernel
theorem dX3_copy_130 : decode cX3_copy 130 = .ok (.iload 6, 2) := by decide +kernel
theorem dX3_copy_132 : decode cX3_copy 132 = .ok (.iadd, 1) := by decide +kernel
theorem dX3_copy_133 : decode cX3_copy 133 = .ok (.iaload, 1) := by decide +kernel
theorem dX3_copy_134 : decode cX3_copy 134 = .ok (.iastore, 1) := by decide +kernel
theorem dX3_copy_135 : decode cX3_copy 135 = .ok (.iinc 6 1, 3) := by decide +kernel
theorem dX3_copy_138 : decode cX3_copy 138 = .ok (.goto (-31), 3) := by decide +kernel
theorem dX3_copy_141 : decode cX3_copy 141 = .ok (.iconst 0, 1) := by decide +kernel
theorem dX3_copy_142 : decode cX3_copy 142 = .ok (.istore 6, 2) := by decide +kernel
theorem dX3_copy_144 : decode cX3_copy 144 = .ok (.iload 6, 2) := by decide +kernel
theorem dX3_copy_146 : decode cX3_copy 146 = .ok (.iload 5, 2) := by decide +kernel
theorem dX3_copy_148 : decode cX3_copy 148 = .ok (.if_icmp .ge 31, 3) := by decide +kernel
theorem dX3_copy_151 : decode cX3_copy 151 = .ok (.aload_n 0, 1) := by decide +kernel
theorem dX3_copy_152 : decode cX3_copy 152 = .ok (.getfield 59, 3) := by decide +kernel
theorem dX3_copy_155 : decode cX3_copy 155 = .ok (.bipush 60, 2) := by decide +kernel
theorem dX3_copy_157 : decode cX3_copy 157 = .ok (.iload_n 3, 1) := by decide +kernel
theorem dX3_copy_158 : decode cX3_copy 158 = .ok (.imul, 1) := by decide +kernel
theorem dX3_copy_159 : decode cX3_copy 159 = .ok (.iload 4, 2) := by decide +kernel
theorem dX3_copy_161 : decode cX3_copy 161 = .ok (.iadd, 1) := by decide +kernel
theorem dX3_copy_162 : decode cX3_copy 162 = .ok (.iload 6, 2) := by decide +kernel
theorem dX3_copy_164 : decode cX3_copy 164 = .ok (.iadd, 1) := by decide +kernel
theorem dX3_copy_165 : decode cX3_copy 165 = .ok (.aload_n 0, 1) := by decide +kernel
theorem dX3_copy_166 : decode cX3_copy 166 = .ok (.getfield 62, 3) := by decide +kernel
theorem dX3_copy_169 : decode cX3_copy 169 = .ok (.iload 6, 2) := by decide +kernel
theorem dX3_copy_171 : decode cX3_copy 171 = .ok (.iaload, 1) := by decide +kernel
theorem dX3_copy_172 : decode cX3_copy 172 = .ok (.iastore, 1) := by decide +kernel
theorem dX3_copy_173 : decode cX3_copy 173 = .ok (.iinc 6 1, 3) := by decide +kernel
theorem dX3_copy_176 : decode cX3_copy 176 = .ok (.goto (-32), 3) := by decide +kernel
theorem dX3_copy_179 : decode cX3_copy 179 = .ok (.aload_n 0, 1) := by decide +kernel
theorem dX3_copy_180 : decode cX3_copy 180 = .ok (.iload 5, 2) := by decide +kernel
theorem dX3_copy_182 : decode cX3_copy 182 = .ok (.invokevirtual 119, 3) := by decide +kernel
theorem dX3_copy_185 : decode cX3_copy 185 = .ok (.ireturn, 1) := by decide +kernel
theorem dX3_traced_0 : decode cX3_traced 0 = .ok (.aload_n 0, 1) := by decide +kernel
theorem dX3_traced_1 : decode cX3_traced 1 = .ok (.bipush 31, 2) := by decide +kernel
theorem dX3_traced_3 : decode cX3_traced 3 = .ok (.aload_n 0, 1) := by decide +kernel
theorem dX3_traced_4 : decode cX3_traced 4 = .ok (.getfield 217, 3) := by decide +kernel
theorem dX3_traced_7 : decode cX3_traced 7 = .ok (.imul, 1) := by decide +kernel
theorem dX3_traced_8 : decode cX3_traced 8 = .ok (.iload_n 1, 1) := by decide +kernel
theorem dX3_traced_9 : decode cX3_traced 9 = .ok (.iadd, 1) := by decide +kernel
theorem dX3_traced_10 : decode cX3_traced 10 = .ok (.putfield 217, 3) := by decide +kernel
theorem dX3_traced_13 : decode cX3_traced 13 = .ok (.return_, 1) := by decide +kernel
theorem dX3_tell_0 : decode cX3_tell 0 = .ok (.aload_n 0, 1) := by decide +kernel
theorem dX3_tell_1 : decode cX3_tell 1 = .ok (.iload_n 1, 1) := by decide +kernel
theorem dX3_tell_2 : decode cX3_tell 2 = .ok (.invokevirtual 134, 3) := by decide +kernel
theorem dX3_tell_5 : decode cX3_tell 5 = .ok (.ifCond .eq 5, 3) := by decide +kernel
theorem dX3_tell_8 : decode cX3_tell 8 = .ok (.iconst (-1), 1) := by decide +kernel
theorem dX3_tell_9 : decode cX3_tell 9 = .ok (.ireturn, 1) := by decide +kernel
theorem dX3_tell_10 : decode cX3_tell 10 = .ok (.aload_n 0, 1) := by decide +kernel
theorem dX3_tell_11 : decode cX3_tell 11 = .ok (.getfield 7, 3) := by decide +kernel
theorem dX3_tell_14 : decode cX3_tell 14 = .ok (.iload_n 1, 1) := by decide +kernel
theorem dX3_tell_15 : decode cX3_tell 15 = .ok (.iaload, 1) := by decide +kernel
theorem dX3_tell_16 : decode cX3_tell 16 = .ok (.istore_n 2, 1) := by decide +kernel
theorem dX3_tell_17 : decode cX3_tell 17 = .ok (.iload_n 2, 1) := by decide +kernel
theorem dX3_tell_18 : decode cX3_tell 18 = .ok (.iconst 2, 1) := by decide +kernel
theorem dX3_tell_19 : decode cX3_tell 19 = .ok (.if_icmp .ne 8, 3) := by decide +kernel
theorem dX3_tell_22 : decode cX3_tell 22 = .ok (.aload_n 0, 1) := by decide +kernel
theorem dX3_tell_23 : decode cX3_tell 23 = .ok (.iconst 3, 1) := by decide +kernel
theorem dX3_tell_24 : decode cX3_tell 24 = .ok (.invokevirtual 220, 3) := by decide +kernel
theorem dX3_tell_27 : decode cX3_tell 27 = .ok (.iload_n 2, 1) := by decide +kernel
theorem dX3_tell_28 : decode cX3_tell 28 = .ok (.ifCond .le 8, 3) := by decide +kernel
theorem dX3_tell_31 : decode cX3_tell 31 = .ok (.aload_n 0, 1) := by decide +kernel
theorem dX3_tell_32 : decode cX3_tell 32 = .ok (.iconst 2, 1) := by decide +kernel
theorem dX3_tell_33 : decode cX3_tell 33 = .ok (.invokevirtual 220, 3) := by decide +kernel
theorem dX3_tell_36 : decode cX3_tell 36 = .ok (.aload_n 0, 1) := by decide +kernel
theorem dX3_tell_37 : decode cX3_tell 37 = .ok (.iconst 1, 1) := by decide +kernel
theorem dX3_tell_38 : decode cX3_tell 38 = .ok (.invokevirtual 220, 3) := by decide +kernel
theorem dX3_tell_41 : decode cX3_tell 41 = .ok (.iload_n 2, 1) := by decide +kernel
theorem dX3_tell_42 : decode cX3_tell 42 = .ok (.iconst 2, 1) := by decide +kernel
theorem dX3_tell_43 : decode cX3_tell 43 = .ok (.if_icmp .ne 8, 3) := by decide +kernel
theorem dX3_tell_46 : decode cX3_tell 46 = .ok (.aload_n 0, 1) := by decide +kernel
theorem dX3_tell_47 : decode cX3_tell 47 = .ok (.iconst 1, 1) := by decide +kernel
theorem dX3_tell_48 : decode cX3_tell 48 = .ok (.invokevirtual 220, 3) := by decide +kernel
theorem dX3_tell_51 : decode cX3_tell 51 = .ok (.aload_n 0, 1) := by decide +kernel
theorem dX3_tell_52 : decode cX3_tell 52 = .ok (.getfield 19, 3) := by decide +kernel
theorem dX3_tell_55 : decode cX3_tell 55 = .ok (.iload_n 1, 1) := by decide +kernel
theorem dX3_tell_56 : decode cX3_tell 56 = .ok (.iaload, 1) := by decide +kernel
theorem dX3_tell_57 : decode cX3_tell 57 = .ok (.istore_n 3, 1) := by decide +kernel
theorem dX3_tell_58 : decode cX3_tell 58 = .ok (.iload_n 2, 1) := by decide +kernel
theorem dX3_tell_59 : decode cX3_tell 59 = .ok (.ifCond .ne 7, 3) := by decide +kernel
theorem dX3_tell_62 : decode cX3_tell 62 = .ok (.iload_n 3, 1) := by decide +kernel
theorem dX3_tell_63 : decode cX3_tell 63 = .ok (.goto 21, 3) := by decide +kernel
theorem dX3_tell_66 : decode cX3_tell 66 = .ok (.iload_n 2, 1) := by decide +kernel
theorem dX3_tell_67 : decode cX3_tell 67 = .ok (.iconst 1, 1) := by decide +kernel
theorem dX3_tell_68 : decode cX3_tell 68 = .ok (.if_icmp .ne 10, 3) := by decide +kernel
theorem dX3_tell_71 : decode cX3_tell 71 = .ok (.iload_n 3, 1) := by decide +kernel
theorem dX3_tell_72 : decode cX3_tell 72 = .ok (.bipush 100, 2) := by decide +kernel
theorem dX3_tell_74 : decode cX3_tell 74 = .ok (.iadd, 1) := by decide +kernel
theorem dX3_tell_75 : decode cX3_tell 75 = .ok (.goto 9, 3) := by decide +kernel
theorem dX3_tell_78 : decode cX3_tell 78 = .ok (.iconst 2, 1) := by decide +kernel
theorem dX3_tell_79 : decode cX3_tell 79 = .ok (.iload_n 3, 1) := by decide +kernel
theorem dX3_tell_80 : decode cX3_tell 80 = .ok (.imul, 1) := by decide +kernel
theorem dX3_tell_81 : decode cX3_tell 81 = .ok (.bipush 100, 2) := by decide +kernel
theorem dX3_tell_83 : decode cX3_tell 83 = .ok (.iadd, 1) := by decide +kernel
theorem dX3_tell_84 : decode cX3_tell 84 = .ok (.ireturn, 1) := by decide +kernel
theorem dX3_knock_0 : decode cX3_knock 0 = .ok (.aload_n 0, 1) := by decide +kernel
theorem dX3_knock_1 : decode cX3_knock 1 = .ok (.iload_n 1, 1) := by decide +kernel
theorem dX3_knock_2 : decode cX3_knock 2 = .ok (.invokevirtual 134, 3) := by decide +kernel
theorem dX3_knock_5 : decode cX3_knock 5 = .ok (.ifCond .eq 5, 3) := by decide +kernel
theorem dX3_knock_8 : decode cX3_knock 8 = .ok (.iconst (-1), 1) := by decide +kernel
theorem dX3_knock_9 : decode cX3_knock 9 = .ok (.ireturn, 1) := by decide +kernel
theorem dX3_knock_10 : decode cX3_knock 10 = .ok (.aload_n 0, 1) := by decide +kernel
theorem dX3_knock_11 : decode cX3_knock 11 = .ok (.aload_n 0, 1) := by decide +kernel
theorem dX3_knock_12 : decode cX3_knock 12 = .ok (.getfield 7, 3) := by decide +kernel
theorem dX3_knock_15 : decode cX3_knock 15 = .ok (.iload_n 1, 1) := by decide +kernel
theorem dX3_knock_16 : decode cX3_knock 16 = .ok (.iaload, 1) := by decide +kernel
theorem dX3_knock_17 : decode cX3_knock 17 = .ok (.iconst 2, 1) := by decide +kernel
theorem dX3_knock_18 : decode cX3_knock 18 = .ok (.if_icmp .ne 7, 3) := by decide +kernel
theorem dX3_knock_21 : decode cX3_knock 21 = .ok (.iconst 5, 1) := by decide +kernel
theorem dX3_knock_22 : decode cX3_knock 22 = .ok (.goto 4, 3) := by decide +kernel
theorem dX3_knock_25 : decode cX3_knock 25 = .ok (.iconst 4, 1) := by decide +kernel
theorem dX3_knock_26 : decode cX3_knock 26 = .ok (.invokevirtual 220, 3) := by decide +kernel
theorem dX3_knock_29 : decode cX3_knock 29 = .ok (.aload_n 0, 1) := by decide +kernel
theorem dX3_knock_30 : decode cX3_knock 30 = .ok (.getfield 7, 3) := by decide +kernel
theorem dX3_knock_33 : decode cX3_knock 33 = .ok (.iload_n 1, 1) := by decide +kernel
theorem dX3_knock_34 : decode cX3_knock 34 = .ok (.iaload, 1) := by decide +kernel
theorem dX3_knock_35 : decode cX3_knock 35 = .ok (.iconst 2, 1) := by decide +kernel
theorem dX3_knock_36 : decode cX3_knock 36 = .ok (.if_icmp .ne 8, 3) := by decide +kernel
theorem dX3_knock_39 : decode cX3_knock 39 = .ok (.bipush 60, 2) := by decide +kernel
theorem dX3_knock_41 : decode cX3_knock 41 = .ok (.goto 4, 3) := by decide +kernel
theorem dX3_knock_44 : decode cX3_knock 44 = .ok (.iload_n 1, 1) := by decide +kernel
theorem dX3_knock_45 : decode cX3_knock 45 = .ok (.ireturn, 1) := by decide +kernel
theorem dX3_as_0 : decode cX3_as 0 = .ok (.aload_n 0, 1) := by decide +kernel
theorem dX3_as_1 : decode cX3_as 1 = .ok (.iload_n 1, 1) := by decide +kernel
theorem dX3_as_2 : decode cX3_as 2 = .ok (.invokevirtual 134, 3) := by decide +kernel
theorem dX3_as_5 : decode cX3_as 5 = .ok (.ifCond .eq 9, 3) := by decide +kernel
theorem dX3_as_8 : decode cX3_as 8 = .ok (.aload_n 0, 1) := by decide +kernel
theorem dX3_as_9 : decode cX3_as 9 = .ok (.iconst (-1), 1) := by decide +kernel
theorem dX3_as_10 : decode cX3_as 10 = .ok (.invokevirtual 119, 3) := by decide +kernel
theorem dX3_as_13 : decode cX3_as 13 = .ok (.ireturn, 1) := by decide +kernel
theorem dX3_as_14 : decode cX3_as 14 = .ok (.iload_n 2, 1) := by decide +kernel
theorem dX3_as_15 : decode cX3_as 15 = .ok (.i2l, 1) := by decide +kernel
theorem dX3_as_16 : decode cX3_as 16 = .ok (.lconst 0, 1) := by decide +kernel
theorem dX3_as_17 : decode cX3_as 17 = .ok (.ldc2_w 122, 3) := by decide +kernel
theorem dX3_as_20 : decode cX3_as 20 = .ok (.invokestatic 77, 3) := by decide +kernel
theorem dX3_as_23 : decode cX3_as 23 = .ok (.ifCond .ne 10, 3) := by decide +kernel
theorem dX3_as_26 : decode cX3_as 26 = .ok (.aload_n 0, 1) := by decide +kernel
theorem dX3_as_27 : decode cX3_as 27 = .ok (.bipush (-2), 2) := by decide +kernel
theorem dX3_as_29 : decode cX3_as 29 = .ok (.invokevirtual 119, 3) := by decide +kernel
theorem dX3_as_32 : decode cX3_as 32 = .ok (.ireturn, 1) := by decide +kernel
theorem dX3_as_33 : decode cX3_as 33 = .ok (.aload_n 0, 1) := by decide +kernel
theorem dX3_as_34 : decode cX3_as 34 = .ok (.getfield 7, 3) := by decide +kernel
theorem dX3_as_37 : decode cX3_as 37 = .ok (.iload_n 1, 1) := by decide +kernel
theorem dX3_as_38 : decode cX3_as 38 = .ok (.iaload, 1) := by decide +kernel
theorem dX3_as_39 : decode cX3_as 39 = .ok (.iload_n 2, 1) := by decide +kernel
theorem dX3_as_40 : decode cX3_as 40 = .ok (.if_icmp .lt 11, 3) := by decide +kernel
theorem dX3_as_43 : decode cX3_as 43 = .ok (.aload_n 0, 1) := by decide +kernel
theorem dX3_as_44 : decode cX3_as 44 = .ok (.iconst 1, 1) := by decide +kernel
theorem dX3_as_45 : decode cX3_as 45 = .ok (.invokevirtual 119, 3) := by decide +kernel
theorem dX3_as_48 : decode cX3_as 48 = .ok (.goto 8, 3) := by decide +kernel
theorem dX3_as_51 : decode cX3_as 51 = .ok (.aload_n 0, 1) := by decide +kernel
theorem dX3_as_52 : decode cX3_as 52 = .ok (.iconst 2, 1) := by decide +kernel
theorem dX3_as_53 : decode cX3_as 53 = .ok (.invokevirtual 107, 3) := by decide +kernel
theorem dX3_as_56 : decode cX3_as 56 = .ok (.ireturn, 1) := by decide +kernel
theorem dX3_trace_0 : decode cX3_trace 0 = .ok (.aload_n 0, 1) := by decide +kernel
theorem dX3_trace_1 : decode cX3_trace 1 = .ok (.getfield 217, 3) := by decide +kernel
theorem dX3_trace_4 : decode cX3_trace 4 = .ok (.ireturn, 1) := by decide +kernel
theorem dX3_fault_0 : decode cX3_fault 0 = .ok (.aload_n 0, 1) := by decide +kernel
theorem dX3_fault_1 : decode cX3_fault 1 = .ok (.getfield 67, 3) := by decide +kernel
theorem dX3_fault_4 : decode cX3_fault 4 = .ok (.ireturn, 1) := by decide +kernel
theorem dX3_many_0 : decode cX3_many 0 = .ok (.iload_n 1, 1) := by decide +kernel
theorem dX3_many_1 : decode cX3_many 1 = .ok (.tableswitch 42 0 2 #[27, 32, 37], 27) := by decide +kernel
theorem dX3_many_28 : decode cX3_many 28 = .ok (.aload_n 0, 1) := by decide +kernel
theorem dX3_many_29 : decode cX3_many 29 = .ok (.getfield 81, 3) := by decide +kernel
theorem dX3_many_32 : decode cX3_many 32 = .ok (.ireturn, 1) := by decide +kernel
theorem dX3_many_33 : decode cX3_many 33 = .ok (.aload_n 0, 1) := by decide +kernel
theorem dX3_many_34 : decode cX3_many 34 = .ok (.getfield 74, 3) := by decide +kernel
theorem dX3_many_37 : decode cX3_many 37 = .ok (.ireturn, 1) := by decide +kernel
theorem dX3_many_38 : decode cX3_many 38 = .ok (.aload_n 0, 1) := by decide +kernel
theorem dX3_many_39 : decode cX3_many 39 = .ok (.getfield 131, 3) := by decide +kernel
theorem dX3_many_42 : decode cX3_many 42 = .ok (.ireturn, 1) := by decide +kernel
theorem dX3_many_43 : decode cX3_many 43 = .ok (.bipush (-2), 2) := by decide +kernel
theorem dX3_many_45 : decode cX3_many 45 = .ok (.ireturn, 1) := by decide +kernel
end
section
theorem dL_law_0 : decode cL_law 0 = .ok (.new 7, 3) := by decide +kernel
theorem dL_law_3 : decode cL_law 3 = .ok (.dup, 1) := by decide +kernel
theorem dL_law_4 : decode cL_law 4 = .ok (.invokespecial 9, 3) := by decide +kernel
theorem dL_law_7 : decode cL_law 7 = .ok (.astore_n 1, 1) := by decide +kernel
theorem dL_law_8 : decode cL_law 8 = .ok (.new 10, 3) := by decide +kernel
theorem dL_law_11 : decode cL_law 11 = .ok (.dup, 1) := by decide +kernel
theorem dL_law_12 : decode cL_law 12 = .ok (.invokespecial 12, 3) := by decide +kernel
theorem dL_law_15 : decode cL_law 15 = .ok (.astore_n 2, 1) := by decide +kernel
theorem dL_law_16 : decode cL_law 16 = .ok (.iconst 0, 1) := by decide +kernel
theorem dL_law_17 : decode cL_law 17 = .ok (.istore_n 3, 1) := by decide +kernel
theorem dL_law_18 : decode cL_law 18 = .ok (.iload_n 3, 1) := by decide +kernel
theorem dL_law_19 : decode cL_law 19 = .ok (.aload_n 0, 1) := by decide +kernel
theorem dL_law_20 : decode cL_law 20 = .ok (.arraylength, 1) := by decide +kernel
theorem dL_law_21 : decode cL_law 21 = .ok (.bipush 8, 2) := by decide +kernel
theorem dL_law_23 : decode cL_law 23 = .ok (.isub, 1) := by decide +kernel
theorem dL_law_24 : decode cL_law 24 = .ok (.if_icmp .gt 1152, 3) := by decide +kernel
theorem dL_law_27 : decode cL_law 27 = .ok (.aload_n 0, 1) := by decide +kernel
theorem dL_law_28 : decode cL_law 28 = .ok (.iload_n 3, 1) := by decide +kernel
theorem dL_law_29 : decode cL_law 29 = .ok (.iaload, 1) := by decide +kernel
theorem dL_law_30 : decode cL_law 30 = .ok (.bipush 31, 2) := by decide +kernel
theorem dL_law_32 : decode cL_law 32 = .ok (.iand, 1) := by decide +kernel
theorem dL_law_33 : decode cL_law 33 = .ok (.tableswitch 1137 0 27 #[127, 180, 213, 246, 279, 312, 399, 452, 495, 538, 581, 604, 647, 670, 693, 716, 739, 793, 836, 859, 902, 946, 1009, 1032, 1055, 1088, 1101, 1114], 127) := by decide +kernel
theorem dL_law_160 : decode cL_law 160 = .ok (.aload_n 1, 1) := by decide +kernel
theorem dL_law_161 : decode cL_law 161 = .ok (.aload_n 0, 1) := by decide +kernel
theorem dL_law_162 : decode cL_law 162 = .ok (.iload_n 3, 1) := by decide +kernel
theorem dL_law_163 : decode cL_law 163 = .ok (.iconst 1, 1) := by decide +kernel
theorem dL_law_164 : decode cL_law 164 = .ok (.iadd, 1) := by decide +kernel
theorem dL_law_165 : decode cL_law 165 = .ok (.iaload, 1) := by decide +kernel
theorem dL_law_166 : decode cL_law 166 = .ok (.aload_n 0, 1) := by decide +kernel
theorem dL_law_167 : decode cL_law 167 = .ok (.iload_n 3, 1) := by decide +kernel
theorem dL_law_168 : decode cL_law 168 = .ok (.iconst 2, 1) := by decide +kernel
theorem dL_law_169 : decode cL_law 169 = .ok (.iadd, 1) := by decide +kernel
theorem dL_law_170 : decode cL_law 170 = .ok (.iaload, 1) := by decide +kernel
theorem dL_law_171 : decode cL_law 171 = .ok (.aload_n 0, 1) := by decide +kernel
theorem dL_law_172 : decode cL_law 172 = .ok (.iload_n 3, 1) := by decide +kernel
theorem dL_law_173 : decode cL_law 173 = .ok (.iconst 3, 1) := by decide +kernel
theorem dL_law_174 : decode cL_law 174 = .ok (.iadd, 1) := by decide +kernel
theorem dL_law_175 : decode cL_law 175 = .ok (.iaload, 1) := by decide +kernel
theorem dL_law_176 : decode cL_law 176 = .ok (.aload_n 0, 1) := by decide +kernel
theorem dL_law_177 : decode cL_law 177 = .ok (.iload_n 3, 1) := by decide +kernel
theorem dL_law_178 : decode cL_law 178 = .ok (.iconst 4, 1) := by decide +kernel
theorem dL_law_179 : decode cL_law 179 = .ok (.iadd, 1) := by decide +kernel
theorem dL_law_180 : decode cL_law 180 = .ok (.iaload, 1) := by decide +kernel
theorem dL_law_181 : decode cL_law 181 = .ok (.invokevirtual 13, 3) := by decide +kernel
theorem dL_law_184 : decode cL_law 184 = .ok (.aload_n 2, 1) := by decide +kernel
theorem dL_law_185 : decode cL_law 185 = .ok (.aload_n 0, 1) := by decide +kernel
theorem dL_law_186 : decode cL_law 186 = .ok (.iload_n 3, 1) := by decide +kernel
theorem dL_law_187 : decode cL_law 187 = .ok (.iconst 1, 1) := by decide +kernel
theorem dL_law_188 : decode cL_law 188 = .ok (.iadd, 1) := by decide +kernel
theorem dL_law_189 : decode cL_law 189 = .ok (.iaload, 1) := by decide +kernel
theorem dL_law_190 : decode cL_law 190 = .ok (.aload_n 0, 1) := by decide +kernel
theorem dL_law_191 : decode cL_law 191 = .ok (.iload_n 3, 1) := by decide +kernel
theorem dL_law_192 : decode cL_law 192 = .ok (.iconst 2, 1) := by decide +kernel
theorem dL_law_193 : decode cL_law 193 = .ok (.iadd, 1) := by decide +kernel
theorem dL_law_194 : decode cL_law 194 = .ok (.iaload, 1) := by decide +kernel
theorem dL_law_195 : decode cL_law 195 = .ok (.aload_n 0, 1) := by decide +kernel
theorem dL_law_196 : decode cL_law 196 = .ok (.iload_n 3, 1) := by decide +kernel
theorem dL_law_197 : decode cL_law 197 = .ok (.iconst 3, 1) := by decide +kernel
theorem dL_law_198 : decode cL_law 198 = .ok (.iadd, 1) := by decide +kernel
theorem dL_law_199 : decode cL_law 199 = .ok (.iaload, 1) := by decide +kernel
theorem dL_law_200 : decode cL_law 200 = .ok (.aload_n 0, 1) := by decide +kernel
theorem dL_law_201 : decode cL_law 201 = .ok (.iload_n 3, 1) := by decide +kernel
theorem dL_law_202 : decode cL_law 202 = .ok (.iconst 4, 1) := by decide +kernel
theorem dL_law_203 : decode cL_law 203 = .ok (.iadd, 1) := by decide +kernel
theorem dL_law_204 : decode cL_law 204 = .ok (.iaload, 1) := by decide +kernel
theorem dL_law_205 : decode cL_law 205 = .ok (.invokevirtual 17, 3) := by decide +kernel
theorem dL_law_208 : decode cL_law 208 = .ok (.if_icmp .eq 962, 3) := by decide +kernel
theorem dL_law_211 : decode cL_law 211 = .ok (.iconst 0, 1) := by decide +kernel
theorem dL_law_212 : decode cL_law 212 = .ok (.ireturn, 1) := by decide +kernel
theorem dL_law_213 : decode cL_law 213 = .ok (.aload_n 1, 1) := by decide +kernel
theorem dL_law_214 : decode cL_law 214 = .ok (.aload_n 0, 1) := by decide +kernel
theorem dL_law_215 : decode cL_law 215 = .ok (.iload_n 3, 1) := by decide +kernel
theorem dL_law_216 : decode cL_law 216 = .ok (.iconst 1, 1) := by decide +kernel
theorem dL_law_217 : decode cL_law 217 = .ok (.iadd, 1) := by decide +kernel
theorem dL_law_218 : decode cL_law 218 = .ok (.iaload, 1) := by decide +kernel
theorem dL_law_219 : decode cL_law 219 = .ok (.aload_n 0, 1) := by decide +kernel
theorem dL_law_220 : decode cL_law 220 = .ok (.iload_n 3, 1) := by decide +kernel
theorem dL_law_221 : decode cL_law 221 = .ok (.iconst 2, 1) := by decide +kernel
theorem dL_law_222 : decode cL_law 222 = .ok (.iadd, 1) := by decide +kernel
theorem dL_law_223 : decode cL_law 223 = .ok (.iaload, 1) := by decide +kernel
theorem dL_law_224 : decode cL_law 224 = .ok (.invokevirtual 18, 3) := by decide +kernel
theorem dL_law_227 : decode cL_law 227 = .ok (.aload_n 2, 1) := by decide +kernel
theorem dL_law_228 : decode cL_law 228 = .ok (.aload_n 0, 1) := by decide +kernel
theorem dL_law_229 : decode cL_law 229 = .ok (.iload_n 3, 1) := by decide +kernel
theorem dL_law_230 : decode cL_law 230 = .ok (.iconst 1, 1) := by decide +kernel
theorem dL_law_231 : decode cL_law 231 = .ok (.iadd, 1) := by decide +kernel
theorem dL_law_232 : decode cL_law 232 = .ok (.iaload, 1) := by decide +kernel
theorem dL_law_233 : decode cL_law 233 = .ok (.aload_n 0, 1) := by decide +kernel
theorem dL_law_234 : decode cL_law 234 = .ok (.iload_n 3, 1) := by decide +kernel
theorem dL_law_235 : decode cL_law 235 = .ok (.iconst 2, 1) := by decide +kernel
theorem dL_law_236 : decode cL_law 236 = .ok (.iadd, 1) := by decide +kernel
theorem dL_law_237 : decode cL_law 237 = .ok (.iaload, 1) := by decide +kernel
theorem dL_law_238 : decode cL_law 238 = .ok (.invokevirtual 22, 3) := by decide +kernel
theorem dL_law_241 : decode cL_law 241 = .ok (.if_icmp .eq 929, 3) := by decide +kernel
theorem dL_law_244 : decode cL_law 244 = .ok (.iconst 0, 1) := by decide +kernel
theorem dL_law_245 : decode cL_law 245 = .ok (.ireturn, 1) := by decide +kernel
theorem dL_law_246 : decode cL_law 246 = .ok (.aload_n 1, 1) := by decide +kernel
theorem dL_law_247 : decode cL_law 247 = .ok (.aload_n 0, 1) := by decide +kernel
theorem dL_law_248 : decode cL_law 248 = .ok (.iload_n 3, 1) := by decide +kernel
theorem dL_law_249 : decode cL_law 249 = .ok (.iconst 1, 1) := by decide +kernel
theorem dL_law_250 : decode cL_law 250 = .ok (.iadd, 1) := by decide +kernel
theorem dL_law_251 : decode cL_law 251 = .ok (.iaload, 1) := by decide +kernel
theorem dL_law_252 : decode cL_law 252 = .ok (.aload_n 0, 1) := by decide +kernel
theorem dL_law_253 : decode cL_law 253 = .ok (.iload_n 3, 1) := by decide +kernel
theorem dL_law_254 : decode cL_law 254 = .ok (.iconst 2, 1) := by decide +kernel
theorem dL_law_255 : decode cL_law 255 = .ok (.iadd, 1) := by decide +kernel
theorem dL_law_256 : decode cL_law 256 = .ok (.iaload, 1) := by decide +kernel
theorem dL_law_257 : decode cL_law 257 = .ok (.invokevirtual 23, 3) := by decide +kernel
theorem dL_law_260 : decode cL_law 260 = .ok (.aload_n 2, 1) := by decide +kernel
theorem dL_law_261 : decode cL_law 261 = .ok (.aload_n 0, 1) := by decide +kernel
theorem dL_law_262 : decode cL_law 262 = .ok (.iload_n 3, 1) := by decide +kernel
theorem dL_law_263 : decode cL_law 263 = .ok (.iconst 1, 1) := by decide +kernel
theorem dL_law_264 : decode cL_law 264 = .ok (.iadd, 1) := by decide +kernel
theorem dL_law_265 : decode cL_law 265 = .ok (.iaload, 1) := by decide +kernel
theorem dL_law_266 : decode cL_law 266 = .ok (.aload_n 0, 1) := by decide +kernel
theorem dL_law_267 : decode cL_law 267 = .ok (.iload_n 3, 1) := by decide +kernel
theorem dL_law_268 : decode cL_law 268 = .ok (.iconst 2, 1) := by decide +kernel
theorem dL_law_269 : decode cL_law 269 = .ok (.iadd, 1) := by decide +kernel
theorem dL_law_270 : decode cL_law 270 = .ok (.iaload, 1) := by decide +kernel
theorem dL_law_271 : decode cL_law 271 = .ok (.invokevirtual 26, 3) := by decide +kernel
theorem dL_law_274 : decode cL_law 274 = .ok (.if_icmp .eq 896, 3) := by decide +kernel
theorem dL_law_277 : decode cL_law 277 = .ok (.iconst 0, 1) := by decide +kernel
theorem dL_law_278 : decode cL_law 278 = .ok (.ireturn, 1) := by decide +kernel
theorem dL_law_279 : decode cL_law 279 = .ok (.aload_n 1, 1) := by decide +kernel
theorem dL_law_280 : decode cL_law 280 = .ok (.aload_n 0, 1) := by decide +kernel
theorem dL_law_281 : decode cL_law 281 = .ok (.iload_n 3, 1) := by decide +kernel
theorem dL_law_282 : decode cL_law 282 = .ok (.iconst 1, 1) := by decide +kernel
theorem dL_law_283 : decode cL_law 283 = .ok (.iadd, 1) := by decide +kernel
theorem dL_law_284 : decode cL_law 284 = .ok (.iaload, 1) := by decide +kernel
theorem dL_law_285 : decode cL_law 285 = .ok (.aload_n 0, 1) := by decide +kernel
theorem dL_law_286 : decode cL_law 286 = .ok (.iload_n 3, 1) := by decide +kernel
theorem dL_law_287 : decode cL_law 287 = .ok (.iconst 2, 1) := by decide +kernel
theorem dL_law_288 : decode cL_law 288 = .ok (.iadd, 1) := by decide +kernel
theorem dL_law_289 : decode cL_law 289 = .ok (.iaload, 1) := by decide +kernel
theorem dL_law_290 : decode cL_law 290 = .ok (.invokevirtual 27, 3) := by decide +kernel
theorem dL_law_293 : decode cL_law 293 = .ok (.aload_n 2, 1) := by decide +kernel
theorem dL_law_294 : decode cL_law 294 = .ok (.aload_n 0, 1) := by decide +kernel
theorem dL_law_295 : decode cL_law 295 = .ok (.iload_n 3, 1) := by decide +kernel
theorem dL_law_296 : decode cL_law 296 = .ok (.iconst 1, 1) := by decide +kernel
theorem dL_law_297 : decode cL_law 297 = .ok (.iadd, 1) := by decide +kernel
theorem dL_law_298 : decode cL_law 298 = .ok (.iaload, 1) := by decide +kernel
theorem dL_law_299 : decode cL_law 299 = .ok (.aload_n 0, 1) := by decide +kernel
theorem dL_law_300 : decode cL_law 300 = .ok (.iload_n 3, 1) := by decide +kernel
theorem dL_law_301 : decode cL_law 301 = .ok (.iconst 2, 1) := by decide +kernel
theorem dL_law_302 : decode cL_law 302 = .ok (.iadd, 1) := by decide +kernel
theorem dL_law_303 : decode cL_law 303 = .ok (.iaload, 1) := by decide +kernel
theorem dL_law_304 : decode cL_law 304 = .ok (.invokevirtual 30, 3) := by decide +kernel
theorem dL_law_307 : decode cL_law 307 = .ok (.if_icmp .eq 863, 3) := by decide +kernel
theorem dL_law_310 : decode cL_law 310 = .ok (.iconst 0, 1) := by decide +kernel
theorem dL_law_311 : decode cL_law 311 = .ok (.ireturn, 1) := by decide +kernel
theorem dL_law_312 : decode cL_law 312 = .ok (.aload_n 1, 1) := by decide +kernel
theorem dL_law_313 : decode cL_law 313 = .ok (.aload_n 0, 1) := by decide +kernel
theorem dL_law_314 : decode cL_law 314 = .ok (.iload_n 3, 1) := by decide +kernel
theorem dL_law_315 : decode cL_law 315 = .ok (.iconst 1, 1) := by decide +kernel
theorem dL_law_316 : decode cL_law 316 = .ok (.iadd, 1) := by decide +kernel
theorem dL_law_317 : decode cL_law 317 = .ok (.iaload, 1) := by decide +kernel
theorem dL_law_318 : decode cL_law 318 = .ok (.aload_n 0, 1) := by decide +kernel
theorem dL_law_319 : decode cL_law 319 = .ok (.iload_n 3, 1) := by decide +kernel
theorem dL_law_320 : decode cL_law 320 = .ok (.iconst 2, 1) := by decide +kernel
theorem dL_law_321 : decode cL_law 321 = .ok (.iadd, 1) := by decide +kernel
theorem dL_law_322 : decode cL_law 322 = .ok (.iaload, 1) := by decide +kernel
theorem dL_law_323 : decode cL_law 323 = .ok (.invokevirtual 31, 3) := by decide +kernel
theorem dL_law_326 : decode cL_law 326 = .ok (.aload_n 2, 1) := by decide +kernel
theorem dL_law_327 : decode cL_law 327 = .ok (.aload_n 0, 1) := by decide +kernel
theorem dL_law_328 : decode cL_law 328 = .ok (.iload_n 3, 1) := by decide +kernel
theorem dL_law_329 : decode cL_law 329 = .ok (.iconst 1, 1) := by decide +kernel
theorem dL_law_330 : decode cL_law 330 = .ok (.iadd, 1) := by decide +kernel
theorem dL_law_331 : decode cL_law 331 = .ok (.iaload, 1) := by decide +kernel
theorem dL_law_332 : decode cL_law 332 = .ok (.aload_n 0, 1) := by decide +kernel
theorem dL_law_333 : decode cL_law 333 = .ok (.iload_n 3, 1) := by decide +kernel
theorem dL_law_334 : decode cL_law 334 = .ok (.iconst 2, 1) := by decide +kernel
theorem dL_law_335 : decode cL_law 335 = .ok (.iadd, 1) := by decide +kernel
theorem dL_law_336 : decode cL_law 336 = .ok (.iaload, 1) := by decide +kernel
theorem dL_law_337 : decode cL_law 337 = .ok (.invokevirtual 34, 3) := by decide +kernel
theorem dL_law_340 : decode cL_law 340 = .ok (.if_icmp .eq 830, 3) := by decide +kernel
theorem dL_law_343 : decode cL_law 343 = .ok (.iconst 0, 1) := by decide +kernel
theorem dL_law_344 : decode cL_law 344 = .ok (.ireturn, 1) := by decide +kernel
theorem dL_law_345 : decode cL_law 345 = .ok (.aload_n 1, 1) := by decide +kernel
theorem dL_law_346 : decode cL_law 346 = .ok (.aload_n 0, 1) := by decide +kernel
theorem dL_law_347 : decode cL_law 347 = .ok (.iload_n 3, 1) := by decide +kernel
theorem dL_law_348 : decode cL_law 348 = .ok (.iconst 1, 1) := by decide +kernel
theorem dL_law_349 : decode cL_law 349 = .ok (.iadd, 1) := by decide +kernel
theorem dL_law_350 : decode cL_law 350 = .ok (.iaload, 1) := by decide +kernel
theorem dL_law_351 : decode cL_law 351 = .ok (.aload_n 0, 1) := by decide +kernel
theorem dL_law_352 : decode cL_law 352 = .ok (.iload_n 3, 1) := by decide +kernel
theorem dL_law_353 : decode cL_law 353 = .ok (.iconst 2, 1) := by decide +kernel
theorem dL_law_354 : decode cL_law 354 = .ok (.iadd, 1) := by decide +kernel
theorem dL_law_355 : decode cL_law 355 = .ok (.iaload, 1) := by decide +kernel
theorem dL_law_356 : decode cL_law 356 = .ok (.aload_n 0, 1) := by decide +kernel
theorem dL_law_357 : decode cL_law 357 = .ok (.iload_n 3, 1) := by decide +kernel
theorem dL_law_358 : decode cL_law 358 = .ok (.iconst 3, 1) := by decide +kernel
theorem dL_law_359 : decode cL_law 359 = .ok (.iadd, 1) := by decide +kernel
theorem dL_law_360 : decode cL_law 360 = .ok (.iaload, 1) := by decide +kernel
theorem dL_law_361 : decode cL_law 361 = .ok (.aload_n 0, 1) := by decide +kernel
theorem dL_law_362 : decode cL_law 362 = .ok (.iload_n 3, 1) := by decide +kernel
theorem dL_law_363 : decode cL_law 363 = .ok (.iconst 4, 1) := by decide +kernel
theorem dL_law_364 : decode cL_law 364 = .ok (.iadd, 1) := by decide +kernel
theorem dL_law_365 : decode cL_law 365 = .ok (.iaload, 1) := by decide +kernel
theorem dL_law_366 : decode cL_law 366 = .ok (.aload_n 0, 1) := by decide +kernel
theorem dL_law_367 : decode cL_law 367 = .ok (.iload_n 3, 1) := by decide +kernel
theorem dL_law_368 : decode cL_law 368 = .ok (.iconst 5, 1) := by decide +kernel
theorem dL_law_369 : decode cL_law 369 = .ok (.iadd, 1) := by decide +kernel
theorem dL_law_370 : decode cL_law 370 = .ok (.iaload, 1) := by decide +kernel
theorem dL_law_371 : decode cL_law 371 = .ok (.aload_n 0, 1) := by decide +kernel
theorem dL_law_372 : decode cL_law 372 = .ok (.iload_n 3, 1) := by decide +kernel
theorem dL_law_373 : decode cL_law 373 = .ok (.bipush 6, 2) := by decide +kernel
theorem dL_law_375 : decode cL_law 375 = .ok (.iadd, 1) := by decide +kernel
theorem dL_law_376 : decode cL_law 376 = .ok (.iaload, 1) := by decide +kernel
theorem dL_law_377 : decode cL_law 377 = .ok (.aload_n 0, 1) := by decide +kernel
theorem dL_law_378 : decode cL_law 378 = .ok (.iload_n 3, 1) := by decide +kernel
theorem dL_law_379 : decode cL_law 379 = .ok (.bipush 7, 2) := by decide +kernel
theorem dL_law_381 : decode cL_law 381 = .ok (.iadd, 1) := by decide +kernel
theorem dL_law_382 : decode cL_law 382 = .ok (.iaload, 1) := by decide +kernel
theorem dL_law_383 : decode cL_law 383 = .ok (.invokevirtual 35, 3) := by decide +kernel
theorem dL_law_386 : decode cL_law 386 = .ok (.aload_n 2, 1) := by decide +kernel
theorem dL_law_387 : decode cL_law 387 = .ok (.aload_n 0, 1) := by decide +kernel
theorem dL_law_388 : decode cL_law 388 = .ok (.iload_n 3, 1) := by decide +kernel
theorem dL_law_389 : decode cL_law 389 = .ok (.iconst 1, 1) := by decide +kernel
theorem dL_law_390 : decode cL_law 390 = .ok (.iadd, 1) := by decide +kernel
theorem dL_law_391 : decode cL_law 391 = .ok (.iaload, 1) := by decide +kernel
theorem dL_law_392 : decode cL_law 392 = .ok (.aload_n 0, 1) := by decide +kernel
theorem dL_law_393 : decode cL_law 393 = .ok (.iload_n 3, 1) := by decide +kernel
theorem dL_law_394 : decode cL_law 394 = .ok (.iconst 2, 1) := by decide +kernel
theorem dL_law_395 : decode cL_law 395 = .ok (.iadd, 1) := by decide +kernel
theorem dL_law_396 : decode cL_law 396 = .ok (.iaload, 1) := by decide +kernel
theorem dL_law_397 : decode cL_law 397 = .ok (.aload_n 0, 1) := by decide +kernel
theorem dL_law_398 : decode cL_law 398 = .ok (.iload_n 3, 1) := by decide +kernel
theorem dL_law_399 : decode cL_law 399 = .ok (.iconst 3, 1) := by decide +kernel
theorem dL_law_400 : decode cL_law 400 = .ok (.iadd, 1) := by decide +kernel
theorem dL_law_401 : decode cL_law 401 = .ok (.iaload, 1) := by decide +kernel
theorem dL_law_402 : decode cL_law 402 = .ok (.aload_n 0, 1) := by decide +kernel
theorem dL_law_403 : decode cL_law 403 = .ok (.iload_n 3, 1) := by decide +kernel
theorem dL_law_404 : decode cL_law 404 = .ok (.iconst 4, 1) := by decide +kernel
theorem dL_law_405 : decode cL_law 405 = .ok (.iadd, 1) := by decide +kernel
theorem dL_law_406 : decode cL_law 406 = .ok (.iaload, 1) := by decide +kernel
theorem dL_law_407 : decode cL_law 407 = .ok (.aload_n 0, 1) := by decide +kernel
theorem dL_law_408 : decode cL_law 408 = .ok (.iload_n 3, 1) := by decide +kernel
theorem dL_law_409 : decode cL_law 409 = .ok (.iconst 5, 1) := by decide +kernel
theorem dL_law_410 : decode cL_law 410 = .ok (.iadd, 1) := by decide +kernel
theorem dL_law_411 : decode cL_law 411 = .ok (.iaload, 1) := by decide +kernel
theorem dL_law_412 : decode cL_law 412 = .ok (.aload_n 0, 1) := by decide +kernel
theorem dL_law_413 : decode cL_law 413 = .ok (.iload_n 3, 1) := by decide +kernel
theorem dL_law_414 : decode cL_law 414 = .ok (.bipush 6, 2) := by decide +kernel
theorem dL_law_416 : decode cL_law 416 = .ok (.iadd, 1) := by decide +kernel
theorem dL_law_417 : decode cL_law 417 = .ok (.iaload, 1) := by decide +kernel
theorem dL_law_418 : decode cL_law 418 = .ok (.aload_n 0, 1) := by decide +kernel
theorem dL_law_419 : decode cL_law 419 = .ok (.iload_n 3, 1) := by decide +kernel
theorem dL_law_420 : decode cL_law 420 = .ok (.bipush 7, 2) := by decide +kernel
theorem dL_law_422 : decode cL_law 422 = .ok (.iadd, 1) := by decide +kernel
theorem dL_law_423 : decode cL_law 423 = .ok (.iaload, 1) := by decide +kernel
theorem dL_law_424 : decode cL_law 424 = .ok (.invokevirtual 39, 3) := by decide +kernel
theorem dL_law_427 : decode cL_law 427 = .ok (.if_icmp .eq 743, 3) := by decide +kernel
theorem dL_law_430 : decode cL_law 430 = .ok (.iconst 0, 1) := by decide +kernel
theorem dL_law_431 : decode cL_law 431 = .ok (.ireturn, 1) := by decide +kernel
theorem dL_law_432 : decode cL_law 432 = .ok (.aload_n 1, 1) := by decide +kernel
theorem dL_law_433 : decode cL_law 433 = .ok (.aload_n 0, 1) := by decide +kernel
theorem dL_law_434 : decode cL_law 434 = .ok (.iload_n 3, 1) := by decide +kernel
theorem dL_law_435 : decode cL_law 435 = .ok (.iconst 1, 1) := by decide +kernel
theorem dL_law_436 : decode cL_law 436 = .ok (.iadd, 1) := by decide +kernel
theorem dL_law_437 : decode cL_law 437 = .ok (.iaload, 1) := by decide +kernel
theorem dL_law_438 : decode cL_law 438 = .ok (.aload_n 0, 1) := by decide +kernel
theorem dL_law_439 : decode cL_law 439 = .ok (.iload_n 3, 1) := by decide +kernel
theorem dL_law_440 : decode cL_law 440 = .ok (.iconst 2, 1) := by decide +kernel
theorem dL_law_441 : decode cL_law 441 = .ok (.iadd, 1) := by decide +kernel
theorem dL_law_442 : decode cL_law 442 = .ok (.iaload, 1) := by decide +kernel
theorem dL_law_443 : decode cL_law 443 = .ok (.aload_n 0, 1) := by decide +kernel
theorem dL_law_444 : decode cL_law 444 = .ok (.iload_n 3, 1) := by decide +kernel
theorem dL_law_445 : decode cL_law 445 = .ok (.iconst 3, 1) := by decide +kernel
theorem dL_law_446 : decode cL_law 446 = .ok (.iadd, 1) := by decide +kernel
theorem dL_law_447 : decode cL_law 447 = .ok (.iaload, 1) := by decide +kernel
theorem dL_law_448 : decode cL_law 448 = .ok (.aload_n 0, 1) := by decide +kernel
theorem dL_law_449 : decode cL_law 449 = .ok (.iload_n 3, 1) := by decide +kernel
theorem dL_law_450 : decode cL_law 450 = .ok (.iconst 4, 1) := by decide +kernel
theorem dL_law_451 : decode cL_law 451 = .ok (.iadd, 1) := by decide +kernel
theorem dL_law_452 : decode cL_law 452 = .ok (.iaload, 1) := by decide +kernel
theorem dL_law_453 : decode cL_law 453 = .ok (.invokevirtual 40, 3) := by decide +kernel
theorem dL_law_456 : decode cL_law 456 = .ok (.aload_n 2, 1) := by decide +kernel
theorem dL_law_457 : decode cL_law 457 = .ok (.aload_n 0, 1) := by decide +kernel
theorem dL_law_458 : decode cL_law 458 = .ok (.iload_n 3, 1) := by decide +kernel
theorem dL_law_459 : decode cL_law 459 = .ok (.iconst 1, 1) := by decide +kernel
theorem dL_law_460 : decode cL_law 460 = .ok (.iadd, 1) := by decide +kernel
theorem dL_law_461 : decode cL_law 461 = .ok (.iaload, 1) := by decide +kernel
theorem dL_law_462 : decode cL_law 462 = .ok (.aload_n 0, 1) := by decide +kernel
theorem dL_law_463 : decode cL_law 463 = .ok (.iload_n 3, 1) := by decide +kernel
theorem dL_law_464 : decode cL_law 464 = .ok (.iconst 2, 1) := by decide +kernel
theorem dL_law_465 : decode cL_law 465 = .ok (.iadd, 1) := by decide +kernel
theorem dL_law_466 : decode cL_law 466 = .ok (.iaload, 1) := by decide +kernel
theorem dL_law_467 : decode cL_law 467 = .ok (.aload_n 0, 1) := by decide +kernel
theorem dL_law_468 : decode cL_law 468 = .ok (.iload_n 3, 1) := by decide +kernel
theorem dL_law_469 : decode cL_law 469 = .ok (.iconst 3, 1) := by decide +kernel
theorem dL_law_470 : decode cL_law 470 = .ok (.iadd, 1) := by decide +kernel
theorem dL_law_471 : decode cL_law 471 = .ok (.iaload, 1) := by decide +kernel
theorem dL_law_472 : decode cL_law 472 = .ok (.aload_n 0, 1) := by decide +kernel
theorem dL_law_473 : decode cL_law 473 = .ok (.iload_n 3, 1) := by decide +kernel
theorem dL_law_474 : decode cL_law 474 = .ok (.iconst 4, 1) := by decide +kernel
theorem dL_law_475 : decode cL_law 475 = .ok (.iadd, 1) := by decide +kernel
theorem dL_law_476 : decode cL_law 476 = .ok (.iaload, 1) := by decide +kernel
theorem dL_law_477 : decode cL_law 477 = .ok (.invokevirtual 43, 3) := by decide +kernel
theorem dL_law_480 : decode cL_law 480 = .ok (.if_icmp .eq 690, 3) := by decide +kernel
theorem dL_law_483 : decode cL_law 483 = .ok (.iconst 0, 1) := by decide +kernel
theorem dL_law_484 : decode cL_law 484 = .ok (.ireturn, 1) := by decide +kernel
theorem dL_law_485 : decode cL_law 485 = .ok (.aload_n 1, 1) := by decide +kernel
theorem dL_law_486 : decode cL_law 486 = .ok (.aload_n 0, 1) := by decide +kernel
theorem dL_law_487 : decode cL_law 487 = .ok (.iload_n 3, 1) := by decide +kernel
theorem dL_law_488 : decode cL_law 488 = .ok (.iconst 1, 1) := by decide +kernel
theorem dL_law_489 : decode cL_law 489 = .ok (.iadd, 1) := by decide +kernel
theorem dL_law_490 : decode cL_law 490 = .ok (.iaload, 1) := by decide +kernel
theorem dL_law_491 : decode cL_law 491 = .ok (.aload_n 0, 1) := by decide +kernel
theorem dL_law_492 : decode cL_law 492 = .ok (.iload_n 3, 1) := by decide +kernel
theorem dL_law_493 : decode cL_law 493 = .ok (.iconst 2, 1) := by decide +kernel
theorem dL_law_494 : decode cL_law 494 = .ok (.iadd, 1) := by decide +kernel
theorem dL_law_495 : decode cL_law 495 = .ok (.iaload, 1) := by decide +kernel
theorem dL_law_496 : decode cL_law 496 = .ok (.aload_n 0, 1) := by decide +kernel
theorem dL_law_497 : decode cL_law 497 = .ok (.iload_n 3, 1) := by decide +kernel
theorem dL_law_498 : decode cL_law 498 = .ok (.iconst 3, 1) := by decide +kernel
theorem dL_law_499 : decode cL_law 499 = .ok (.iadd, 1) := by decide +kernel
theorem dL_law_500 : decode cL_law 500 = .ok (.iaload, 1) := by decide +kernel
theorem dL_law_501 : decode cL_law 501 = .ok (.invokevirtual 44, 3) := by decide +kernel
theorem dL_law_504 : decode cL_law 504 = .ok (.aload_n 2, 1) := by decide +kernel
theorem dL_law_505 : decode cL_law 505 = .ok (.aload_n 0, 1) := by decide +kernel
theorem dL_law_506 : decode cL_law 506 = .ok (.iload_n 3, 1) := by decide +kernel
theorem dL_law_507 : decode cL_law 507 = .ok (.iconst 1, 1) := by decide +kernel
theorem dL_law_508 : decode cL_law 508 = .ok (.iadd, 1) := by decide +kernel
theorem dL_law_509 : decode cL_law 509 = .ok (.iaload, 1) := by decide +kernel
theorem dL_law_510 : decode cL_law 510 = .ok (.aload_n 0, 1) := by decide +kernel
theorem dL_law_511 : decode cL_law 511 = .ok (.iload_n 3, 1) := by decide +kernel
theorem dL_law_512 : decode cL_law 512 = .ok (.iconst 2, 1) := by decide +kernel
theorem dL_law_513 : decode cL_law 513 = .ok (.iadd, 1) := by decide +kernel
theorem dL_law_514 : decode cL_law 514 = .ok (.iaload, 1) := by decide +kernel
theorem dL_law_515 : decode cL_law 515 = .ok (.aload_n 0, 1) := by decide +kernel
theorem dL_law_516 : decode cL_law 516 = .ok (.iload_n 3, 1) := by decide +kernel
theorem dL_law_517 : decode cL_law 517 = .ok (.iconst 3, 1) := by decide +kernel
theorem dL_law_518 : decode cL_law 518 = .ok (.iadd, 1) := by decide +kernel
theorem dL_law_519 : decode cL_law 519 = .ok (.iaload, 1) := by decide +kernel
theorem dL_law_520 : decode cL_law 520 = .ok (.invokevirtual 48, 3) := by decide +kernel
theorem dL_law_523 : decode cL_law 523 = .ok (.if_icmp .eq 647, 3) := by decide +kernel
theorem dL_law_526 : decode cL_law 526 = .ok (.iconst 0, 1) := by decide +kernel
theorem dL_law_527 : decode cL_law 527 = .ok (.ireturn, 1) := by decide +kernel
theorem dL_law_528 : decode cL_law 528 = .ok (.aload_n 1, 1) := by decide +kernel
theorem dL_law_529 : decode cL_law 529 = .ok (.aload_n 0, 1) := by decide +kernel
theorem dL_law_530 : decode cL_law 530 = .ok (.iload_n 3, 1) := by decide +kernel
theorem dL_law_531 : decode cL_law 531 = .ok (.iconst 1, 1) := by decide +kernel
theorem dL_law_532 : decode cL_law 532 = .ok (.iadd, 1) := by decide +kernel
theorem dL_law_533 : decode cL_law 533 = .ok (.iaload, 1) := by decide +kernel
theorem dL_law_534 : decode cL_law 534 = .ok (.aload_n 0, 1) := by decide +kernel
theorem dL_law_535 : decode cL_law 535 = .ok (.iload_n 3, 1) := by decide +kernel
theorem dL_law_536 : decode cL_law 536 = .ok (.iconst 2, 1) := by decide +kernel
theorem dL_law_537 : decode cL_law 537 = .ok (.iadd, 1) := by decide +kernel
theorem dL_law_538 : decode cL_law 538 = .ok (.iaload, 1) := by decide +kernel
theorem dL_law_539 : decode cL_law 539 = .ok (.aload_n 0, 1) := by decide +kernel
theorem dL_law_540 : decode cL_law 540 = .ok (.iload_n 3, 1) := by decide +kernel
theorem dL_law_541 : decode cL_law 541 = .ok (.iconst 3, 1) := by decide +kernel
theorem dL_law_542 : decode cL_law 542 = .ok (.iadd, 1) := by decide +kernel
theorem dL_law_543 : decode cL_law 543 = .ok (.iaload, 1) := by decide +kernel
theorem dL_law_544 : decode cL_law 544 = .ok (.invokevirtual 49, 3) := by decide +kernel
theorem dL_law_547 : decode cL_law 547 = .ok (.aload_n 2, 1) := by decide +kernel
theorem dL_law_548 : decode cL_law 548 = .ok (.aload_n 0, 1) := by decide +kernel
theorem dL_law_549 : decode cL_law 549 = .ok (.iload_n 3, 1) := by decide +kernel
theorem dL_law_550 : decode cL_law 550 = .ok (.iconst 1, 1) := by decide +kernel
theorem dL_law_551 : decode cL_law 551 = .ok (.iadd, 1) := by decide +kernel
theorem dL_law_552 : decode cL_law 552 = .ok (.iaload, 1) := by decide +kernel
theorem dL_law_553 : decode cL_law 553 = .ok (.aload_n 0, 1) := by decide +kernel
theorem dL_law_554 : decode cL_law 554 = .ok (.iload_n 3, 1) := by decide +kernel
theorem dL_law_555 : decode cL_law 555 = .ok (.iconst 2, 1) := by decide +kernel
theorem dL_law_556 : decode cL_law 556 = .ok (.iadd, 1) := by decide +kernel
theorem dL_law_557 : decode cL_law 557 = .ok (.iaload, 1) := by decide +kernel
theorem dL_law_558 : decode cL_law 558 = .ok (.aload_n 0, 1) := by decide +kernel
theorem dL_law_559 : decode cL_law 559 = .ok (.iload_n 3, 1) := by decide +kernel
theorem dL_law_560 : decode cL_law 560 = .ok (.iconst 3, 1) := by decide +kernel
theorem dL_law_561 : decode cL_law 561 = .ok (.iadd, 1) := by decide +kernel
theorem dL_law_562 : decode cL_law 562 = .ok (.iaload, 1) := by decide +kernel
theorem dL_law_563 : decode cL_law 563 = .ok (.invokevirtual 52, 3) := by decide +kernel
theorem dL_law_566 : decode cL_law 566 = .ok (.if_icmp .eq 604, 3) := by decide +kernel
theorem dL_law_569 : decode cL_law 569 = .ok (.iconst 0, 1) := by decide +kernel
theorem dL_law_570 : decode cL_law 570 = .ok (.ireturn, 1) := by decide +kernel
theorem dL_law_571 : decode cL_law 571 = .ok (.aload_n 1, 1) := by decide +kernel
theorem dL_law_572 : decode cL_law 572 = .ok (.aload_n 0, 1) := by decide +kernel
theorem dL_law_573 : decode cL_law 573 = .ok (.iload_n 3, 1) := by decide +kernel
theorem dL_law_574 : decode cL_law 574 = .ok (.iconst 1, 1) := by decide +kernel
theorem dL_law_575 : decode cL_law 575 = .ok (.iadd, 1) := by decide +kernel
theorem dL_law_576 : decode cL_law 576 = .ok (.iaload, 1) := by decide +kernel
theorem dL_law_577 : decode cL_law 577 = .ok (.aload_n 0, 1) := by decide +kernel
theorem dL_law_578 : decode cL_law 578 = .ok (.iload_n 3, 1) := by decide +kernel
theorem dL_law_579 : decode cL_law 579 = .ok (.iconst 2, 1) := by decide +kernel
theorem dL_law_580 : decode cL_law 580 = .ok (.iadd, 1) := by decide +kernel
theorem dL_law_581 : decode cL_law 581 = .ok (.iaload, 1) := by decide +kernel
theorem dL_law_582 : decode cL_law 582 = .ok (.aload_n 0, 1) := by decide +kernel
theorem dL_law_583 : decode cL_law 583 = .ok (.iload_n 3, 1) := by decide +kernel
theorem dL_law_584 : decode cL_law 584 = .ok (.iconst 3, 1) := by decide +kernel
theorem dL_law_585 : decode cL_law 585 = .ok (.iadd, 1) := by decide +kernel
theorem dL_law_586 : decode cL_law 586 = .ok (.iaload, 1) := by decide +kernel
theorem dL_law_587 : decode cL_law 587 = .ok (.invokevirtual 53, 3) := by decide +kernel
theorem dL_law_590 : decode cL_law 590 = .ok (.aload_n 2, 1) := by decide +kernel
theorem dL_law_591 : decode cL_law 591 = .ok (.aload_n 0, 1) := by decide +kernel
theorem dL_law_592 : decode cL_law 592 = .ok (.iload_n 3, 1) := by decide +kernel
theorem dL_law_593 : decode cL_law 593 = .ok (.iconst 1, 1) := by decide +kernel
theorem dL_law_594 : decode cL_law 594 = .ok (.iadd, 1) := by decide +kernel
theorem dL_law_595 : decode cL_law 595 = .ok (.iaload, 1) := by decide +kernel
theorem dL_law_596 : decode cL_law 596 = .ok (.aload_n 0, 1) := by decide +kernel
theorem dL_law_597 : decode cL_law 597 = .ok (.iload_n 3, 1) := by decide +kernel
theorem dL_law_598 : decode cL_law 598 = .ok (.iconst 2, 1) := by decide +kernel
theorem dL_law_599 : decode cL_law 599 = .ok (.iadd, 1) := by decide +kernel
theorem dL_law_600 : decode cL_law 600 = .ok (.iaload, 1) := by decide +kernel
theorem dL_law_601 : decode cL_law 601 = .ok (.aload_n 0, 1) := by decide +kernel
theorem dL_law_602 : decode cL_law 602 = .ok (.iload_n 3, 1) := by decide +kernel
theorem dL_law_603 : decode cL_law 603 = .ok (.iconst 3, 1) := by decide +kernel
theorem dL_law_604 : decode cL_law 604 = .ok (.iadd, 1) := by decide +kernel
theorem dL_law_605 : decode cL_law 605 = .ok (.iaload, 1) := by decide +kernel
theorem dL_law_606 : decode cL_law 606 = .ok (.invokevirtual 56, 3) := by decide +kernel
theorem dL_law_609 : decode cL_law 609 = .ok (.if_icmp .eq 561, 3) := by decide +kernel
theorem dL_law_612 : decode cL_law 612 = .ok (.iconst 0, 1) := by decide +kernel
theorem dL_law_613 : decode cL_law 613 = .ok (.ireturn, 1) := by decide +kernel
theorem dL_law_614 : decode cL_law 614 = .ok (.aload_n 1, 1) := by decide +kernel
theorem dL_law_615 : decode cL_law 615 = .ok (.aload_n 0, 1) := by decide +kernel
theorem dL_law_616 : decode cL_law 616 = .ok (.iload_n 3, 1) := by decide +kernel
theorem dL_law_617 : decode cL_law 617 = .ok (.iconst 1, 1) := by decide +kernel
theorem dL_law_618 : decode cL_law 618 = .ok (.iadd, 1) := by decide +kernel
theorem dL_law_619 : decode cL_law 619 = .ok (.iaload, 1) := by decide +kernel
theorem dL_law_620 : decode cL_law 620 = .ok (.invokevirtual 57, 3) := by decide +kernel
theorem dL_law_623 : decode cL_law 623 = .ok (.aload_n 2, 1) := by decide +kernel
theorem dL_law_624 : decode cL_law 624 = .ok (.aload_n 0, 1) := by decide +kernel
theorem dL_law_625 : decode cL_law 625 = .ok (.iload_n 3, 1) := by decide +kernel
theorem dL_law_626 : decode cL_law 626 = .ok (.iconst 1, 1) := by decide +kernel
theorem dL_law_627 : decode cL_law 627 = .ok (.iadd, 1) := by decide +kernel
theorem dL_law_628 : decode cL_law 628 = .ok (.iaload, 1) := by decide +kernel
theorem dL_law_629 : decode cL_law 629 = .ok (.invokevirtual 61, 3) := by decide +kernel
theorem dL_law_632 : decode cL_law 632 = .ok (.if_icmp .eq 538, 3) := by decide +kernel
theorem dL_law_635 : decode cL_law 635 = .ok (.iconst 0, 1) := by decide +kernel
theorem dL_law_636 : decode cL_law 636 = .ok (.ireturn, 1) := by decide +kernel
theorem dL_law_637 : decode cL_law 637 = .ok (.aload_n 1, 1) := by decide +kernel
theorem dL_law_638 : decode cL_law 638 = .ok (.aload_n 0, 1) := by decide +kernel
theorem dL_law_639 : decode cL_law 639 = .ok (.iload_n 3, 1) := by decide +kernel
theorem dL_law_640 : decode cL_law 640 = .ok (.iconst 1, 1) := by decide +kernel
theorem dL_law_641 : decode cL_law 641 = .ok (.iadd, 1) := by decide +kernel
theorem dL_law_642 : decode cL_law 642 = .ok (.iaload, 1) := by decide +kernel
theorem dL_law_643 : decode cL_law 643 = .ok (.aload_n 0, 1) := by decide +kernel
theorem dL_law_644 : decode cL_law 644 = .ok (.iload_n 3, 1) := by decide +kernel
theorem dL_law_645 : decode cL_law 645 = .ok (.iconst 2, 1) := by decide +kernel
theorem dL_law_646 : decode cL_law 646 = .ok (.iadd, 1) := by decide +kernel
theorem dL_law_647 : decode cL_law 647 = .ok (.iaload, 1) := by decide +kernel
theorem dL_law_648 : decode cL_law 648 = .ok (.aload_n 0, 1) := by decide +kernel
theorem dL_law_649 : decode cL_law 649 = .ok (.iload_n 3, 1) := by decide +kernel
theorem dL_law_650 : decode cL_law 650 = .ok (.iconst 3, 1) := by decide +kernel
theorem dL_law_651 : decode cL_law 651 = .ok (.iadd, 1) := by decide +kernel
theorem dL_law_652 : decode cL_law 652 = .ok (.iaload, 1) := by decide +kernel
theorem dL_law_653 : decode cL_law 653 = .ok (.invokevirtual 62, 3) := by decide +kernel
theorem dL_law_656 : decode cL_law 656 = .ok (.aload_n 2, 1) := by decide +kernel
theorem dL_law_657 : decode cL_law 657 = .ok (.aload_n 0, 1) := by decide +kernel
theorem dL_law_658 : decode cL_law 658 = .ok (.iload_n 3, 1) := by decide +kernel
theorem dL_law_659 : decode cL_law 659 = .ok (.iconst 1, 1) := by decide +kernel
theorem dL_law_660 : decode cL_law 660 = .ok (.iadd, 1) := by decide +kernel
theorem dL_law_661 : decode cL_law 661 = .ok (.iaload, 1) := by decide +kernel
theorem dL_law_662 : decode cL_law 662 = .ok (.aload_n 0, 1) := by decide +kernel
theorem dL_law_663 : decode cL_law 663 = .ok (.iload_n 3, 1) := by decide +kernel
theorem dL_law_664 : decode cL_law 664 = .ok (.iconst 2, 1) := by decide +kernel
theorem dL_law_665 : decode cL_law 665 = .ok (.iadd, 1) := by decide +kernel
theorem dL_law_666 : decode cL_law 666 = .ok (.iaload, 1) := by decide +kernel
theorem dL_law_667 : decode cL_law 667 = .ok (.aload_n 0, 1) := by decide +kernel
theorem dL_law_668 : decode cL_law 668 = .ok (.iload_n 3, 1) := by decide +kernel
theorem dL_law_669 : decode cL_law 669 = .ok (.iconst 3, 1) := by decide +kernel
theorem dL_law_670 : decode cL_law 670 = .ok (.iadd, 1) := by decide +kernel
theorem dL_law_671 : decode cL_law 671 = .ok (.iaload, 1) := by decide +kernel
theorem dL_law_672 : decode cL_law 672 = .ok (.invokevirtual 65, 3) := by decide +kernel
theorem dL_law_675 : decode cL_law 675 = .ok (.if_icmp .eq 495, 3) := by decide +kernel
theorem dL_law_678 : decode cL_law 678 = .ok (.iconst 0, 1) := by decide +kernel
theorem dL_law_679 : decode cL_law 679 = .ok (.ireturn, 1) := by decide +kernel
theorem dL_law_680 : decode cL_law 680 = .ok (.aload_n 1, 1) := by decide +kernel
theorem dL_law_681 : decode cL_law 681 = .ok (.aload_n 0, 1) := by decide +kernel
theorem dL_law_682 : decode cL_law 682 = .ok (.iload_n 3, 1) := by decide +kernel
theorem dL_law_683 : decode cL_law 683 = .ok (.iconst 1, 1) := by decide +kernel
theorem dL_law_684 : decode cL_law 684 = .ok (.iadd, 1) := by decide +kernel
theorem dL_law_685 : decode cL_law 685 = .ok (.iaload, 1) := by decide +kernel
theorem dL_law_686 : decode cL_law 686 = .ok (.invokevirtual 66, 3) := by decide +kernel
theorem dL_law_689 : decode cL_law 689 = .ok (.aload_n 2, 1) := by decide +kernel
theorem dL_law_690 : decode cL_law 690 = .ok (.aload_n 0, 1) := by decide +kernel
theorem dL_law_691 : decode cL_law 691 = .ok (.iload_n 3, 1) := by decide +kernel
theorem dL_law_692 : decode cL_law 692 = .ok (.iconst 1, 1) := by decide +kernel
theorem dL_law_693 : decode cL_law 693 = .ok (.iadd, 1) := by decide +kernel
theorem dL_law_694 : decode cL_law 694 = .ok (.iaload, 1) := by decide +kernel
theorem dL_law_695 : decode cL_law 695 = .ok (.invokevirtual 69, 3) := by decide +kernel
theorem dL_law_698 : decode cL_law 698 = .ok (.if_icmp .eq 472, 3) := by decide +kernel
theorem dL_law_701 : decode cL_law 701 = .ok (.iconst 0, 1) := by decide +kernel
theorem dL_law_702 : decode cL_law 702 = .ok (.ireturn, 1) := by decide +kernel
theorem dL_law_703 : decode cL_law 703 = .ok (.aload_n 1, 1) := by decide +kernel
theorem dL_law_704 : decode cL_law 704 = .ok (.aload_n 0, 1) := by decide +kernel
theorem dL_law_705 : decode cL_law 705 = .ok (.iload_n 3, 1) := by decide +kernel
theorem dL_law_706 : decode cL_law 706 = .ok (.iconst 1, 1) := by decide +kernel
theorem dL_law_707 : decode cL_law 707 = .ok (.iadd, 1) := by decide +kernel
theorem dL_law_708 : decode cL_law 708 = .ok (.iaload, 1) := by decide +kernel
theorem dL_law_709 : decode cL_law 709 = .ok (.invokevirtual 70, 3) := by decide +kernel
theorem dL_law_712 : decode cL_law 712 = .ok (.aload_n 2, 1) := by decide +kernel
theorem dL_law_713 : decode cL_law 713 = .ok (.aload_n 0, 1) := by decide +kernel
theorem dL_law_714 : decode cL_law 714 = .ok (.iload_n 3, 1) := by decide +kernel
theorem dL_law_715 : decode cL_law 715 = .ok (.iconst 1, 1) := by decide +kernel
theorem dL_law_716 : decode cL_law 716 = .ok (.iadd, 1) := by decide +kernel
theorem dL_law_717 : decode cL_law 717 = .ok (.iaload, 1) := by decide +kernel
theorem dL_law_718 : decode cL_law 718 = .ok (.invokevirtual 73, 3) := by decide +kernel
theorem dL_law_721 : decode cL_law 721 = .ok (.if_icmp .eq 449, 3) := by decide +kernel
theorem dL_law_724 : decode cL_law 724 = .ok (.iconst 0, 1) := by decide +kernel
theorem dL_law_725 : decode cL_law 725 = .ok (.ireturn, 1) := by decide +kernel
theorem dL_law_726 : decode cL_law 726 = .ok (.aload_n 1, 1) := by decide +kernel
theorem dL_law_727 : decode cL_law 727 = .ok (.aload_n 0, 1) := by decide +kernel
theorem dL_law_728 : decode cL_law 728 = .ok (.iload_n 3, 1) := by decide +kernel
theorem dL_law_729 : decode cL_law 729 = .ok (.iconst 1, 1) := by decide +kernel
theorem dL_law_730 : decode cL_law 730 = .ok (.iadd, 1) := by decide +kernel
theorem dL_law_731 : decode cL_law 731 = .ok (.iaload, 1) := by decide +kernel
theorem dL_law_732 : decode cL_law 732 = .ok (.invokevirtual 74, 3) := by decide +kernel
theorem dL_law_735 : decode cL_law 735 = .ok (.aload_n 2, 1) := by decide +kernel
theorem dL_law_736 : decode cL_law 736 = .ok (.aload_n 0, 1) := by decide +kernel
theorem dL_law_737 : decode cL_law 737 = .ok (.iload_n 3, 1) := by decide +kernel
theorem dL_law_738 : decode cL_law 738 = .ok (.iconst 1, 1) := by decide +kernel
theorem dL_law_739 : decode cL_law 739 = .ok (.iadd, 1) := by decide +kernel
theorem dL_law_740 : decode cL_law 740 = .ok (.iaload, 1) := by decide +kernel
theorem dL_law_741 : decode cL_law 741 = .ok (.invokevirtual 77, 3) := by decide +kernel
theorem dL_law_744 : decode cL_law 744 = .ok (.if_icmp .eq 426, 3) := by decide +kernel
theorem dL_law_747 : decode cL_law 747 = .ok (.iconst 0, 1) := by decide +kernel
theorem dL_law_748 : decode cL_law 748 = .ok (.ireturn, 1) := by decide +kernel
theorem dL_law_749 : decode cL_law 749 = .ok (.aload_n 1, 1) := by decide +kernel
theorem dL_law_750 : decode cL_law 750 = .ok (.aload_n 0, 1) := by decide +kernel
theorem dL_law_751 : decode cL_law 751 = .ok (.iload_n 3, 1) := by decide +kernel
theorem dL_law_752 : decode cL_law 752 = .ok (.iconst 1, 1) := by decide +kernel
theorem dL_law_753 : decode cL_law 753 = .ok (.iadd, 1) := by decide +kernel
theorem dL_law_754 : decode cL_law 754 = .ok (.iaload, 1) := by decide +kernel
theorem dL_law_755 : decode cL_law 755 = .ok (.invokevirtual 78, 3) := by decide +kernel
theorem dL_law_758 : decode cL_law 758 = .ok (.aload_n 2, 1) := by decide +kernel
theorem dL_law_759 : decode cL_law 759 = .ok (.aload_n 0, 1) := by decide +kernel
theorem dL_law_760 : decode cL_law 760 = .ok (.iload_n 3, 1) := by decide +kernel
theorem dL_law_761 : decode cL_law 761 = .ok (.iconst 1, 1) := by decide +kernel
theorem dL_law_762 : decode cL_law 762 = .ok (.iadd, 1) := by decide +kernel
theorem dL_law_763 : decode cL_law 763 = .ok (.iaload, 1) := by decide +kernel
theorem dL_law_764 : decode cL_law 764 = .ok (.invokevirtual 81, 3) := by decide +kernel
theorem dL_law_767 : decode cL_law 767 = .ok (.if_icmp .eq 403, 3) := by decide +kernel
theorem dL_law_770 : decode cL_law 770 = .ok (.iconst 0, 1) := by decide +kernel
theorem dL_law_771 : decode cL_law 771 = .ok (.ireturn, 1) := by decide +kernel
theorem dL_law_772 : decode cL_law 772 = .ok (.aload_n 1, 1) := by decide +kernel
theorem dL_law_773 : decode cL_law 773 = .ok (.aload_n 0, 1) := by decide +kernel
theorem dL_law_774 : decode cL_law 774 = .ok (.iload_n 3, 1) := by decide +kernel
theorem dL_law_775 : decode cL_law 775 = .ok (.iconst 1, 1) := by decide +kernel
theorem dL_law_776 : decode cL_law 776 = .ok (.iadd, 1) := by decide +kernel
theorem dL_law_777 : decode cL_law 777 = .ok (.iaload, 1) := by decide +kernel
theorem dL_law_778 : decode cL_law 778 = .ok (.aload_n 0, 1) := by decide +kernel
theorem dL_law_779 : decode cL_law 779 = .ok (.iload_n 3, 1) := by decide +kernel
theorem dL_law_780 : decode cL_law 780 = .ok (.iconst 2, 1) := by decide +kernel
theorem dL_law_781 : decode cL_law 781 = .ok (.iadd, 1) := by decide +kernel
theorem dL_law_782 : decode cL_law 782 = .ok (.iaload, 1) := by decide +kernel
theorem dL_law_783 : decode cL_law 783 = .ok (.aload_n 0, 1) := by decide +kernel
theorem dL_law_784 : decode cL_law 784 = .ok (.iload_n 3, 1) := by decide +kernel
theorem dL_law_785 : decode cL_law 785 = .ok (.iconst 3, 1) := by decide +kernel
theorem dL_law_786 : decode cL_law 786 = .ok (.iadd, 1) := by decide +kernel
theorem dL_law_787 : decode cL_law 787 = .ok (.iaload, 1) := by decide +kernel
theorem dL_law_788 : decode cL_law 788 = .ok (.aload_n 0, 1) := by decide +kernel
theorem dL_law_789 : decode cL_law 789 = .ok (.iload_n 3, 1) := by decide +kernel
theorem dL_law_790 : decode cL_law 790 = .ok (.iconst 4, 1) := by decide +kernel
theorem dL_law_791 : decode cL_law 791 = .ok (.iadd, 1) := by decide +kernel
theorem dL_law_792 : decode cL_law 792 = .ok (.iaload, 1) := by decide +kernel
theorem dL_law_793 : decode cL_law 793 = .ok (.invokevirtual 82, 3) := by decide +kernel
theorem dL_law_796 : decode cL_law 796 = .ok (.aload_n 2, 1) := by decide +kernel
theorem dL_law_797 : decode cL_law 797 = .ok (.aload_n 0, 1) := by decide +kernel
theorem dL_law_798 : decode cL_law 798 = .ok (.iload_n 3, 1) := by decide +kernel
theorem dL_law_799 : decode cL_law 799 = .ok (.iconst 1, 1) := by decide +kernel
theorem dL_law_800 : decode cL_law 800 = .ok (.iadd, 1) := by decide +kernel
theorem dL_law_801 : decode cL_law 801 = .ok (.iaload, 1) := by decide +kernel
theorem dL_law_802 : decode cL_law 802 = .ok (.aload_n 0, 1) := by decide +kernel
theorem dL_law_803 : decode cL_law 803 = .ok (.iload_n 3, 1) := by decide +kernel
theorem dL_law_804 : decode cL_law 804 = .ok (.iconst 2, 1) := by decide +kernel
theorem dL_law_805 : decode cL_law 805 = .ok (.iadd, 1) := by decide +kernel
theorem dL_law_806 : decode cL_law 806 = .ok (.iaload, 1) := by decide +kernel
theorem dL_law_807 : decode cL_law 807 = .ok (.aload_n 0, 1) := by decide +kernel
theorem dL_law_808 : decode cL_law 808 = .ok (.iload_n 3, 1) := by decide +kernel
theorem dL_law_809 : decode cL_law 809 = .ok (.iconst 3, 1) := by decide +kernel
theorem dL_law_810 : decode cL_law 810 = .ok (.iadd, 1) := by decide +kernel
theorem dL_law_811 : decode cL_law 811 = .ok (.iaload, 1) := by decide +kernel
theorem dL_law_812 : decode cL_law 812 = .ok (.aload_n 0, 1) := by decide +kernel
theorem dL_law_813 : decode cL_law 813 = .ok (.iload_n 3, 1) := by decide +kernel
theorem dL_law_814 : decode cL_law 814 = .ok (.iconst 4, 1) := by decide +kernel
theorem dL_law_815 : decode cL_law 815 = .ok (.iadd, 1) := by decide +kernel
theorem dL_law_816 : decode cL_law 816 = .ok (.iaload, 1) := by decide +kernel
theorem dL_law_817 : decode cL_law 817 = .ok (.invokevirtual 86, 3) := by decide +kernel
theorem dL_law_820 : decode cL_law 820 = .ok (.lcmp, 1) := by decide +kernel
theorem dL_law_821 : decode cL_law 821 = .ok (.ifCond .eq 349, 3) := by decide +kernel
theorem dL_law_824 : decode cL_law 824 = .ok (.iconst 0, 1) := by decide +kernel
theorem dL_law_825 : decode cL_law 825 = .ok (.ireturn, 1) := by decide +kernel
theorem dL_law_826 : decode cL_law 826 = .ok (.aload_n 1, 1) := by decide +kernel
theorem dL_law_827 : decode cL_law 827 = .ok (.aload_n 0, 1) := by decide +kernel
theorem dL_law_828 : decode cL_law 828 = .ok (.iload_n 3, 1) := by decide +kernel
theorem dL_law_829 : decode cL_law 829 = .ok (.iconst 1, 1) := by decide +kernel
theorem dL_law_830 : decode cL_law 830 = .ok (.iadd, 1) := by decide +kernel
theorem dL_law_831 : decode cL_law 831 = .ok (.iaload, 1) := by decide +kernel
theorem dL_law_832 : decode cL_law 832 = .ok (.aload_n 0, 1) := by decide +kernel
theorem dL_law_833 : decode cL_law 833 = .ok (.iload_n 3, 1) := by decide +kernel
theorem dL_law_834 : decode cL_law 834 = .ok (.iconst 2, 1) := by decide +kernel
theorem dL_law_835 : decode cL_law 835 = .ok (.iadd, 1) := by decide +kernel
theorem dL_law_836 : decode cL_law 836 = .ok (.iaload, 1) := by decide +kernel
theorem dL_law_837 : decode cL_law 837 = .ok (.aload_n 0, 1) := by decide +kernel
theorem dL_law_838 : decode cL_law 838 = .ok (.iload_n 3, 1) := by decide +kernel
theorem dL_law_839 : decode cL_law 839 = .ok (.iconst 3, 1) := by decide +kernel
theorem dL_law_840 : decode cL_law 840 = .ok (.iadd, 1) := by decide +kernel
theorem dL_law_841 : decode cL_law 841 = .ok (.iaload, 1) := by decide +kernel
theorem dL_law_842 : decode cL_law 842 = .ok (.invokevirtual 87, 3) := by decide +kernel
theorem dL_law_845 : decode cL_law 845 = .ok (.aload_n 2, 1) := by decide +kernel
theorem dL_law_846 : decode cL_law 846 = .ok (.aload_n 0, 1) := by decide +kernel
theorem dL_law_847 : decode cL_law 847 = .ok (.iload_n 3, 1) := by decide +kernel
theorem dL_law_848 : decode cL_law 848 = .ok (.iconst 1, 1) := by decide +kernel
theorem dL_law_849 : decode cL_law 849 = .ok (.iadd, 1) := by decide +kernel
theorem dL_law_850 : decode cL_law 850 = .ok (.iaload, 1) := by decide +kernel
theorem dL_law_851 : decode cL_law 851 = .ok (.aload_n 0, 1) := by decide +kernel
theorem dL_law_852 : decode cL_law 852 = .ok (.iload_n 3, 1) := by decide +kernel
theorem dL_law_853 : decode cL_law 853 = .ok (.iconst 2, 1) := by decide +kernel
theorem dL_law_854 : decode cL_law 854 = .ok (.iadd, 1) := by decide +kernel
theorem dL_law_855 : decode cL_law 855 = .ok (.iaload, 1) := by decide +kernel
theorem dL_law_856 : decode cL_law 856 = .ok (.aload_n 0, 1) := by decide +kernel
theorem dL_law_857 : decode cL_law 857 = .ok (.iload_n 3, 1) := by decide +kernel
theorem dL_law_858 : decode cL_law 858 = .ok (.iconst 3, 1) := by decide +kernel
theorem dL_law_859 : decode cL_law 859 = .ok (.iadd, 1) := by decide +kernel
theorem dL_law_860 : decode cL_law 860 = .ok (.iaload, 1) := by decide +kernel
theorem dL_law_861 : decode cL_law 861 = .ok (.invokevirtual 90, 3) := by decide +kernel
theorem dL_law_864 : decode cL_law 864 = .ok (.if_icmp .eq 306, 3) := by decide +kernel
theorem dL_law_867 : decode cL_law 867 = .ok (.iconst 0, 1) := by decide +kernel
theorem dL_law_868 : decode cL_law 868 = .ok (.ireturn, 1) := by decide +kernel
theorem dL_law_869 : decode cL_law 869 = .ok (.aload_n 1, 1) := by decide +kernel
theorem dL_law_870 : decode cL_law 870 = .ok (.aload_n 0, 1) := by decide +kernel
theorem dL_law_871 : decode cL_law 871 = .ok (.iload_n 3, 1) := by decide +kernel
theorem dL_law_872 : decode cL_law 872 = .ok (.iconst 1, 1) := by decide +kernel
theorem dL_law_873 : decode cL_law 873 = .ok (.iadd, 1) := by decide +kernel
theorem dL_law_874 : decode cL_law 874 = .ok (.iaload, 1) := by decide +kernel
theorem dL_law_875 : decode cL_law 875 = .ok (.invokevirtual 91, 3) := by decide +kernel
theorem dL_law_878 : decode cL_law 878 = .ok (.aload_n 2, 1) := by decide +kernel
theorem dL_law_879 : decode cL_law 879 = .ok (.aload_n 0, 1) := by decide +kernel
theorem dL_law_880 : decode cL_law 880 = .ok (.iload_n 3, 1) := by decide +kernel
theorem dL_law_881 : decode cL_law 881 = .ok (.iconst 1, 1) := by decide +kernel
theorem dL_law_882 : decode cL_law 882 = .ok (.iadd, 1) := by decide +kernel
theorem dL_law_883 : decode cL_law 883 = .ok (.iaload, 1) := by decide +kernel
theorem dL_law_884 : decode cL_law 884 = .ok (.invokevirtual 94, 3) := by decide +kernel
theorem dL_law_887 : decode cL_law 887 = .ok (.if_icmp .eq 283, 3) := by decide +kernel
theorem dL_law_890 : decode cL_law 890 = .ok (.iconst 0, 1) := by decide +kernel
theorem dL_law_891 : decode cL_law 891 = .ok (.ireturn, 1) := by decide +kernel
theorem dL_law_892 : decode cL_law 892 = .ok (.aload_n 1, 1) := by decide +kernel
theorem dL_law_893 : decode cL_law 893 = .ok (.aload_n 0, 1) := by decide +kernel
theorem dL_law_894 : decode cL_law 894 = .ok (.iload_n 3, 1) := by decide +kernel
theorem dL_law_895 : decode cL_law 895 = .ok (.iconst 1, 1) := by decide +kernel
theorem dL_law_896 : decode cL_law 896 = .ok (.iadd, 1) := by decide +kernel
theorem dL_law_897 : decode cL_law 897 = .ok (.iaload, 1) := by decide +kernel
theorem dL_law_898 : decode cL_law 898 = .ok (.aload_n 0, 1) := by decide +kernel
theorem dL_law_899 : decode cL_law 899 = .ok (.iload_n 3, 1) := by decide +kernel
theorem dL_law_900 : decode cL_law 900 = .ok (.iconst 2, 1) := by decide +kernel
theorem dL_law_901 : decode cL_law 901 = .ok (.iadd, 1) := by decide +kernel
theorem dL_law_902 : decode cL_law 902 = .ok (.iaload, 1) := by decide +kernel
theorem dL_law_903 : decode cL_law 903 = .ok (.aload_n 0, 1) := by decide +kernel
theorem dL_law_904 : decode cL_law 904 = .ok (.iload_n 3, 1) := by decide +kernel
theorem dL_law_905 : decode cL_law 905 = .ok (.iconst 3, 1) := by decide +kernel
theorem dL_law_906 : decode cL_law 906 = .ok (.iadd, 1) := by decide +kernel
theorem dL_law_907 : decode cL_law 907 = .ok (.iaload, 1) := by decide +kernel
theorem dL_law_908 : decode cL_law 908 = .ok (.invokevirtual 95, 3) := by decide +kernel
theorem dL_law_911 : decode cL_law 911 = .ok (.aload_n 2, 1) := by decide +kernel
theorem dL_law_912 : decode cL_law 912 = .ok (.aload_n 0, 1) := by decide +kernel
theorem dL_law_913 : decode cL_law 913 = .ok (.iload_n 3, 1) := by decide +kernel
theorem dL_law_914 : decode cL_law 914 = .ok (.iconst 1, 1) := by decide +kernel
theorem dL_law_915 : decode cL_law 915 = .ok (.iadd, 1) := by decide +kernel
theorem dL_law_916 : decode cL_law 916 = .ok (.iaload, 1) := by decide +kernel
theorem dL_law_917 : decode cL_law 917 = .ok (.aload_n 0, 1) := by decide +kernel
theorem dL_law_918 : decode cL_law 918 = .ok (.iload_n 3, 1) := by decide +kernel
theorem dL_law_919 : decode cL_law 919 = .ok (.iconst 2, 1) := by decide +kernel
theorem dL_law_920 : decode cL_law 920 = .ok (.iadd, 1) := by decide +kernel
theorem dL_law_921 : decode cL_law 921 = .ok (.iaload, 1) := by decide +kernel
theorem dL_law_922 : decode cL_law 922 = .ok (.aload_n 0, 1) := by decide +kernel
theorem dL_law_923 : decode cL_law 923 = .ok (.iload_n 3, 1) := by decide +kernel
theorem dL_law_924 : decode cL_law 924 = .ok (.iconst 3, 1) := by decide +kernel
theorem dL_law_925 : decode cL_law 925 = .ok (.iadd, 1) := by decide +kernel
theorem dL_law_926 : decode cL_law 926 = .ok (.iaload, 1) := by decide +kernel
theorem dL_law_927 : decode cL_law 927 = .ok (.invokevirtual 98, 3) := by decide +kernel
theorem dL_law_930 : decode cL_law 930 = .ok (.if_icmp .eq 240, 3) := by decide +kernel
theorem dL_law_933 : decode cL_law 933 = .ok (.iconst 0, 1) := by decide +kernel
theorem dL_law_934 : decode cL_law 934 = .ok (.ireturn, 1) := by decide +kernel
theorem dL_law_935 : decode cL_law 935 = .ok (.aload_n 1, 1) := by decide +kernel
theorem dL_law_936 : decode cL_law 936 = .ok (.aload_n 0, 1) := by decide +kernel
theorem dL_law_937 : decode cL_law 937 = .ok (.iload_n 3, 1) := by decide +kernel
theorem dL_law_938 : decode cL_law 938 = .ok (.iconst 1, 1) := by decide +kernel
theorem dL_law_939 : decode cL_law 939 = .ok (.iadd, 1) := by decide +kernel
theorem dL_law_940 : decode cL_law 940 = .ok (.iaload, 1) := by decide +kernel
theorem dL_law_941 : decode cL_law 941 = .ok (.aload_n 0, 1) := by decide +kernel
theorem dL_law_942 : decode cL_law 942 = .ok (.iload_n 3, 1) := by decide +kernel
theorem dL_law_943 : decode cL_law 943 = .ok (.iconst 2, 1) := by decide +kernel
theorem dL_law_944 : decode cL_law 944 = .ok (.iadd, 1) := by decide +kernel
theorem dL_law_945 : decode cL_law 945 = .ok (.iaload, 1) := by decide +kernel
theorem dL_law_946 : decode cL_law 946 = .ok (.aload_n 0, 1) := by decide +kernel
theorem dL_law_947 : decode cL_law 947 = .ok (.iload_n 3, 1) := by decide +kernel
theorem dL_law_948 : decode cL_law 948 = .ok (.iconst 3, 1) := by decide +kernel
theorem dL_law_949 : decode cL_law 949 = .ok (.iadd, 1) := by decide +kernel
theorem dL_law_950 : decode cL_law 950 = .ok (.iaload, 1) := by decide +kernel
theorem dL_law_951 : decode cL_law 951 = .ok (.invokevirtual 99, 3) := by decide +kernel
theorem dL_law_954 : decode cL_law 954 = .ok (.aload_n 2, 1) := by decide +kernel
theorem dL_law_955 : decode cL_law 955 = .ok (.aload_n 0, 1) := by decide +kernel
theorem dL_law_956 : decode cL_law 956 = .ok (.iload_n 3, 1) := by decide +kernel
theorem dL_law_957 : decode cL_law 957 = .ok (.iconst 1, 1) := by decide +kernel
theorem dL_law_958 : decode cL_law 958 = .ok (.iadd, 1) := by decide +kernel
theorem dL_law_959 : decode cL_law 959 = .ok (.iaload, 1) := by decide +kernel
theorem dL_law_960 : decode cL_law 960 = .ok (.aload_n 0, 1) := by decide +kernel
theorem dL_law_961 : decode cL_law 961 = .ok (.iload_n 3, 1) := by decide +kernel
theorem dL_law_962 : decode cL_law 962 = .ok (.iconst 2, 1) := by decide +kernel
theorem dL_law_963 : decode cL_law 963 = .ok (.iadd, 1) := by decide +kernel
theorem dL_law_964 : decode cL_law 964 = .ok (.iaload, 1) := by decide +kernel
theorem dL_law_965 : decode cL_law 965 = .ok (.aload_n 0, 1) := by decide +kernel
theorem dL_law_966 : decode cL_law 966 = .ok (.iload_n 3, 1) := by decide +kernel
theorem dL_law_967 : decode cL_law 967 = .ok (.iconst 3, 1) := by decide +kernel
theorem dL_law_968 : decode cL_law 968 = .ok (.iadd, 1) := by decide +kernel
theorem dL_law_969 : decode cL_law 969 = .ok (.iaload, 1) := by decide +kernel
theorem dL_law_970 : decode cL_law 970 = .ok (.invokevirtual 103, 3) := by decide +kernel
theorem dL_law_973 : decode cL_law 973 = .ok (.lcmp, 1) := by decide +kernel
theorem dL_law_974 : decode cL_law 974 = .ok (.ifCond .eq 196, 3) := by decide +kernel
theorem dL_law_977 : decode cL_law 977 = .ok (.iconst 0, 1) := by decide +kernel
theorem dL_law_978 : decode cL_law 978 = .ok (.ireturn, 1) := by decide +kernel
theorem dL_law_979 : decode cL_law 979 = .ok (.aload_n 1, 1) := by decide +kernel
theorem dL_law_980 : decode cL_law 980 = .ok (.aload_n 0, 1) := by decide +kernel
theorem dL_law_981 : decode cL_law 981 = .ok (.iload_n 3, 1) := by decide +kernel
theorem dL_law_982 : decode cL_law 982 = .ok (.iconst 1, 1) := by decide +kernel
theorem dL_law_983 : decode cL_law 983 = .ok (.iadd, 1) := by decide +kernel
theorem dL_law_984 : decode cL_law 984 = .ok (.iaload, 1) := by decide +kernel
theorem dL_law_985 : decode cL_law 985 = .ok (.aload_n 0, 1) := by decide +kernel
theorem dL_law_986 : decode cL_law 986 = .ok (.iload_n 3, 1) := by decide +kernel
theorem dL_law_987 : decode cL_law 987 = .ok (.iconst 2, 1) := by decide +kernel
theorem dL_law_988 : decode cL_law 988 = .ok (.iadd, 1) := by decide +kernel
theorem dL_law_989 : decode cL_law 989 = .ok (.iaload, 1) := by decide +kernel
theorem dL_law_990 : decode cL_law 990 = .ok (.aload_n 0, 1) := by decide +kernel
theorem dL_law_991 : decode cL_law 991 = .ok (.iload_n 3, 1) := by decide +kernel
theorem dL_law_992 : decode cL_law 992 = .ok (.iconst 3, 1) := by decide +kernel
theorem dL_law_993 : decode cL_law 993 = .ok (.iadd, 1) := by decide +kernel
theorem dL_law_994 : decode cL_law 994 = .ok (.iaload, 1) := by decide +kernel
theorem dL_law_995 : decode cL_law 995 = .ok (.aload_n 0, 1) := by decide +kernel
theorem dL_law_996 : decode cL_law 996 = .ok (.iload_n 3, 1) := by decide +kernel
theorem dL_law_997 : decode cL_law 997 = .ok (.iconst 4, 1) := by decide +kernel
theorem dL_law_998 : decode cL_law 998 = .ok (.iadd, 1) := by decide +kernel
theorem dL_law_999 : decode cL_law 999 = .ok (.iaload, 1) := by decide +kernel
theorem dL_law_1000 : decode cL_law 1000 = .ok (.aload_n 0, 1) := by decide +kernel
theorem dL_law_1001 : decode cL_law 1001 = .ok (.iload_n 3, 1) := by decide +kernel
theorem dL_law_1002 : decode cL_law 1002 = .ok (.iconst 5, 1) := by decide +kernel
theorem dL_law_1003 : decode cL_law 1003 = .ok (.iadd, 1) := by decide +kernel
theorem dL_law_1004 : decode cL_law 1004 = .ok (.iaload, 1) := by decide +kernel
theorem dL_law_1005 : decode cL_law 1005 = .ok (.invokevirtual 104, 3) := by decide +kernel
theorem dL_law_1008 : decode cL_law 1008 = .ok (.aload_n 2, 1) := by decide +kernel
theorem dL_law_1009 : decode cL_law 1009 = .ok (.aload_n 0, 1) := by decide +kernel
theorem dL_law_1010 : decode cL_law 1010 = .ok (.iload_n 3, 1) := by decide +kernel
theorem dL_law_1011 : decode cL_law 1011 = .ok (.iconst 1, 1) := by decide +kernel
theorem dL_law_1012 : decode cL_law 1012 = .ok (.iadd, 1) := by decide +kernel
theorem dL_law_1013 : decode cL_law 1013 = .ok (.iaload, 1) := by decide +kernel
theorem dL_law_1014 : decode cL_law 1014 = .ok (.aload_n 0, 1) := by decide +kernel
theorem dL_law_1015 : decode cL_law 1015 = .ok (.iload_n 3, 1) := by decide +kernel
theorem dL_law_1016 : decode cL_law 1016 = .ok (.iconst 2, 1) := by decide +kernel
theorem dL_law_1017 : decode cL_law 1017 = .ok (.iadd, 1) := by decide +kernel
theorem dL_law_1018 : decode cL_law 1018 = .ok (.iaload, 1) := by decide +kernel
theorem dL_law_1019 : decode cL_law 1019 = .ok (.aload_n 0, 1) := by decide +kernel
theorem dL_law_1020 : decode cL_law 1020 = .ok (.iload_n 3, 1) := by decide +kernel
theorem dL_law_1021 : decode cL_law 1021 = .ok (.iconst 3, 1) := by decide +kernel
theorem dL_law_1022 : decode cL_law 1022 = .ok (.iadd, 1) := by decide +kernel
theorem dL_law_1023 : decode cL_law 1023 = .ok (.iaload, 1) := by decide +kernel
theorem dL_law_1024 : decode cL_law 1024 = .ok (.aload_n 0, 1) := by decide +kernel
theorem dL_law_1025 : decode cL_law 1025 = .ok (.iload_n 3, 1) := by decide +kernel
theorem dL_law_1026 : decode cL_law 1026 = .ok (.iconst 4, 1) := by decide +kernel
theorem dL_law_1027 : decode cL_law 1027 = .ok (.iadd, 1) := by decide +kernel
theorem dL_law_1028 : decode cL_law 1028 = .ok (.iaload, 1) := by decide +kernel
theorem dL_law_1029 : decode cL_law 1029 = .ok (.aload_n 0, 1) := by decide +kernel
theorem dL_law_1030 : decode cL_law 1030 = .ok (.iload_n 3, 1) := by decide +kernel
theorem dL_law_1031 : decode cL_law 1031 = .ok (.iconst 5, 1) := by decide +kernel
theorem dL_law_1032 : decode cL_law 1032 = .ok (.iadd, 1) := by decide +kernel
theorem dL_law_1033 : decode cL_law 1033 = .ok (.iaload, 1) := by decide +kernel
theorem dL_law_1034 : decode cL_law 1034 = .ok (.invokevirtual 108, 3) := by decide +kernel
theorem dL_law_1037 : decode cL_law 1037 = .ok (.if_icmp .eq 133, 3) := by decide +kernel
theorem dL_law_1040 : decode cL_law 1040 = .ok (.iconst 0, 1) := by decide +kernel
theorem dL_law_1041 : decode cL_law 1041 = .ok (.ireturn, 1) := by decide +kernel
theorem dL_law_1042 : decode cL_law 1042 = .ok (.aload_n 1, 1) := by decide +kernel
theorem dL_law_1043 : decode cL_law 1043 = .ok (.aload_n 0, 1) := by decide +kernel
theorem dL_law_1044 : decode cL_law 1044 = .ok (.iload_n 3, 1) := by decide +kernel
theorem dL_law_1045 : decode cL_law 1045 = .ok (.iconst 1, 1) := by decide +kernel
theorem dL_law_1046 : decode cL_law 1046 = .ok (.iadd, 1) := by decide +kernel
theorem dL_law_1047 : decode cL_law 1047 = .ok (.iaload, 1) := by decide +kernel
theorem dL_law_1048 : decode cL_law 1048 = .ok (.invokevirtual 109, 3) := by decide +kernel
theorem dL_law_1051 : decode cL_law 1051 = .ok (.aload_n 2, 1) := by decide +kernel
theorem dL_law_1052 : decode cL_law 1052 = .ok (.aload_n 0, 1) := by decide +kernel
theorem dL_law_1053 : decode cL_law 1053 = .ok (.iload_n 3, 1) := by decide +kernel
theorem dL_law_1054 : decode cL_law 1054 = .ok (.iconst 1, 1) := by decide +kernel
theorem dL_law_1055 : decode cL_law 1055 = .ok (.iadd, 1) := by decide +kernel
theorem dL_law_1056 : decode cL_law 1056 = .ok (.iaload, 1) := by decide +kernel
theorem dL_law_1057 : decode cL_law 1057 = .ok (.invokevirtual 112, 3) := by decide +kernel
theorem dL_law_1060 : decode cL_law 1060 = .ok (.if_icmp .eq 110, 3) := by decide +kernel
theorem dL_law_1063 : decode cL_law 1063 = .ok (.iconst 0, 1) := by decide +kernel
theorem dL_law_1064 : decode cL_law 1064 = .ok (.ireturn, 1) := by decide +kernel
theorem dL_law_1065 : decode cL_law 1065 = .ok (.aload_n 1, 1) := by decide +kernel
theorem dL_law_1066 : decode cL_law 1066 = .ok (.aload_n 0, 1) := by decide +kernel
theorem dL_law_1067 : decode cL_law 1067 = .ok (.iload_n 3, 1) := by decide +kernel
theorem dL_law_1068 : decode cL_law 1068 = .ok (.iconst 1, 1) := by decide +kernel
theorem dL_law_1069 : decode cL_law 1069 = .ok (.iadd, 1) := by decide +kernel
theorem dL_law_1070 : decode cL_law 1070 = .ok (.iaload, 1) := by decide +kernel
theorem dL_law_1071 : decode cL_law 1071 = .ok (.invokevirtual 113, 3) := by decide +kernel
theorem dL_law_1074 : decode cL_law 1074 = .ok (.aload_n 2, 1) := by decide +kernel
theorem dL_law_1075 : decode cL_law 1075 = .ok (.aload_n 0, 1) := by decide +kernel
theorem dL_law_1076 : decode cL_law 1076 = .ok (.iload_n 3, 1) := by decide +kernel
theorem dL_law_1077 : decode cL_law 1077 = .ok (.iconst 1, 1) := by decide +kernel
theorem dL_law_1078 : decode cL_law 1078 = .ok (.iadd, 1) := by decide +kernel
theorem dL_law_1079 : decode cL_law 1079 = .ok (.iaload, 1) := by decide +kernel
theorem dL_law_1080 : decode cL_law 1080 = .ok (.invokevirtual 116, 3) := by decide +kernel
theorem dL_law_1083 : decode cL_law 1083 = .ok (.if_icmp .eq 87, 3) := by decide +kernel
theorem dL_law_1086 : decode cL_law 1086 = .ok (.iconst 0, 1) := by decide +kernel
theorem dL_law_1087 : decode cL_law 1087 = .ok (.ireturn, 1) := by decide +kernel
theorem dL_law_1088 : decode cL_law 1088 = .ok (.aload_n 1, 1) := by decide +kernel
theorem dL_law_1089 : decode cL_law 1089 = .ok (.aload_n 0, 1) := by decide +kernel
theorem dL_law_1090 : decode cL_law 1090 = .ok (.iload_n 3, 1) := by decide +kernel
theorem dL_law_1091 : decode cL_law 1091 = .ok (.iconst 1, 1) := by decide +kernel
theorem dL_law_1092 : decode cL_law 1092 = .ok (.iadd, 1) := by decide +kernel
theorem dL_law_1093 : decode cL_law 1093 = .ok (.iaload, 1) := by decide +kernel
theorem dL_law_1094 : decode cL_law 1094 = .ok (.aload_n 0, 1) := by decide +kernel
theorem dL_law_1095 : decode cL_law 1095 = .ok (.iload_n 3, 1) := by decide +kernel
theorem dL_law_1096 : decode cL_law 1096 = .ok (.iconst 2, 1) := by decide +kernel
theorem dL_law_1097 : decode cL_law 1097 = .ok (.iadd, 1) := by decide +kernel
theorem dL_law_1098 : decode cL_law 1098 = .ok (.iaload, 1) := by decide +kernel
theorem dL_law_1099 : decode cL_law 1099 = .ok (.invokevirtual 117, 3) := by decide +kernel
theorem dL_law_1102 : decode cL_law 1102 = .ok (.aload_n 2, 1) := by decide +kernel
theorem dL_law_1103 : decode cL_law 1103 = .ok (.aload_n 0, 1) := by decide +kernel
theorem dL_law_1104 : decode cL_law 1104 = .ok (.iload_n 3, 1) := by decide +kernel
theorem dL_law_1105 : decode cL_law 1105 = .ok (.iconst 1, 1) := by decide +kernel
theorem dL_law_1106 : decode cL_law 1106 = .ok (.iadd, 1) := by decide +kernel
theorem dL_law_1107 : decode cL_law 1107 = .ok (.iaload, 1) := by decide +kernel
theorem dL_law_1108 : decode cL_law 1108 = .ok (.aload_n 0, 1) := by decide +kernel
theorem dL_law_1109 : decode cL_law 1109 = .ok (.iload_n 3, 1) := by decide +kernel
theorem dL_law_1110 : decode cL_law 1110 = .ok (.iconst 2, 1) := by decide +kernel
theorem dL_law_1111 : decode cL_law 1111 = .ok (.iadd, 1) := by decide +kernel
theorem dL_law_1112 : decode cL_law 1112 = .ok (.iaload, 1) := by decide +kernel
theorem dL_law_1113 : decode cL_law 1113 = .ok (.invokevirtual 120, 3) := by decide +kernel
theorem dL_law_1116 : decode cL_law 1116 = .ok (.if_icmp .eq 54, 3) := by decide +kernel
theorem dL_law_1119 : decode cL_law 1119 = .ok (.iconst 0, 1) := by decide +kernel
theorem dL_law_1120 : decode cL_law 1120 = .ok (.ireturn, 1) := by decide +kernel
theorem dL_law_1121 : decode cL_law 1121 = .ok (.aload_n 1, 1) := by decide +kernel
theorem dL_law_1122 : decode cL_law 1122 = .ok (.invokevirtual 121, 3) := by decide +kernel
theorem dL_law_1125 : decode cL_law 1125 = .ok (.aload_n 2, 1) := by decide +kernel
theorem dL_law_1126 : decode cL_law 1126 = .ok (.invokevirtual 125, 3) := by decide +kernel
theorem dL_law_1129 : decode cL_law 1129 = .ok (.if_icmp .eq 41, 3) := by decide +kernel
theorem dL_law_1132 : decode cL_law 1132 = .ok (.iconst 0, 1) := by decide +kernel
theorem dL_law_1133 : decode cL_law 1133 = .ok (.ireturn, 1) := by decide +kernel
theorem dL_law_1134 : decode cL_law 1134 = .ok (.aload_n 1, 1) := by decide +kernel
theorem dL_law_1135 : decode cL_law 1135 = .ok (.invokevirtual 126, 3) := by decide +kernel
theorem dL_law_1138 : decode cL_law 1138 = .ok (.aload_n 2, 1) := by decide +kernel
theorem dL_law_1139 : decode cL_law 1139 = .ok (.invokevirtual 129, 3) := by decide +kernel
theorem dL_law_1142 : decode cL_law 1142 = .ok (.if_icmp .eq 28, 3) := by decide +kernel
theorem dL_law_1145 : decode cL_law 1145 = .ok (.iconst 0, 1) := by decide +kernel
theorem dL_law_1146 : decode cL_law 1146 = .ok (.ireturn, 1) := by decide +kernel
theorem dL_law_1147 : decode cL_law 1147 = .ok (.aload_n 1, 1) := by decide +kernel
theorem dL_law_1148 : decode cL_law 1148 = .ok (.aload_n 0, 1) := by decide +kernel
theorem dL_law_1149 : decode cL_law 1149 = .ok (.iload_n 3, 1) := by decide +kernel
theorem dL_law_1150 : decode cL_law 1150 = .ok (.iconst 1, 1) := by decide +kernel
theorem dL_law_1151 : decode cL_law 1151 = .ok (.iadd, 1) := by decide +kernel
theorem dL_law_1152 : decode cL_law 1152 = .ok (.iaload, 1) := by decide +kernel
theorem dL_law_1153 : decode cL_law 1153 = .ok (.invokevirtual 130, 3) := by decide +kernel
theorem dL_law_1156 : decode cL_law 1156 = .ok (.aload_n 2, 1) := by decide +kernel
theorem dL_law_1157 : decode cL_law 1157 = .ok (.aload_n 0, 1) := by decide +kernel
theorem dL_law_1158 : decode cL_law 1158 = .ok (.iload_n 3, 1) := by decide +kernel
theorem dL_law_1159 : decode cL_law 1159 = .ok (.iconst 1, 1) := by decide +kernel
theorem dL_law_1160 : decode cL_law 1160 = .ok (.iadd, 1) := by decide +kernel
theorem dL_law_1161 : decode cL_law 1161 = .ok (.iaload, 1) := by decide +kernel
theorem dL_law_1162 : decode cL_law 1162 = .ok (.invokevirtual 133, 3) := by decide +kernel
theorem dL_law_1165 : decode cL_law 1165 = .ok (.if_icmp .eq 5, 3) := by decide +kernel
theorem dL_law_1168 : decode cL_law 1168 = .ok (.iconst 0, 1) := by decide +kernel
theorem dL_law_1169 : decode cL_law 1169 = .ok (.ireturn, 1) := by decide +kernel
theorem dL_law_1170 : decode cL_law 1170 = .ok (.iinc 3 8, 3) := by decide +kernel
theorem dL_law_1173 : decode cL_law 1173 = .ok (.goto (-1155), 3) := by decide +kernel
theorem dL_law_1176 : decode cL_law 1176 = .ok (.iconst 1, 1) := by decide +kernel
theorem dL_law_1177 : decode cL_law 1177 = .ok (.ireturn, 1) := by decide +kernel
end
section
/-- the tables' words that hold in every state later on -/
def lw_good : List Cond := lw_tbl.filter goodWord
theorem gd_in {x : Cond} (i : Nat) (h : lw_tbl[i]? = some x) (hg : goodWord x = true) : x ∈ lw_good := List.mem_filter.mpr ⟨List.mem_of_getElem? h, hg⟩
/-- the class's static table of sets -/
def tSW : Nat → Int64 := fun j => match j with
  | 0 => -6148914691236517206
  | 1 => -3689348814741910324
  | 2 => -1085102592571150096
  | 3 => -71777214294589696
  | 4 => -281470681808896
  | _ => -4294967296
/-! the judgement: at pc, with these locals and this stack, over every heap that holds the world of S -/
def XW {σ : Type} (p : Program) (l : Launch) (e : Env) (R : Room) (s : State) (m : MethodId) (args : Array Value) (below : List Frame) (meth : Method) (c : Code) (nL cells slots : Nat) (A : Nat → Prop) (D : va_G) (Q : State → Prop) (w : σ → va_W) (S : σ) (pc : Nat) (lv : List (Nat × Value)) (st : List Value) : Prop :=
  ∀ (H : Heap) (locs : List Loc) (ls : Array Slot), va_P D vwCl (w S) H → va_D A (w S) → va_S A s.heap H locs → lv_has ls nL lv → W p l e R s m args below meth c H locs cells slots Q (F0 m pc ls st)
/-- what holds of the machine, the code and the tables in a body -/
def xC (p : Program) (s : State) (m : MethodId) (args : Array Value) (meth : Method) (c : Code) (own : String) (cc : ByteArray) (nL : Nat) (ret : Option FieldType) : Prop :=
  p.tables.exec = Jvm.exec ∧ c.code = cc ∧ c.maxLocals = nL ∧ s.vm.findClass own = some m.cls ∧ (∀ w ∈ lw_good, w.before args s = true) ∧ meth.sig.returnType = ret ∧ meth.locks = false
def rmk (f k : Nat) : Room := { frames := f, cells := 0, slots := 0, locals := k }
/-- the static table, if a method needs it -/
def zS (t : Option Nat) (A : Nat → Prop) (U : State) (H : Heap) : Prop := match t with
  | none => True
  | some t => va_Z RX2 "SETS_WITH" "[J" (.ref t) A U H ∧ va_T .long t 6 (fun j => .long (tSW j)) A U H
theorem zS.moved {t : Option Nat} {A : Nat → Prop} {u U : State} {H : Heap} (hvm : u.vm.Alike U.vm) (h : zS t A u H) : zS t A U H := by
  cases t with
  | none => trivial
  | some t => exact ⟨h.1.moved hvm, h.2.moved hvm⟩
theorem zS.kept {t : Option Nat} {A : Nat → Prop} {U : State} {H H1 : Heap} (h : zS t A U H) (hq : ∀ a : Nat, a < H.size → ¬ A a → H1[a]? = H[a]?) : zS t A U H1 := by
  cases t with
  | none => trivial
  | some t => exact ⟨h.1.kept hq, h.2.kept hq⟩
theorem zS.narrow {t : Option Nat} {A B : Nat → Prop} {U : State} {H : Heap} (h : zS t A U H) (hAB : ∀ q, B q → A q) : zS t B U H := by
  cases t with
  | none => trivial
  | some t => exact ⟨h.1.narrow hAB, h.2.narrow hAB⟩
section HDF
variable {p : Program} {l : Launch} {e : Env} {R : Room} {s : State} {m : MethodId} {args : Array Value} {below : List Frame} {meth : Method} {c : Code} {own : String} {cc : ByteArray} {nL : Nat} {ret : Option FieldType} {cells slots : Nat} {A : Nat → Prop} {D : va_G} {tys : List (ClassId × FieldType)} {Q : State → Prop} {σ : Type} {w : σ → va_W} {S : σ} {pc : Nat} {lv : List (Nat × Value)} {st : List Value}

theorem hd_iconst {z : Int} (n : Nat) (C : xC p s m args meth c own cc nL ret) (d : decode cc pc = .ok (.iconst z, 1)) (hn : pc + 1 = n) (v : Int32) (hv : Int32.ofInt z = v) (k : XW p l e R s m args below meth c nL cells slots A D Q w S n lv (.int v :: st)) : XW p l e R s m args below meth c nL cells slots A D Q w S pc lv st := by
  subst hn
  exact fun H locs ls h1 h2 h3 hl => lv_iconst C.1 C.2.1 d hv (k H locs ls h1 h2 h3 hl)
theorem hd_bipush {z : Int} (n : Nat) (C : xC p s m args meth c own cc nL ret) (d : decode cc pc = .ok (.bipush z, 2)) (hn : pc + 2 = n) (v : Int32) (hv : (Int8.ofInt z).toInt32 = v) (k : XW p l e R s m args below meth c nL cells slots A D Q w S n lv (.int v :: st)) : XW p l e R s m args below meth c nL cells slots A D Q w S pc lv st := by
  subst hn
  exact fun H locs ls h1 h2 h3 hl => lv_bipush C.1 C.2.1 d hv (k H locs ls h1 h2 h3 hl)
theorem hd_sipush {z : Int} (n : Nat) (C : xC p s m args meth c own cc nL ret) (d : decode cc pc = .ok (.sipush z, 3)) (hn : pc + 3 = n) (v : Int32) (hv : (Int16.ofInt z).toInt32 = v) (k : XW p l e R s m args below meth c nL cells slots A D Q w S n lv (.int v :: st)) : XW p l e R s m args below meth c nL cells slots A D Q w S pc lv st := by
  subst hn
  exact fun H locs ls h1 h2 h3 hl => lv_sipush C.1 C.2.1 d hv (k H locs ls h1 h2 h3 hl)
theorem hd_lconst {z : Fin 2} (n : Nat) (C : xC p s m args meth c own cc nL ret) (d : decode cc pc = .ok (.lconst z, 1)) (hn : pc + 1 = n) (v : Int64) (hv : Int64.ofNat (z : Nat) = v) (k : XW p l e R s m args below meth c nL cells slots A D Q w S n lv (.long v :: st)) : XW p l e R s m args below meth c nL cells slots A D Q w S pc lv st := by
  subst hn
  exact fun H locs ls h1 h2 h3 hl => lv_lconst C.1 C.2.1 d hv (k H locs ls h1 h2 h3 hl)
theorem hd_iload_n {z : Fin 4} {i : Nat} {x : Int32} (n : Nat) (C : xC p s m args meth c own cc nL ret) (d : decode cc pc = .ok (.iload_n z, 1)) (hn : pc + 1 = n) (q : Nat) (hi : (z : Nat) = i) (hq : lv[q]? = some (i, .int x)) (k : XW p l e R s m args below meth c nL cells slots A D Q w S n lv (.int x :: st)) : XW p l e R s m args below meth c nL cells slots A D Q w S pc lv st := by
  subst hn
  exact fun H locs ls h1 h2 h3 hl => lv_iload_n C.1 C.2.1 d hi (lv_at hl q hq) (k H locs ls h1 h2 h3 hl)
theorem hd_iload {i : Nat} {x : Int32} (n : Nat) (C : xC p s m args meth c own cc nL ret) (d : decode cc pc = .ok (.iload i, 2)) (hn : pc + 2 = n) (q : Nat) (hq : lv[q]? = some (i, .int x)) (k : XW p l e R s m args below meth c nL cells slots A D Q w S n lv (.int x :: st)) : XW p l e R s m args below meth c nL cells slots A D Q w S pc lv st := by
  subst hn
  exact fun H locs ls h1 h2 h3 hl => lv_iload C.1 C.2.1 d (lv_at hl q hq) (k H locs ls h1 h2 h3 hl)
theorem hd_lload_n {z : Fin 4} {i : Nat} {x : Int64} (n : Nat) (C : xC p s m args meth c own cc nL ret) (d : decode cc pc = .ok (.lload_n z, 1)) (hn : pc + 1 = n) (q : Nat) (hi : (z : Nat) = i) (hq : lv[q]? = some (i, .long x)) (k : XW p l e R s m args below meth c nL cells slots A D Q w S n lv (.long x :: st)) : XW p l e R s m args below meth c nL cells slots A D Q w S pc lv st := by
  subst hn
  exact fun H locs ls h1 h2 h3 hl => lv_lload_n C.1 C.2.1 d hi (lv_at hl q hq) (k H locs ls h1 h2 h3 hl)
theorem hd_lload {i : Nat} {x : Int64} (n : Nat) (C : xC p s m args meth c own cc nL ret) (d : decode cc pc = .ok (.lload i, 2)) (hn : pc + 2 = n) (q : Nat) (hq : lv[q]? = some (i, .long x)) (k : XW p l e R s m args below meth c nL cells slots A D Q w S n lv (.long x :: st)) : XW p l e R s m args below meth c nL cells slots A D Q w S pc lv st := by
  subst hn
  exact fun H locs ls h1 h2 h3 hl => lv_lload C.1 C.2.1 d (lv_at hl q hq) (k H locs ls h1 h2 h3 hl)
theorem hd_aload_n {z : Fin 4} {i : Nat} {x : Nat} (n : Nat) (C : xC p s m args meth c own cc nL ret) (d : decode cc pc = .ok (.aload_n z, 1)) (hn : pc + 1 = n) (q : Nat) (hi : (z : Nat) = i) (hq : lv[q]? = some (i, .ref x)) (k : XW p l e R s m args below meth c nL cells slots A D Q w S n lv (.ref x :: st)) : XW p l e R s m args below meth c nL cells slots A D Q w S pc lv st := by
  subst hn
  exact fun H locs ls h1 h2 h3 hl => lv_aload_n C.1 C.2.1 d hi (lv_at hl q hq) (k H locs ls h1 h2 h3 hl)
theorem hd_aload {i : Nat} {x : Nat} (n : Nat) (C : xC p s m args meth c own cc nL ret) (d : decode cc pc = .ok (.aload i, 2)) (hn : pc + 2 = n) (q : Nat) (hq : lv[q]? = some (i, .ref x)) (k : XW p l e R s m args below meth c nL cells slots A D Q w S n lv (.ref x :: st)) : XW p l e R s m args below meth c nL cells slots A D Q w S pc lv st := by
  subst hn
  exact fun H locs ls h1 h2 h3 hl => lv_aload C.1 C.2.1 d (lv_at hl q hq) (k H locs ls h1 h2 h3 hl)
theorem hd_istore_n {z : Fin 4} {i : Nat} {x : Int32} (n : Nat) (C : xC p s m args meth c own cc nL ret) (d : decode cc pc = .ok (.istore_n z, 1)) (hn : pc + 1 = n) (lv' : List (Nat × Value)) (hi : (z : Nat) = i) (hlt : i < nL) (hl' : (i, Value.int x) :: lv.filter (fun q => !(q.1 == i) && !(q.1 + 1 == i && q.2.category == 2)) = lv') (k : XW p l e R s m args below meth c nL cells slots A D Q w S n lv' st) : XW p l e R s m args below meth c nL cells slots A D Q w S pc lv (.int x :: st) := by
  subst hn
  exact fun H locs ls h1 h2 h3 hl => lv_istore_n C.1 C.2.1 d hi hl hlt hl' (fun ls' hl'' => k H locs ls' h1 h2 h3 hl'')
theorem hd_istore {i : Nat} {x : Int32} (n : Nat) (C : xC p s m args meth c own cc nL ret) (d : decode cc pc = .ok (.istore i, 2)) (hn : pc + 2 = n) (lv' : List (Nat × Value))  (hlt : i < nL) (hl' : (i, Value.int x) :: lv.filter (fun q => !(q.1 == i) && !(q.1 + 1 == i && q.2.category == 2)) = lv') (k : XW p l e R s m args below meth c nL cells slots A D Q w S n lv' st) : XW p l e R s m args below meth c nL cells slots A D Q w S pc lv (.int x :: st) := by
  subst hn
  exact fun H locs ls h1 h2 h3 hl => lv_istore C.1 C.2.1 d  hl hlt hl' (fun ls' hl'' => k H locs ls' h1 h2 h3 hl'')
theorem hd_lstore_n {z : Fin 4} {i : Nat} {x : Int64} (n : Nat) (C : xC p s m args meth c own cc nL ret) (d : decode cc pc = .ok (.lstore_n z, 1)) (hn : pc + 1 = n) (lv' : List (Nat × Value)) (hi : (z : Nat) = i) (hlt : i + 1 < nL) (hl' : (i, Value.long x) :: lv.filter (fun q => !(q.1 == i) && (!(q.1 == i + 1) && !(q.1 + 1 == i && q.2.category == 2))) = lv') (k : XW p l e R s m args below meth c nL cells slots A D Q w S n lv' st) : XW p l e R s m args below meth c nL cells slots A D Q w S pc lv (.long x :: st) := by
  subst hn
  exact fun H locs ls h1 h2 h3 hl => lv_lstore_n C.1 C.2.1 d hi hl hlt hl' (fun ls' hl'' => k H locs ls' h1 h2 h3 hl'')
theorem hd_lstore {i : Nat} {x : Int64} (n : Nat) (C : xC p s m args meth c own cc nL ret) (d : decode cc pc = .ok (.lstore i, 2)) (hn : pc + 2 = n) (lv' : List (Nat × Value))  (hlt : i + 1 < nL) (hl' : (i, Value.long x) :: lv.filter (fun q => !(q.1 == i) && (!(q.1 == i + 1) && !(q.1 + 1 == i && q.2.category == 2))) = lv') (k : XW p l e R s m args below meth c nL cells slots A D Q w S n lv' st) : XW p l e R s m args below meth c nL cells slots A D Q w S pc lv (.long x :: st) := by
  subst hn
  exact fun H locs ls h1 h2 h3 hl => lv_lstore C.1 C.2.1 d  hl hlt hl' (fun ls' hl'' => k H locs ls' h1 h2 h3 hl'')
theorem hd_astore_n {z : Fin 4} {i : Nat} {x : Nat} (n : Nat) (C : xC p s m args meth c own cc nL ret) (d : decode cc pc = .ok (.astore_n z, 1)) (hn : pc + 1 = n) (lv' : List (Nat × Value)) (hi : (z : Nat) = i) (hlt : i < nL) (hl' : (i, Value.ref x) :: lv.filter (fun q => !(q.1 == i) && !(q.1 + 1 == i && q.2.category == 2)) = lv') (k : XW p l e R s m args below meth c nL cells slots A D Q w S n lv' st) : XW p l e R s m args below meth c nL cells slots A D Q w S pc lv (.ref x :: st) := by
  subst hn
  exact fun H locs ls h1 h2 h3 hl => lv_astore_n C.1 C.2.1 d hi hl hlt hl' (fun ls' hl'' => k H locs ls' h1 h2 h3 hl'')
theorem hd_astore {i : Nat} {x : Nat} (n : Nat) (C : xC p s m args meth c own cc nL ret) (d : decode cc pc = .ok (.astore i, 2)) (hn : pc + 2 = n) (lv' : List (Nat × Value))  (hlt : i < nL) (hl' : (i, Value.ref x) :: lv.filter (fun q => !(q.1 == i) && !(q.1 + 1 == i && q.2.category == 2)) = lv') (k : XW p l e R s m args below meth c nL cells slots A D Q w S n lv' st) : XW p l e R s m args below meth c nL cells slots A D Q w S pc lv (.ref x :: st) := by
  subst hn
  exact fun H locs ls h1 h2 h3 hl => lv_astore C.1 C.2.1 d  hl hlt hl' (fun ls' hl'' => k H locs ls' h1 h2 h3 hl'')
theorem hd_iinc {i : Nat} {z : Int} {x : Int32} (n : Nat) (C : xC p s m args meth c own cc nL ret) (d : decode cc pc = .ok (.iinc i z, 3)) (hn : pc + 3 = n) (q : Nat) (v : Int32) (lv' : List (Nat × Value)) (hq : lv[q]? = some (i, .int x)) (hv : x + Int32.ofInt z = v) (hlt : i < nL) (hl' : (i, Value.int v) :: lv.filter (fun q => !(q.1 == i) && !(q.1 + 1 == i && q.2.category == 2)) = lv') (k : XW p l e R s m args below meth c nL cells slots A D Q w S n lv' st) : XW p l e R s m args below meth c nL cells slots A D Q w S pc lv st := by
  subst hn
  exact fun H locs ls h1 h2 h3 hl => lv_iinc C.1 C.2.1 d hl hq hv hlt hl' (fun ls' hl'' => k H locs ls' h1 h2 h3 hl'')
theorem hd_iadd {x y : Int32} (n : Nat) (C : xC p s m args meth c own cc nL ret) (d : decode cc pc = .ok (.iadd, 1)) (hn : pc + 1 = n) (v : Int32) (hv : x + y = v) (k : XW p l e R s m args below meth c nL cells slots A D Q w S n lv (.int v :: st)) : XW p l e R s m args below meth c nL cells slots A D Q w S pc lv (.int y :: .int x :: st) := by
  subst hn; subst hv
  exact fun H locs ls h1 h2 h3 hl => lv_iadd C.1 C.2.1 d (k H locs ls h1 h2 h3 hl)
theorem hd_isub {x y : Int32} (n : Nat) (C : xC p s m args meth c own cc nL ret) (d : decode cc pc = .ok (.isub, 1)) (hn : pc + 1 = n) (v : Int32) (hv : x - y = v) (k : XW p l e R s m args below meth c nL cells slots A D Q w S n lv (.int v :: st)) : XW p l e R s m args below meth c nL cells slots A D Q w S pc lv (.int y :: .int x :: st) := by
  subst hn; subst hv
  exact fun H locs ls h1 h2 h3 hl => lv_isub C.1 C.2.1 d (k H locs ls h1 h2 h3 hl)
theorem hd_imul {x y : Int32} (n : Nat) (C : xC p s m args meth c own cc nL ret) (d : decode cc pc = .ok (.imul, 1)) (hn : pc + 1 = n) (v : Int32) (hv : x * y = v) (k : XW p l e R s m args below meth c nL cells slots A D Q w S n lv (.int v :: st)) : XW p l e R s m args below meth c nL cells slots A D Q w S pc lv (.int y :: .int x :: st) := by
  subst hn; subst hv
  exact fun H locs ls h1 h2 h3 hl => lv_imul C.1 C.2.1 d (k H locs ls h1 h2 h3 hl)
theorem hd_iand {x y : Int32} (n : Nat) (C : xC p s m args meth c own cc nL ret) (d : decode cc pc = .ok (.iand, 1)) (hn : pc + 1 = n) (v : Int32) (hv : x &&& y = v) (k : XW p l e R s m args below meth c nL cells slots A D Q w S n lv (.int v :: st)) : XW p l e R s m args below meth c nL cells slots A D Q w S pc lv (.int y :: .int x :: st) := by
  subst hn; subst hv
  exact fun H locs ls h1 h2 h3 hl => lv_iand C.1 C.2.1 d (k H locs ls h1 h2 h3 hl)
theorem hd_ior {x y : Int32} (n : Nat) (C : xC p s m args meth c own cc nL ret) (d : decode cc pc = .ok (.ior, 1)) (hn : pc + 1 = n) (v : Int32) (hv : x ||| y = v) (k : XW p l e R s m args below meth c nL cells slots A D Q w S n lv (.int v :: st)) : XW p l e R s m args below meth c nL cells slots A D Q w S pc lv (.int y :: .int x :: st) := by
  subst hn; subst hv
  exact fun H locs ls h1 h2 h3 hl => lv_ior C.1 C.2.1 d (k H locs ls h1 h2 h3 hl)
theorem hd_ixor {x y : Int32} (n : Nat) (C : xC p s m args meth c own cc nL ret) (d : decode cc pc = .ok (.ixor, 1)) (hn : pc + 1 = n) (v : Int32) (hv : x ^^^ y = v) (k : XW p l e R s m args below meth c nL cells slots A D Q w S n lv (.int v :: st)) : XW p l e R s m args below meth c nL cells slots A D Q w S pc lv (.int y :: .int x :: st) := by
  subst hn; subst hv
  exact fun H locs ls h1 h2 h3 hl => lv_ixor C.1 C.2.1 d (k H locs ls h1 h2 h3 hl)
theorem hd_ishl {x y : Int32} (n : Nat) (C : xC p s m args meth c own cc nL ret) (d : decode cc pc = .ok (.ishl, 1)) (hn : pc + 1 = n) (v : Int32) (hv : x <<< (y &&& 31) = v) (k : XW p l e R s m args below meth c nL cells slots A D Q w S n lv (.int v :: st)) : XW p l e R s m args below meth c nL cells slots A D Q w S pc lv (.int y :: .int x :: st) := by
  subst hn; subst hv
  exact fun H locs ls h1 h2 h3 hl => lv_ishl C.1 C.2.1 d (k H locs ls h1 h2 h3 hl)
theorem hd_ishr {x y : Int32} (n : Nat) (C : xC p s m args meth c own cc nL ret) (d : decode cc pc = .ok (.ishr, 1)) (hn : pc + 1 = n) (v : Int32) (hv : x >>> (y &&& 31) = v) (k : XW p l e R s m args below meth c nL cells slots A D Q w S n lv (.int v :: st)) : XW p l e R s m args below meth c nL cells slots A D Q w S pc lv (.int y :: .int x :: st) := by
  subst hn; subst hv
  exact fun H locs ls h1 h2 h3 hl => lv_ishr C.1 C.2.1 d (k H locs ls h1 h2 h3 hl)
theorem hd_idiv {x y : Int32} (n : Nat) (C : xC p s m args meth c own cc nL ret) (d : decode cc pc = .ok (.idiv, 1)) (hn : pc + 1 = n) (v : Int32) (h0 : ¬ y = 0) (hv : x / y = v) (k : XW p l e R s m args below meth c nL cells slots A D Q w S n lv (.int v :: st)) : XW p l e R s m args below meth c nL cells slots A D Q w S pc lv (.int y :: .int x :: st) := by
  subst hn; subst hv
  exact fun H locs ls h1 h2 h3 hl => lv_idiv C.1 C.2.1 d h0 (k H locs ls h1 h2 h3 hl)
theorem hd_irem {x y : Int32} (n : Nat) (C : xC p s m args meth c own cc nL ret) (d : decode cc pc = .ok (.irem, 1)) (hn : pc + 1 = n) (v : Int32) (h0 : ¬ y = 0) (hv : x - x / y * y = v) (k : XW p l e R s m args below meth c nL cells slots A D Q w S n lv (.int v :: st)) : XW p l e R s m args below meth c nL cells slots A D Q w S pc lv (.int y :: .int x :: st) := by
  subst hn; subst hv
  exact fun H locs ls h1 h2 h3 hl => lv_irem C.1 C.2.1 d h0 (k H locs ls h1 h2 h3 hl)
theorem hd_ladd {x y : Int64} (n : Nat) (C : xC p s m args meth c own cc nL ret) (d : decode cc pc = .ok (.ladd, 1)) (hn : pc + 1 = n) (v : Int64) (hv : x + y = v) (k : XW p l e R s m args below meth c nL cells slots A D Q w S n lv (.long v :: st)) : XW p l e R s m args below meth c nL cells slots A D Q w S pc lv (.long y :: .long x :: st) := by
  subst hn; subst hv
  exact fun H locs ls h1 h2 h3 hl => lv_ladd C.1 C.2.1 d (k H locs ls h1 h2 h3 hl)
theorem hd_lsub {x y : Int64} (n : Nat) (C : xC p s m args meth c own cc nL ret) (d : decode cc pc = .ok (.lsub, 1)) (hn : pc + 1 = n) (v : Int64) (hv : x - y = v) (k : XW p l e R s m args below meth c nL cells slots A D Q w S n lv (.long v :: st)) : XW p l e R s m args below meth c nL cells slots A D Q w S pc lv (.long y :: .long x :: st) := by
  subst hn; subst hv
  exact fun H locs ls h1 h2 h3 hl => lv_lsub C.1 C.2.1 d (k H locs ls h1 h2 h3 hl)
theorem hd_lmul {x y : Int64} (n : Nat) (C : xC p s m args meth c own cc nL ret) (d : decode cc pc = .ok (.lmul, 1)) (hn : pc + 1 = n) (v : Int64) (hv : x * y = v) (k : XW p l e R s m args below meth c nL cells slots A D Q w S n lv (.long v :: st)) : XW p l e R s m args below meth c nL cells slots A D Q w S pc lv (.long y :: .long x :: st) := by
  subst hn; subst hv
  exact fun H locs ls h1 h2 h3 hl => lv_lmul C.1 C.2.1 d (k H locs ls h1 h2 h3 hl)
theorem hd_land {x y : Int64} (n : Nat) (C : xC p s m args meth c own cc nL ret) (d : decode cc pc = .ok (.land, 1)) (hn : pc + 1 = n) (v : Int64) (hv : x &&& y = v) (k : XW p l e R s m args below meth c nL cells slots A D Q w S n lv (.long v :: st)) : XW p l e R s m args below meth c nL cells slots A D Q w S pc lv (.long y :: .long x :: st) := by
  subst hn; subst hv
  exact fun H locs ls h1 h2 h3 hl => lv_land C.1 C.2.1 d (k H locs ls h1 h2 h3 hl)
theorem hd_lor {x y : Int64} (n : Nat) (C : xC p s m args meth c own cc nL ret) (d : decode cc pc = .ok (.lor, 1)) (hn : pc + 1 = n) (v : Int64) (hv : x ||| y = v) (k : XW p l e R s m args below meth c nL cells slots A D Q w S n lv (.long v :: st)) : XW p l e R s m args below meth c nL cells slots A D Q w S pc lv (.long y :: .long x :: st) := by
  subst hn; subst hv
  exact fun H locs ls h1 h2 h3 hl => lv_lor C.1 C.2.1 d (k H locs ls h1 h2 h3 hl)
theorem hd_lxor {x y : Int64} (n : Nat) (C : xC p s m args meth c own cc nL ret) (d : decode cc pc = .ok (.lxor, 1)) (hn : pc + 1 = n) (v : Int64) (hv : x ^^^ y = v) (k : XW p l e R s m args below meth c nL cells slots A D Q w S n lv (.long v :: st)) : XW p l e R s m args below meth c nL cells slots A D Q w S pc lv (.long y :: .long x :: st) := by
  subst hn; subst hv
  exact fun H locs ls h1 h2 h3 hl => lv_lxor C.1 C.2.1 d (k H locs ls h1 h2 h3 hl)
theorem hd_ldiv {x y : Int64} (n : Nat) (C : xC p s m args meth c own cc nL ret) (d : decode cc pc = .ok (.ldiv, 1)) (hn : pc + 1 = n) (v : Int64) (h0 : ¬ y = 0) (hv : x / y = v) (k : XW p l e R s m args below meth c nL cells slots A D Q w S n lv (.long v :: st)) : XW p l e R s m args below meth c nL cells slots A D Q w S pc lv (.long y :: .long x :: st) := by
  subst hn; subst hv
  exact fun H locs ls h1 h2 h3 hl => lv_ldiv C.1 C.2.1 d h0 (k H locs ls h1 h2 h3 hl)
theorem hd_lrem {x y : Int64} (n : Nat) (C : xC p s m args meth c own cc nL ret) (d : decode cc pc = .ok (.lrem, 1)) (hn : pc + 1 = n) (v : Int64) (h0 : ¬ y = 0) (hv : x - x / y * y = v) (k : XW p l e R s m args below meth c nL cells slots A D Q w S n lv (.long v :: st)) : XW p l e R s m args below meth c nL cells slots A D Q w S pc lv (.long y :: .long x :: st) := by
  subst hn; subst hv
  exact fun H locs ls h1 h2 h3 hl => lv_lrem C.1 C.2.1 d h0 (k H locs ls h1 h2 h3 hl)
theorem hd_ineg {x : Int32} (n : Nat) (C : xC p s m args meth c own cc nL ret) (d : decode cc pc = .ok (.ineg, 1)) (hn : pc + 1 = n) (v : Int32) (hv : -x = v) (k : XW p l e R s m args below meth c nL cells slots A D Q w S n lv (.int v :: st)) : XW p l e R s m args below meth c nL cells slots A D Q w S pc lv (.int x :: st) := by
  subst hn; subst hv
  exact fun H locs ls h1 h2 h3 hl => lv_ineg C.1 C.2.1 d (k H locs ls h1 h2 h3 hl)
theorem hd_i2l {x : Int32} (n : Nat) (C : xC p s m args meth c own cc nL ret) (d : decode cc pc = .ok (.i2l, 1)) (hn : pc + 1 = n) (v : Int64) (hv : x.toInt64 = v) (k : XW p l e R s m args below meth c nL cells slots A D Q w S n lv (.long v :: st)) : XW p l e R s m args below meth c nL cells slots A D Q w S pc lv (.int x :: st) := by
  subst hn
  exact fun H locs ls h1 h2 h3 hl => lv_i2l C.1 C.2.1 d hv (k H locs ls h1 h2 h3 hl)
theorem hd_l2i {x : Int64} (n : Nat) (C : xC p s m args meth c own cc nL ret) (d : decode cc pc = .ok (.l2i, 1)) (hn : pc + 1 = n) (v : Int32) (hv : x.toInt32 = v) (k : XW p l e R s m args below meth c nL cells slots A D Q w S n lv (.int v :: st)) : XW p l e R s m args below meth c nL cells slots A D Q w S pc lv (.long x :: st) := by
  subst hn
  exact fun H locs ls h1 h2 h3 hl => lv_l2i C.1 C.2.1 d hv (k H locs ls h1 h2 h3 hl)
theorem hd_i2b {x : Int32} (n : Nat) (C : xC p s m args meth c own cc nL ret) (d : decode cc pc = .ok (.i2b, 1)) (hn : pc + 1 = n) (v : Int32) (hv : x.toInt8.toInt32 = v) (k : XW p l e R s m args below meth c nL cells slots A D Q w S n lv (.int v :: st)) : XW p l e R s m args below meth c nL cells slots A D Q w S pc lv (.int x :: st) := by
  subst hn
  exact fun H locs ls h1 h2 h3 hl => lv_i2b C.1 C.2.1 d hv (k H locs ls h1 h2 h3 hl)
theorem hd_i2s {x : Int32} (n : Nat) (C : xC p s m args meth c own cc nL ret) (d : decode cc pc = .ok (.i2s, 1)) (hn : pc + 1 = n) (v : Int32) (hv : x.toInt16.toInt32 = v) (k : XW p l e R s m args below meth c nL cells slots A D Q w S n lv (.int v :: st)) : XW p l e R s m args below meth c nL cells slots A D Q w S pc lv (.int x :: st) := by
  subst hn
  exact fun H locs ls h1 h2 h3 hl => lv_i2s C.1 C.2.1 d hv (k H locs ls h1 h2 h3 hl)
theorem hd_lshl {x : Int64} {y : Int32} (n : Nat) (C : xC p s m args meth c own cc nL ret) (d : decode cc pc = .ok (.lshl, 1)) (hn : pc + 1 = n) (v : Int64) (hv : x <<< (y.toInt64 &&& 63) = v) (k : XW p l e R s m args below meth c nL cells slots A D Q w S n lv (.long v :: st)) : XW p l e R s m args below meth c nL cells slots A D Q w S pc lv (.int y :: .long x :: st) := by
  subst hn
  exact fun H locs ls h1 h2 h3 hl => lv_lshl C.1 C.2.1 d hv (k H locs ls h1 h2 h3 hl)
theorem hd_lcmp {x y : Int64} (n : Nat) (C : xC p s m args meth c own cc nL ret) (d : decode cc pc = .ok (.lcmp, 1)) (hn : pc + 1 = n) (k : XW p l e R s m args below meth c nL cells slots A D Q w S n lv (.int (lg_cmp x y) :: st)) : XW p l e R s m args below meth c nL cells slots A D Q w S pc lv (.long y :: .long x :: st) := by
  subst hn
  exact fun H locs ls h1 h2 h3 hl => W.lcmp C.1 C.2.1 d (k H locs ls h1 h2 h3 hl)
theorem hd_dup {va : Value} (n : Nat) (C : xC p s m args meth c own cc nL ret) (d : decode cc pc = .ok (.dup, 1)) (hn : pc + 1 = n) (hva : va.category = 1) (k : XW p l e R s m args below meth c nL cells slots A D Q w S n lv (va :: va :: st)) : XW p l e R s m args below meth c nL cells slots A D Q w S pc lv (va :: st) := by
  subst hn
  exact fun H locs ls h1 h2 h3 hl => lv_dup C.1 C.2.1 d hva (k H locs ls h1 h2 h3 hl)
theorem hd_pop {va : Value} (n : Nat) (C : xC p s m args meth c own cc nL ret) (d : decode cc pc = .ok (.pop, 1)) (hn : pc + 1 = n) (hva : va.category = 1) (k : XW p l e R s m args below meth c nL cells slots A D Q w S n lv st) : XW p l e R s m args below meth c nL cells slots A D Q w S pc lv (va :: st) := by
  subst hn
  exact fun H locs ls h1 h2 h3 hl => lv_pop C.1 C.2.1 d hva (k H locs ls h1 h2 h3 hl)
theorem hd_dup2 {va vb : Value} (n : Nat) (C : xC p s m args meth c own cc nL ret) (d : decode cc pc = .ok (.dup2, 1)) (hn : pc + 1 = n) (hva : va.category = 1) (hvb : vb.category = 1) (k : XW p l e R s m args below meth c nL cells slots A D Q w S n lv (va :: vb :: va :: vb :: st)) : XW p l e R s m args below meth c nL cells slots A D Q w S pc lv (va :: vb :: st) := by
  subst hn
  exact fun H locs ls h1 h2 h3 hl => lv_dup2_11 C.1 C.2.1 d hva hvb (k H locs ls h1 h2 h3 hl)
theorem hd_goto {z : Int} (t : Nat) (C : xC p s m args meth c own cc nL ret) (d : decode cc pc = .ok (.goto z, 3)) (ht : (pc : Int) + z = (t : Int)) (k : XW p l e R s m args below meth c nL cells slots A D Q w S t lv st) : XW p l e R s m args below meth c nL cells slots A D Q w S pc lv st := fun H locs ls h1 h2 h3 hl => lv_goto C.1 C.2.1 d ht (k H locs ls h1 h2 h3 hl)
theorem hd_if_eq {x : Int32} {z : Int} (n t : Nat) (C : xC p s m args meth c own cc nL ret) (d : decode cc pc = .ok (.ifCond .eq z, 3)) (hn : pc + 3 = n) (ht : (pc : Int) + z = (t : Int)) (kt : x = 0 → XW p l e R s m args below meth c nL cells slots A D Q w S t lv st) (kf : ¬ x = 0 → XW p l e R s m args below meth c nL cells slots A D Q w S n lv st) : XW p l e R s m args below meth c nL cells slots A D Q w S pc lv (.int x :: st) := by
  subst hn
  exact fun H locs ls h1 h2 h3 hl => lv_if_eq C.1 C.2.1 d ht (fun q => kt q H locs ls h1 h2 h3 hl) (fun q => kf q H locs ls h1 h2 h3 hl)
theorem hd_icmp_eq {x y : Int32} {z : Int} (n t : Nat) (C : xC p s m args meth c own cc nL ret) (d : decode cc pc = .ok (.if_icmp .eq z, 3)) (hn : pc + 3 = n) (ht : (pc : Int) + z = (t : Int)) (kt : x = y → XW p l e R s m args below meth c nL cells slots A D Q w S t lv st) (kf : ¬ x = y → XW p l e R s m args below meth c nL cells slots A D Q w S n lv st) : XW p l e R s m args below meth c nL cells slots A D Q w S pc lv (.int y :: .int x :: st) := by
  subst hn
  exact fun H locs ls h1 h2 h3 hl => lv_icmp_eq C.1 C.2.1 d ht (fun q => kt q H locs ls h1 h2 h3 hl) (fun q => kf q H locs ls h1 h2 h3 hl)
theorem hd_if_ne {x : Int32} {z : Int} (n t : Nat) (C : xC p s m args meth c own cc nL ret) (d : decode cc pc = .ok (.ifCond .ne z, 3)) (hn : pc + 3 = n) (ht : (pc : Int) + z = (t : Int)) (kt : ¬ x = 0 → XW p l e R s m args below meth c nL cells slots A D Q w S t lv st) (kf : x = 0 → XW p l e R s m args below meth c nL cells slots A D Q w S n lv st) : XW p l e R s m args below meth c nL cells slots A D Q w S pc lv (.int x :: st) := by
  subst hn
  exact fun H locs ls h1 h2 h3 hl => lv_if_ne C.1 C.2.1 d ht (fun q => kt q H locs ls h1 h2 h3 hl) (fun q => kf q H locs ls h1 h2 h3 hl)
theorem hd_icmp_ne {x y : Int32} {z : Int} (n t : Nat) (C : xC p s m args meth c own cc nL ret) (d : decode cc pc = .ok (.if_icmp .ne z, 3)) (hn : pc + 3 = n) (ht : (pc : Int) + z = (t : Int)) (kt : ¬ x = y → XW p l e R s m args below meth c nL cells slots A D Q w S t lv st) (kf : x = y → XW p l e R s m args below meth c nL cells slots A D Q w S n lv st) : XW p l e R s m args below meth c nL cells slots A D Q w S pc lv (.int y :: .int x :: st) := by
  subst hn
  exact fun H locs ls h1 h2 h3 hl => lv_icmp_ne C.1 C.2.1 d ht (fun q => kt q H locs ls h1 h2 h3 hl) (fun q => kf q H locs ls h1 h2 h3 hl)
theorem hd_if_lt {x : Int32} {z : Int} (n t : Nat) (C : xC p s m args meth c own cc nL ret) (d : decode cc pc = .ok (.ifCond .lt z, 3)) (hn : pc + 3 = n) (ht : (pc : Int) + z = (t : Int)) (kt : x < 0 → XW p l e R s m args below meth c nL cells slots A D Q w S t lv st) (kf : ¬ x < 0 → XW p l e R s m args below meth c nL cells slots A D Q w S n lv st) : XW p l e R s m args below meth c nL cells slots A D Q w S pc lv (.int x :: st) := by
  subst hn
  exact fun H locs ls h1 h2 h3 hl => lv_if_lt C.1 C.2.1 d ht (fun q => kt q H locs ls h1 h2 h3 hl) (fun q => kf q H locs ls h1 h2 h3 hl)
theorem hd_icmp_lt {x y : Int32} {z : Int} (n t : Nat) (C : xC p s m args meth c own cc nL ret) (d : decode cc pc = .ok (.if_icmp .lt z, 3)) (hn : pc + 3 = n) (ht : (pc : Int) + z = (t : Int)) (kt : x < y → XW p l e R s m args below meth c nL cells slots A D Q w S t lv st) (kf : ¬ x < y → XW p l e R s m args below meth c nL cells slots A D Q w S n lv st) : XW p l e R s m args below meth c nL cells slots A D Q w S pc lv (.int y :: .int x :: st) := by
  subst hn
  exact fun H locs ls h1 h2 h3 hl => lv_icmp_lt C.1 C.2.1 d ht (fun q => kt q H locs ls h1 h2 h3 hl) (fun q => kf q H locs ls h1 h2 h3 hl)
theorem hd_if_ge {x : Int32} {z : Int} (n t : Nat) (C : xC p s m args meth c own cc nL ret) (d : decode cc pc = .ok (.ifCond .ge z, 3)) (hn : pc + 3 = n) (ht : (pc : Int) + z = (t : Int)) (kt : 0 ≤ x → XW p l e R s m args below meth c nL cells slots A D Q w S t lv st) (kf : ¬ 0 ≤ x → XW p l e R s m args below meth c nL cells slots A D Q w S n lv st) : XW p l e R s m args below meth c nL cells slots A D Q w S pc lv (.int x :: st) := by
  subst hn
  exact fun H locs ls h1 h2 h3 hl => lv_if_ge C.1 C.2.1 d ht (fun q => kt q H locs ls h1 h2 h3 hl) (fun q => kf q H locs ls h1 h2 h3 hl)
theorem hd_icmp_ge {x y : Int32} {z : Int} (n t : Nat) (C : xC p s m args meth c own cc nL ret) (d : decode cc pc = .ok (.if_icmp .ge z, 3)) (hn : pc + 3 = n) (ht : (pc : Int) + z = (t : Int)) (kt : y ≤ x → XW p l e R s m args below meth c nL cells slots A D Q w S t lv st) (kf : ¬ y ≤ x → XW p l e R s m args below meth c nL cells slots A D Q w S n lv st) : XW p l e R s m args below meth c nL cells slots A D Q w S pc lv (.int y :: .int x :: st) := by
  subst hn
  exact fun H locs ls h1 h2 h3 hl => lv_icmp_ge C.1 C.2.1 d ht (fun q => kt q H locs ls h1 h2 h3 hl) (fun q => kf q H locs ls h1 h2 h3 hl)
theorem hd_if_gt {x : Int32} {z : Int} (n t : Nat) (C : xC p s m args meth c own cc nL ret) (d : decode cc pc = .ok (.ifCond .gt z, 3)) (hn : pc + 3 = n) (ht : (pc : Int) + z = (t : Int)) (kt : 0 < x → XW p l e R s m args below meth c nL cells slots A D Q w S t lv st) (kf : ¬ 0 < x → XW p l e R s m args below meth c nL cells slots A D Q w S n lv st) : XW p l e R s m args below meth c nL cells slots A D Q w S pc lv (.int x :: st) := by
  subst hn
  exact fun H locs ls h1 h2 h3 hl => lv_if_gt C.1 C.2.1 d ht (fun q => kt q H locs ls h1 h2 h3 hl) (fun q => kf q H locs ls h1 h2 h3 hl)
theorem hd_icmp_gt {x y : Int32} {z : Int} (n t : Nat) (C : xC p s m args meth c own cc nL ret) (d : decode cc pc = .ok (.if_icmp .gt z, 3)) (hn : pc + 3 = n) (ht : (pc : Int) + z = (t : Int)) (kt : y < x → XW p l e R s m args below meth c nL cells slots A D Q w S t lv st) (kf : ¬ y < x → XW p l e R s m args below meth c nL cells slots A D Q w S n lv st) : XW p l e R s m args below meth c nL cells slots A D Q w S pc lv (.int y :: .int x :: st) := by
  subst hn
  exact fun H locs ls h1 h2 h3 hl => lv_icmp_gt C.1 C.2.1 d ht (fun q => kt q H locs ls h1 h2 h3 hl) (fun q => kf q H locs ls h1 h2 h3 hl)
theorem hd_if_le {x : Int32} {z : Int} (n t : Nat) (C : xC p s m args meth c own cc nL ret) (d : decode cc pc = .ok (.ifCond .le z, 3)) (hn : pc + 3 = n) (ht : (pc : Int) + z = (t : Int)) (kt : x ≤ 0 → XW p l e R s m args below meth c nL cells slots A D Q w S t lv st) (kf : ¬ x ≤ 0 → XW p l e R s m args below meth c nL cells slots A D Q w S n lv st) : XW p l e R s m args below meth c nL cells slots A D Q w S pc lv (.int x :: st) := by
  subst hn
  exact fun H locs ls h1 h2 h3 hl => lv_if_le C.1 C.2.1 d ht (fun q => kt q H locs ls h1 h2 h3 hl) (fun q => kf q H locs ls h1 h2 h3 hl)
theorem hd_icmp_le {x y : Int32} {z : Int} (n t : Nat) (C : xC p s m args meth c own cc nL ret) (d : decode cc pc = .ok (.if_icmp .le z, 3)) (hn : pc + 3 = n) (ht : (pc : Int) + z = (t : Int)) (kt : x ≤ y → XW p l e R s m args below meth c nL cells slots A D Q w S t lv st) (kf : ¬ x ≤ y → XW p l e R s m args below meth c nL cells slots A D Q w S n lv st) : XW p l e R s m args below meth c nL cells slots A D Q w S pc lv (.int y :: .int x :: st) := by
  subst hn
  exact fun H locs ls h1 h2 h3 hl => lv_icmp_le C.1 C.2.1 d ht (fun q => kt q H locs ls h1 h2 h3 hl) (fun q => kf q H locs ls h1 h2 h3 hl)
theorem hd_icmp_eqN {a b : Nat} {z : Int} (n t : Nat) (C : xC p s m args meth c own cc nL ret) (d : decode cc pc = .ok (.if_icmp .eq z, 3)) (hn : pc + 3 = n) (ht : (pc : Int) + z = (t : Int)) (ha : a < 2 ^ 31) (hb : b < 2 ^ 31) (kt : a = b → XW p l e R s m args below meth c nL cells slots A D Q w S t lv st) (kf : a ≠ b → XW p l e R s m args below meth c nL cells slots A D Q w S n lv st) : XW p l e R s m args below meth c nL cells slots A D Q w S pc lv (.int (nI b) :: .int (nI a) :: st) := hd_icmp_eq n t C d hn ht (fun q => kt ((nI_eq ha hb).mp q)) (fun q => kf (fun e => q ((nI_eq ha hb).mpr e)))
theorem hd_icmp_neN {a b : Nat} {z : Int} (n t : Nat) (C : xC p s m args meth c own cc nL ret) (d : decode cc pc = .ok (.if_icmp .ne z, 3)) (hn : pc + 3 = n) (ht : (pc : Int) + z = (t : Int)) (ha : a < 2 ^ 31) (hb : b < 2 ^ 31) (kt : a ≠ b → XW p l e R s m args below meth c nL cells slots A D Q w S t lv st) (kf : a = b → XW p l e R s m args below meth c nL cells slots A D Q w S n lv st) : XW p l e R s m args below meth c nL cells slots A D Q w S pc lv (.int (nI b) :: .int (nI a) :: st) := hd_icmp_ne n t C d hn ht (fun q => kt ((not_congr (nI_eq ha hb)).mp q)) (fun q => kf ((nI_eq ha hb).mp q))
theorem hd_icmp_ltN {a b : Nat} {z : Int} (n t : Nat) (C : xC p s m args meth c own cc nL ret) (d : decode cc pc = .ok (.if_icmp .lt z, 3)) (hn : pc + 3 = n) (ht : (pc : Int) + z = (t : Int)) (ha : a < 2 ^ 31) (hb : b < 2 ^ 31) (kt : a < b → XW p l e R s m args below meth c nL cells slots A D Q w S t lv st) (kf : b ≤ a → XW p l e R s m args below meth c nL cells slots A D Q w S n lv st) : XW p l e R s m args below meth c nL cells slots A D Q w S pc lv (.int (nI b) :: .int (nI a) :: st) := hd_icmp_lt n t C d hn ht (fun q => kt ((nI_ltI ha hb).mp q)) (fun q => kf (Nat.le_of_not_lt fun e => q ((nI_ltI ha hb).mpr e)))
theorem hd_icmp_geN {a b : Nat} {z : Int} (n t : Nat) (C : xC p s m args meth c own cc nL ret) (d : decode cc pc = .ok (.if_icmp .ge z, 3)) (hn : pc + 3 = n) (ht : (pc : Int) + z = (t : Int)) (ha : a < 2 ^ 31) (hb : b < 2 ^ 31) (kt : b ≤ a → XW p l e R s m args below meth c nL cells slots A D Q w S t lv st) (kf : a < b → XW p l e R s m args below meth c nL cells slots A D Q w S n lv st) : XW p l e R s m args below meth c nL cells slots A D Q w S pc lv (.int (nI b) :: .int (nI a) :: st) := hd_icmp_ge n t C d hn ht (fun q => kt ((nI_leI hb ha).mp q)) (fun q => kf (Nat.lt_of_not_le fun e => q ((nI_leI hb ha).mpr e)))
theorem hd_icmp_gtN {a b : Nat} {z : Int} (n t : Nat) (C : xC p s m args meth c own cc nL ret) (d : decode cc pc = .ok (.if_icmp .gt z, 3)) (hn : pc + 3 = n) (ht : (pc : Int) + z = (t : Int)) (ha : a < 2 ^ 31) (hb : b < 2 ^ 31) (kt : b < a → XW p l e R s m args below meth c nL cells slots A D Q w S t lv st) (kf : a ≤ b → XW p l e R s m args below meth c nL cells slots A D Q w S n lv st) : XW p l e R s m args below meth c nL cells slots A D Q w S pc lv (.int (nI b) :: .int (nI a) :: st) := hd_icmp_gt n t C d hn ht (fun q => kt ((nI_ltI hb ha).mp q)) (fun q => kf (Nat.le_of_not_lt fun e => q ((nI_ltI hb ha).mpr e)))
theorem hd_icmp_leN {a b : Nat} {z : Int} (n t : Nat) (C : xC p s m args meth c own cc nL ret) (d : decode cc pc = .ok (.if_icmp .le z, 3)) (hn : pc + 3 = n) (ht : (pc : Int) + z = (t : Int)) (ha : a < 2 ^ 31) (hb : b < 2 ^ 31) (kt : a ≤ b → XW p l e R s m args below meth c nL cells slots A D Q w S t lv st) (kf : b < a → XW p l e R s m args below meth c nL cells slots A D Q w S n lv st) : XW p l e R s m args below meth c nL cells slots A D Q w S pc lv (.int (nI b) :: .int (nI a) :: st) := hd_icmp_le n t C d hn ht (fun q => kt ((nI_leI ha hb).mp q)) (fun q => kf (Nat.lt_of_not_le fun e => q ((nI_leI ha hb).mpr e)))
theorem nI_eq0 {a : Nat} (ha : a < 2 ^ 31) : nI a = 0 ↔ a = 0 := by rw [← nI_0]; exact nI_eq ha (by decide)
theorem hd_if_eqN {a : Nat} {z : Int} (n t : Nat) (C : xC p s m args meth c own cc nL ret) (d : decode cc pc = .ok (.ifCond .eq z, 3)) (hn : pc + 3 = n) (ht : (pc : Int) + z = (t : Int)) (ha : a < 2 ^ 31) (kt : a = 0 → XW p l e R s m args below meth c nL cells slots A D Q w S t lv st) (kf : a ≠ 0 → XW p l e R s m args below meth c nL cells slots A D Q w S n lv st) : XW p l e R s m args below meth c nL cells slots A D Q w S pc lv (.int (nI a) :: st) := hd_if_eq n t C d hn ht (fun q => kt ((nI_eq0 ha).mp q)) (fun q => kf (fun e => q ((nI_eq0 ha).mpr e)))
theorem hd_if_neN {a : Nat} {z : Int} (n t : Nat) (C : xC p s m args meth c own cc nL ret) (d : decode cc pc = .ok (.ifCond .ne z, 3)) (hn : pc + 3 = n) (ht : (pc : Int) + z = (t : Int)) (ha : a < 2 ^ 31) (kt : a ≠ 0 → XW p l e R s m args below meth c nL cells slots A D Q w S t lv st) (kf : a = 0 → XW p l e R s m args below meth c nL cells slots A D Q w S n lv st) : XW p l e R s m args below meth c nL cells slots A D Q w S pc lv (.int (nI a) :: st) := hd_if_ne n t C d hn ht (fun q => kt (fun e => q ((nI_eq0 ha).mpr e))) (fun q => kf ((nI_eq0 ha).mp q))
theorem lg_lt (x y : Int64) : ((lg_cmp x y) < 0) ↔ x < y := by
  unfold lg_cmp
  by_cases h1 : y < x
  · have h2 : ¬ x = y := fun e => by subst e; exact absurd h1 (by rw [Int64.lt_iff_toInt_lt]; omega)
    have h3 : ¬ x < y := by rw [Int64.lt_iff_toInt_lt] at h1 ⊢; omega
    have h4 : ¬ x ≤ y := by rw [Int64.le_iff_toInt_le]; rw [Int64.lt_iff_toInt_lt] at h1; omega
    have h5 : y ≤ x := by rw [Int64.le_iff_toInt_le]; rw [Int64.lt_iff_toInt_lt] at h1; omega
    simp [GT.gt, h1, h2, h3, h4, h5]
  · by_cases h2 : x = y
    · subst h2
      simp [GT.gt, h1]
    · have h3 : x < y := by rw [Int64.lt_iff_toInt_lt] at h1 ⊢; have := mt Int64.toInt_inj.mp h2; omega
      have h4 : x ≤ y := by rw [Int64.le_iff_toInt_le]; rw [Int64.lt_iff_toInt_lt] at h3; omega
      have h5 : ¬ y ≤ x := by rw [Int64.le_iff_toInt_le]; rw [Int64.lt_iff_toInt_lt] at h3; omega
      simp [GT.gt, h1, h2, h3, h4, h5]
theorem hd_lc_lt {x y : Int64} {z : Int} (n t : Nat) (C : xC p s m args meth c own cc nL ret) (d : decode cc pc = .ok (.lcmp, 1)) (d2 : decode cc (pc + 1) = .ok (.ifCond .lt z, 3)) (hn : pc + 4 = n) (ht : ((pc + 1 : Nat) : Int) + z = (t : Int)) (kt : x < y → XW p l e R s m args below meth c nL cells slots A D Q w S t lv st) (kf : ¬ (x < y) → XW p l e R s m args below meth c nL cells slots A D Q w S n lv st) : XW p l e R s m args below meth c nL cells slots A D Q w S pc lv (.long y :: .long x :: st) := hd_lcmp (pc + 1) C d rfl (hd_if_lt n t C d2 (by omega) ht (fun q => kt ((lg_lt x y).mp q)) (fun q => kf (fun e => q ((lg_lt x y).mpr e))))
theorem lg_ge (x y : Int64) : (0 ≤ (lg_cmp x y)) ↔ y ≤ x := by
  unfold lg_cmp
  by_cases h1 : y < x
  · have h2 : ¬ x = y := fun e => by subst e; exact absurd h1 (by rw [Int64.lt_iff_toInt_lt]; omega)
    have h3 : ¬ x < y := by rw [Int64.lt_iff_toInt_lt] at h1 ⊢; omega
    have h4 : ¬ x ≤ y := by rw [Int64.le_iff_toInt_le]; rw [Int64.lt_iff_toInt_lt] at h1; omega
    have h5 : y ≤ x := by rw [Int64.le_iff_toInt_le]; rw [Int64.lt_iff_toInt_lt] at h1; omega
    simp [GT.gt, h1, h2, h3, h4, h5]
  · by_cases h2 : x = y
    · subst h2
      simp [GT.gt, h1]
    · have h3 : x < y := by rw [Int64.lt_iff_toInt_lt] at h1 ⊢; have := mt Int64.toInt_inj.mp h2; omega
      have h4 : x ≤ y := by rw [Int64.le_iff_toInt_le]; rw [Int64.lt_iff_toInt_lt] at h3; omega
      have h5 : ¬ y ≤ x := by rw [Int64.le_iff_toInt_le]; rw [Int64.lt_iff_toInt_lt] at h3; omega
      simp [GT.gt, h1, h2, h3, h4, h5]
theorem hd_lc_ge {x y : Int64} {z : Int} (n t : Nat) (C : xC p s m args meth c own cc nL ret) (d : decode cc pc = .ok (.lcmp, 1)) (d2 : decode cc (pc + 1) = .ok (.ifCond .ge z, 3)) (hn : pc + 4 = n) (ht : ((pc + 1 : Nat) : Int) + z = (t : Int)) (kt : y ≤ x → XW p l e R s m args below meth c nL cells slots A D Q w S t lv st) (kf : ¬ (y ≤ x) → XW p l e R s m args below meth c nL cells slots A D Q w S n lv st) : XW p l e R s m args below meth c nL cells slots A D Q w S pc lv (.long y :: .long x :: st) := hd_lcmp (pc + 1) C d rfl (hd_if_ge n t C d2 (by omega) ht (fun q => kt ((lg_ge x y).mp q)) (fun q => kf (fun e => q ((lg_ge x y).mpr e))))
theorem lg_gt (x y : Int64) : (0 < (lg_cmp x y)) ↔ y < x := by
  unfold lg_cmp
  by_cases h1 : y < x
  · have h2 : ¬ x = y := fun e => by subst e; exact absurd h1 (by rw [Int64.lt_iff_toInt_lt]; omega)
    have h3 : ¬ x < y := by rw [Int64.lt_iff_toInt_lt] at h1 ⊢; omega
    have h4 : ¬ x ≤ y := by rw [Int64.le_iff_toInt_le]; rw [Int64.lt_iff_toInt_lt] at h1; omega
    have h5 : y ≤ x := by rw [Int64.le_iff_toInt_le]; rw [Int64.lt_iff_toInt_lt] at h1; omega
    simp [GT.gt, h1, h2, h3, h4, h5]
  · by_cases h2 : x = y
    · subst h2
      simp [GT.gt, h1]
    · have h3 : x < y := by rw [Int64.lt_iff_toInt_lt] at h1 ⊢; have := mt Int64.toInt_inj.mp h2; omega
      have h4 : x ≤ y := by rw [Int64.le_iff_toInt_le]; rw [Int64.lt_iff_toInt_lt] at h3; omega
      have h5 : ¬ y ≤ x := by rw [Int64.le_iff_toInt_le]; rw [Int64.lt_iff_toInt_lt] at h3; omega
      simp [GT.gt, h1, h2, h3, h4, h5]
theorem hd_lc_gt {x y : Int64} {z : Int} (n t : Nat) (C : xC p s m args meth c own cc nL ret) (d : decode cc pc = .ok (.lcmp, 1)) (d2 : decode cc (pc + 1) = .ok (.ifCond .gt z, 3)) (hn : pc + 4 = n) (ht : ((pc + 1 : Nat) : Int) + z = (t : Int)) (kt : y < x → XW p l e R s m args below meth c nL cells slots A D Q w S t lv st) (kf : ¬ (y < x) → XW p l e R s m args below meth c nL cells slots A D Q w S n lv st) : XW p l e R s m args below meth c nL cells slots A D Q w S pc lv (.long y :: .long x :: st) := hd_lcmp (pc + 1) C d rfl (hd_if_gt n t C d2 (by omega) ht (fun q => kt ((lg_gt x y).mp q)) (fun q => kf (fun e => q ((lg_gt x y).mpr e))))
theorem lg_le (x y : Int64) : ((lg_cmp x y) ≤ 0) ↔ x ≤ y := by
  unfold lg_cmp
  by_cases h1 : y < x
  · have h2 : ¬ x = y := fun e => by subst e; exact absurd h1 (by rw [Int64.lt_iff_toInt_lt]; omega)
    have h3 : ¬ x < y := by rw [Int64.lt_iff_toInt_lt] at h1 ⊢; omega
    have h4 : ¬ x ≤ y := by rw [Int64.le_iff_toInt_le]; rw [Int64.lt_iff_toInt_lt] at h1; omega
    have h5 : y ≤ x := by rw [Int64.le_iff_toInt_le]; rw [Int64.lt_iff_toInt_lt] at h1; omega
    simp [GT.gt, h1, h2, h3, h4, h5]
  · by_cases h2 : x = y
    · subst h2
      simp [GT.gt, h1]
    · have h3 : x < y := by rw [Int64.lt_iff_toInt_lt] at h1 ⊢; have := mt Int64.toInt_inj.mp h2; omega
      have h4 : x ≤ y := by rw [Int64.le_iff_toInt_le]; rw [Int64.lt_iff_toInt_lt] at h3; omega
      have h5 : ¬ y ≤ x := by rw [Int64.le_iff_toInt_le]; rw [Int64.lt_iff_toInt_lt] at h3; omega
      simp [GT.gt, h1, h2, h3, h4, h5]
theorem hd_lc_le {x y : Int64} {z : Int} (n t : Nat) (C : xC p s m args meth c own cc nL ret) (d : decode cc pc = .ok (.lcmp, 1)) (d2 : decode cc (pc + 1) = .ok (.ifCond .le z, 3)) (hn : pc + 4 = n) (ht : ((pc + 1 : Nat) : Int) + z = (t : Int)) (kt : x ≤ y → XW p l e R s m args below meth c nL cells slots A D Q w S t lv st) (kf : ¬ (x ≤ y) → XW p l e R s m args below meth c nL cells slots A D Q w S n lv st) : XW p l e R s m args below meth c nL cells slots A D Q w S pc lv (.long y :: .long x :: st) := hd_lcmp (pc + 1) C d rfl (hd_if_le n t C d2 (by omega) ht (fun q => kt ((lg_le x y).mp q)) (fun q => kf (fun e => q ((lg_le x y).mpr e))))
theorem lg_eq (x y : Int64) : ((lg_cmp x y) = 0) ↔ x = y := by
  unfold lg_cmp
  by_cases h1 : y < x
  · have h2 : ¬ x = y := fun e => by subst e; exact absurd h1 (by rw [Int64.lt_iff_toInt_lt]; omega)
    have h3 : ¬ x < y := by rw [Int64.lt_iff_toInt_lt] at h1 ⊢; omega
    have h4 : ¬ x ≤ y := by rw [Int64.le_iff_toInt_le]; rw [Int64.lt_iff_toInt_lt] at h1; omega
    have h5 : y ≤ x := by rw [Int64.le_iff_toInt_le]; rw [Int64.lt_iff_toInt_lt] at h1; omega
    simp [GT.gt, h1, h2, h3, h4, h5]
  · by_cases h2 : x = y
    · subst h2
      simp [GT.gt, h1]
    · have h3 : x < y := by rw [Int64.lt_iff_toInt_lt] at h1 ⊢; have := mt Int64.toInt_inj.mp h2; omega
      have h4 : x ≤ y := by rw [Int64.le_iff_toInt_le]; rw [Int64.lt_iff_toInt_lt] at h3; omega
      have h5 : ¬ y ≤ x := by rw [Int64.le_iff_toInt_le]; rw [Int64.lt_iff_toInt_lt] at h3; omega
      simp [GT.gt, h1, h2, h3, h4, h5]
theorem hd_lc_eq {x y : Int64} {z : Int} (n t : Nat) (C : xC p s m args meth c own cc nL ret) (d : decode cc pc = .ok (.lcmp, 1)) (d2 : decode cc (pc + 1) = .ok (.ifCond .eq z, 3)) (hn : pc + 4 = n) (ht : ((pc + 1 : Nat) : Int) + z = (t : Int)) (kt : x = y → XW p l e R s m args below meth c nL cells slots A D Q w S t lv st) (kf : ¬ (x = y) → XW p l e R s m args below meth c nL cells slots A D Q w S n lv st) : XW p l e R s m args below meth c nL cells slots A D Q w S pc lv (.long y :: .long x :: st) := hd_lcmp (pc + 1) C d rfl (hd_if_eq n t C d2 (by omega) ht (fun q => kt ((lg_eq x y).mp q)) (fun q => kf (fun e => q ((lg_eq x y).mpr e))))
theorem lg_ne (x y : Int64) : (¬ (lg_cmp x y) = 0) ↔ ¬ x = y := by
  unfold lg_cmp
  by_cases h1 : y < x
  · have h2 : ¬ x = y := fun e => by subst e; exact absurd h1 (by rw [Int64.lt_iff_toInt_lt]; omega)
    have h3 : ¬ x < y := by rw [Int64.lt_iff_toInt_lt] at h1 ⊢; omega
    have h4 : ¬ x ≤ y := by rw [Int64.le_iff_toInt_le]; rw [Int64.lt_iff_toInt_lt] at h1; omega
    have h5 : y ≤ x := by rw [Int64.le_iff_toInt_le]; rw [Int64.lt_iff_toInt_lt] at h1; omega
    simp [GT.gt, h1, h2, h3, h4, h5]
  · by_cases h2 : x = y
    · subst h2
      simp [GT.gt, h1]
    · have h3 : x < y := by rw [Int64.lt_iff_toInt_lt] at h1 ⊢; have := mt Int64.toInt_inj.mp h2; omega
      have h4 : x ≤ y := by rw [Int64.le_iff_toInt_le]; rw [Int64.lt_iff_toInt_lt] at h3; omega
      have h5 : ¬ y ≤ x := by rw [Int64.le_iff_toInt_le]; rw [Int64.lt_iff_toInt_lt] at h3; omega
      simp [GT.gt, h1, h2, h3, h4, h5]
theorem hd_lc_ne {x y : Int64} {z : Int} (n t : Nat) (C : xC p s m args meth c own cc nL ret) (d : decode cc pc = .ok (.lcmp, 1)) (d2 : decode cc (pc + 1) = .ok (.ifCond .ne z, 3)) (hn : pc + 4 = n) (ht : ((pc + 1 : Nat) : Int) + z = (t : Int)) (kt : ¬ x = y → XW p l e R s m args below meth c nL cells slots A D Q w S t lv st) (kf : x = y → XW p l e R s m args below meth c nL cells slots A D Q w S n lv st) : XW p l e R s m args below meth c nL cells slots A D Q w S pc lv (.long y :: .long x :: st) := hd_lcmp (pc + 1) C d rfl (hd_if_ne n t C d2 (by omega) ht (fun q => kt ((lg_ne x y).mp q)) (fun q => kf ((lg_eq x y).mp q)))
theorem hd_ldc2 {index : Nat} {v : Int64} (n : Nat) (C : xC p s m args meth c own cc nL ret) (d : decode cc pc = .ok (.ldc2_w index, 3)) (hn : pc + 3 = n) (hw : Cond.constantLong own index v ∈ lw_good) (k : XW p l e R s m args below meth c nL cells slots A D Q w S n lv (.long v :: st)) : XW p l e R s m args below meth c nL cells slots A D Q w S pc lv st := by
  subst hn
  exact fun H locs ls h1 h2 h3 hl => lv_ldc2 C.1 C.2.1 C.2.2.2.1 (C.2.2.2.2.1 _ hw) d (k H locs ls h1 h2 h3 hl)
theorem hd_tableIn {dflt lo hi : Int} {offs : Array Int} {len : Nat} {x : Int32} {off : Int} (t : Nat) (C : xC p s m args meth c own cc nL ret) (d : decode cc pc = .ok (.tableswitch dflt lo hi offs, len)) (h1 : ¬ x.toInt < lo) (h2 : ¬ hi < x.toInt) (ho : offs[(x.toInt - lo).toNat]? = some off) (ht : (pc : Int) + off = (t : Int)) (k : XW p l e R s m args below meth c nL cells slots A D Q w S t lv st) : XW p l e R s m args below meth c nL cells slots A D Q w S pc lv (.int x :: st) := fun H locs ls g1 g2 g3 hl => lv_tableIn C.1 C.2.1 d h1 h2 ho ht (k H locs ls g1 g2 g3 hl)
theorem hd_tableOut {dflt lo hi : Int} {offs : Array Int} {len : Nat} {x : Int32} (t : Nat) (C : xC p s m args meth c own cc nL ret) (d : decode cc pc = .ok (.tableswitch dflt lo hi offs, len)) (h : x.toInt < lo ∨ hi < x.toInt) (ht : (pc : Int) + dflt = (t : Int)) (k : XW p l e R s m args below meth c nL cells slots A D Q w S t lv st) : XW p l e R s m args below meth c nL cells slots A D Q w S pc lv (.int x :: st) := fun H locs ls g1 g2 g3 hl => lv_tableOut C.1 C.2.1 d h ht (k H locs ls g1 g2 g3 hl)
theorem hd_lookup {dflt : Int} {ps : Array (Int × Int)} {len : Nat} {x : Int32} {off : Int} (t : Nat) (C : xC p s m args meth c own cc nL ret) (d : decode cc pc = .ok (.lookupswitch dflt ps, len)) (hp : (ps.toList.zip (ps.toList.drop 1)).all (fun (a, next) => a.1 < next.1) = true) (ho : Op.lookupswitch.offset ps.toList dflt x.toInt = off) (ht : (pc : Int) + off = (t : Int)) (k : XW p l e R s m args below meth c nL cells slots A D Q w S t lv st) : XW p l e R s m args below meth c nL cells slots A D Q w S pc lv (.int x :: st) := fun H locs ls g1 g2 g3 hl => lv_lookup C.1 C.2.1 d hp ho ht (k H locs ls g1 g2 g3 hl)
theorem hd_sub (lv' : List (Nat × Value)) (is : List Nat) (h : lv_pick lv is = lv') (k : XW p l e R s m args below meth c nL cells slots A D Q w S pc lv' st) : XW p l e R s m args below meth c nL cells slots A D Q w S pc lv st := fun H locs ls h1 h2 h3 hl => k H locs ls h1 h2 h3 (lv_sub hl is h)
theorem hd_eqS {S' : σ} (h : S = S') (k : XW p l e R s m args below meth c nL cells slots A D Q w S' pc lv st) : XW p l e R s m args below meth c nL cells slots A D Q w S pc lv st := h ▸ k
theorem hd_get {ref Cn : String} {T : u_T} {Nn ci index a : Nat} {fs : List Value} {v : Value} (n : Nat) (C : xC p s m args meth c own cc nL ret) (hK : va_K D vwCl tys s) (d : decode cc pc = .ok (.getfield index, 3)) (hn : pc + 3 = n) (q0 : Nat) (he : (w S)[q0]? = some (a, .inr (ci, fs))) (hc : vwCl[ci]? = some (Cn, T, Nn)) (hin : ∀ x ∈ u_ws Cn T Nn, x ∈ lw_good) (k0 : Nat) (hk : k0 < Nn) (hlink : Cond.fieldLink own index ref (T k0).2.1 (T k0).2.2.1 ∈ lw_good) (href : (T k0).1 = ref) (hv : fs[k0]? = some v) (k : XW p l e R s m args below meth c nL cells slots A D Q w S n lv (v :: st)) : XW p l e R s m args below meth c nL cells slots A D Q w S pc lv (.ref a :: st) := by
  subst hn; subst href
  exact fun H locs ls h1 h2 h3 hl => va_get (D := D) C.1 C.2.1 C.2.2.2.2.1 hin C.2.2.2.1 hK h1 q0 he hc k0 hk (C.2.2.2.2.1 _ hlink) (fun _ h9 => h9) hv d (k H locs ls h1 h2 h3 hl)
theorem hd_put {S' : σ} {ref Cn : String} {T : u_T} {Nn ci index a : Nat} {fs : List Value} {v : Value} {ty0 : Nat → FieldType} {ty : FieldType} (n : Nat) (C : xC p s m args meth c own cc nL ret) (hK : va_K D vwCl tys s) (d : decode cc pc = .ok (.putfield index, 3)) (hn : pc + 3 = n) (q0 : Nat) (he : (w S)[q0]? = some (a, .inr (ci, fs))) (hc : vwCl[ci]? = some (Cn, T, Nn)) (hin : ∀ x ∈ u_ws Cn T Nn, x ∈ lw_good) (hty : ∀ k, k < Nn → parseFieldDescriptor (T k).2.2.1 = some (ty0 k)) (hnm : ∀ a, a < Nn → ∀ b, b < Nn → a ≠ b → (T a).2.1 ≠ (T b).2.1) (k0 : Nat) (hk : k0 < Nn) (hlink : Cond.fieldLink own index ref (T k0).2.1 (T k0).2.2.1 ∈ lw_good) (href : (T k0).1 = ref) (hfin : (T k0).2.2.2 = false) (hd : parseFieldDescriptor (T k0).2.2.1 = some ty) (hnar : narrow ty v = v) (hfit : fits ty v = true) (hl0 : k0 < fs.length) (hS' : (w S).set q0 (a, .inr (ci, fs.set k0 v)) = w S') (k : XW p l e R s m args below meth c nL cells slots A D Q w S' n lv st) : XW p l e R s m args below meth c nL cells slots A D Q w S pc lv (v :: .ref a :: st) := by
  subst hn; subst href
  exact fun H locs ls h1 h2 h3 hl => va_put (D := D) C.1 C.2.1 C.2.2.2.2.1 hin ty0 hty hnm C.2.2.2.1 hK h1 h2 h3 q0 he hc k0 hk (C.2.2.2.2.1 _ hlink) (fun _ h9 => h9) hfin hd hnar hfit hl0 d (fun H1 locs1 g1 g2 g3 => k H1 locs1 ls (hS' ▸ g1) (hS' ▸ g2) g3 hl)
theorem hd_iald {a len : Nat} {cA : ClassId} {f : Nat → Int32} {i : Int32} (n : Nat) (C : xC p s m args meth c own cc nL ret) (hK : va_K D vwCl tys s) (d : decode cc pc = .ok (.iaload, 1)) (hn : pc + 1 = n) (q0 t0 : Nat) (he : (w S)[q0]? = some (a, .inl (cA, len, .inl f))) (ht : tys[t0]? = some (cA, .int)) (hi : vp_in i len) (v : Int32) (hv : f i.toNatClampNeg = v) (k : XW p l e R s m args below meth c nL cells slots A D Q w S n lv (.int v :: st)) : XW p l e R s m args below meth c nL cells slots A D Q w S pc lv (.int i :: .ref a :: st) := by
  subst hn; subst hv
  exact fun H locs ls h1 h2 h3 hl => va_iald (D := D) C.1 C.2.1 hK h1 q0 t0 he ht hi d (k H locs ls h1 h2 h3 hl)
theorem hd_lald {a len : Nat} {cA : ClassId} {f : Nat → Int64} {i : Int32} (n : Nat) (C : xC p s m args meth c own cc nL ret) (hK : va_K D vwCl tys s) (d : decode cc pc = .ok (.laload, 1)) (hn : pc + 1 = n) (q0 t0 : Nat) (he : (w S)[q0]? = some (a, .inl (cA, len, .inr (.inl f)))) (ht : tys[t0]? = some (cA, .long)) (hi : vp_in i len) (v : Int64) (hv : f i.toNatClampNeg = v) (k : XW p l e R s m args below meth c nL cells slots A D Q w S n lv (.long v :: st)) : XW p l e R s m args below meth c nL cells slots A D Q w S pc lv (.int i :: .ref a :: st) := by
  subst hn; subst hv
  exact fun H locs ls h1 h2 h3 hl => va_lald (D := D) C.1 C.2.1 hK h1 q0 t0 he ht hi d (k H locs ls h1 h2 h3 hl)
theorem hd_aald {a len r : Nat} {cA : ClassId} {Cn : String} {f : Nat → Option Nat} {i : Int32} (n : Nat) (C : xC p s m args meth c own cc nL ret) (hK : va_K D vwCl tys s) (d : decode cc pc = .ok (.aaload, 1)) (hn : pc + 1 = n) (q0 t0 : Nat) (he : (w S)[q0]? = some (a, .inl (cA, len, .inr (.inr (.inr (.inr f)))))) (ht : tys[t0]? = some (cA, .object Cn)) (hi : vp_in i len) (hv : f i.toNatClampNeg = some r) (k : XW p l e R s m args below meth c nL cells slots A D Q w S n lv (.ref r :: st)) : XW p l e R s m args below meth c nL cells slots A D Q w S pc lv (.int i :: .ref a :: st) := by
  subst hn
  exact fun H locs ls h1 h2 h3 hl => va_aldq (D := D) C.1 C.2.1 hK h1 q0 t0 he ht hi d (by rw [hv]; exact k H locs ls h1 h2 h3 hl)
theorem hd_iast {S' : σ} {a len : Nat} {cA : ClassId} {f : Nat → Int32} {i x : Int32} (n : Nat) (C : xC p s m args meth c own cc nL ret) (hK : va_K D vwCl tys s) (d : decode cc pc = .ok (.iastore, 1)) (hn : pc + 1 = n) (q0 t0 : Nat) (he : (w S)[q0]? = some (a, .inl (cA, len, .inl f))) (ht : tys[t0]? = some (cA, .int)) (hi : vp_in i len) (hS' : (w S).set q0 (a, .inl (cA, len, .inl (upd f i.toNatClampNeg x))) = w S') (k : XW p l e R s m args below meth c nL cells slots A D Q w S' n lv st) : XW p l e R s m args below meth c nL cells slots A D Q w S pc lv (.int x :: .int i :: .ref a :: st) := by
  subst hn
  exact fun H locs ls h1 h2 h3 hl => va_iast (D := D) C.1 C.2.1 hK h1 h2 h3 q0 t0 he ht hi d (fun H1 locs1 g1 g2 g3 => k H1 locs1 ls (hS' ▸ g1) (hS' ▸ g2) g3 hl)
theorem hd_last {S' : σ} {a len : Nat} {cA : ClassId} {f : Nat → Int64} {i : Int32} {x : Int64} (n : Nat) (C : xC p s m args meth c own cc nL ret) (hK : va_K D vwCl tys s) (d : decode cc pc = .ok (.lastore, 1)) (hn : pc + 1 = n) (q0 t0 : Nat) (he : (w S)[q0]? = some (a, .inl (cA, len, .inr (.inl f)))) (ht : tys[t0]? = some (cA, .long)) (hi : vp_in i len) (hS' : (w S).set q0 (a, .inl (cA, len, .inr (.inl (vp_updL f i.toNatClampNeg x)))) = w S') (k : XW p l e R s m args below meth c nL cells slots A D Q w S' n lv st) : XW p l e R s m args below meth c nL cells slots A D Q w S pc lv (.long x :: .int i :: .ref a :: st) := by
  subst hn
  exact fun H locs ls h1 h2 h3 hl => va_last (D := D) C.1 C.2.1 hK h1 h2 h3 q0 t0 he ht hi d (fun H1 locs1 g1 g2 g3 => k H1 locs1 ls (hS' ▸ g1) (hS' ▸ g2) g3 hl)
theorem hd_alen {a : Nat} {cA : ClassId} {x : vp_A} {ty : FieldType} (n : Nat) (C : xC p s m args meth c own cc nL ret) (hK : va_K D vwCl tys s) (d : decode cc pc = .ok (.arraylength, 1)) (hn : pc + 1 = n) (q0 t0 : Nat) (he : (w S)[q0]? = some (a, .inl (cA, x))) (ht : tys[t0]? = some (cA, ty)) (v : Int32) (hv : Int32.ofNat x.1 = v) (k : XW p l e R s m args below meth c nL cells slots A D Q w S n lv (.int v :: st)) : XW p l e R s m args below meth c nL cells slots A D Q w S pc lv (.ref a :: st) := by
  subst hn
  exact fun H locs ls h1 h2 h3 hl => va_alen (D := D) C.1 C.2.1 hK h1 q0 t0 he ht hv d (k H locs ls h1 h2 h3 hl)
theorem hd_copyi {S' : σ} {a a0 n0 n1 index : Nat} {c0 c1 : ClassId} {f g : Nat → Int32} {sp dp cn : Int32} (n : Nat) (C : xC p s m args meth c own cc nL ret) (hK : va_K D vwCl tys s) (d : decode cc pc = .ok (.invokestatic index, 3)) (hn : pc + 3 = n) (hlink : Cond.methodLink own index arraycopyName ∈ lw_good) (hnat : Cond.native arraycopyName ∈ lw_good) (hstat : Cond.static arraycopyName ∈ lw_good) (hini : Cond.initialized "java/lang/System" ∈ lw_good) (q0 q1 t0 t1 : Nat) (he0 : (w S)[q0]? = some (a0, .inl (c0, n0, .inl f))) (he1 : (w S)[q1]? = some (a, .inl (c1, n1, .inl g))) (ht0 : tys[t0]? = some (c0, .int)) (ht1 : tys[t1]? = some (c1, .int)) (h1 : ¬ sp < 0) (h2 : ¬ dp < 0) (h3 : ¬ cn < 0) (h4 : sp.toNatClampNeg + cn.toNatClampNeg ≤ n0) (h5 : dp.toNatClampNeg + cn.toNatClampNeg ≤ n1) (hframes : 1 ≤ R.frames) (hlocals : (st.map fun v => v.category).sum + (nativeFrameWords "java/lang/System" "arraycopy" 5 + 11) ≤ R.locals) (hS' : (w S).set q1 (a, .inl (c1, n1, .inl (va_cpy f g sp.toNatClampNeg dp.toNatClampNeg cn.toNatClampNeg))) = w S') (k : XW p l e R s m args below meth c nL cells slots A D Q w S' n lv st) : XW p l e R s m args below meth c nL cells slots A D Q w S pc lv (.int cn :: .int dp :: .ref a :: .int sp :: .ref a0 :: st) := by
  subst hn
  exact fun H locs ls g1 g2 g3 hl => va_copyi (D := D) C.1 C.2.1 (C.2.2.1.trans hl.1.symm) C.2.2.2.1 (C.2.2.2.2.1 _ hlink) (C.2.2.2.2.1 _ hnat) (C.2.2.2.2.1 _ hstat) (C.2.2.2.2.1 _ hini) hK g1 g2 g3 q0 q1 t0 t1 he0 he1 ht0 ht1 rfl h1 h2 h3 h4 h5 (fun _ _ => rfl) hframes hlocals d (fun H1 locs1 g1 g2 g3 => k H1 locs1 ls (hS' ▸ g1) (hS' ▸ g2) g3 hl)
theorem hd_copyl {S' : σ} {a a0 n0 n1 index : Nat} {c0 c1 : ClassId} {f g : Nat → Int64} {sp dp cn : Int32} (n : Nat) (C : xC p s m args meth c own cc nL ret) (hK : va_K D vwCl tys s) (d : decode cc pc = .ok (.invokestatic index, 3)) (hn : pc + 3 = n) (hlink : Cond.methodLink own index arraycopyName ∈ lw_good) (hnat : Cond.native arraycopyName ∈ lw_good) (hstat : Cond.static arraycopyName ∈ lw_good) (hini : Cond.initialized "java/lang/System" ∈ lw_good) (q0 q1 t0 t1 : Nat) (he0 : (w S)[q0]? = some (a0, .inl (c0, n0, .inr (.inl f)))) (he1 : (w S)[q1]? = some (a, .inl (c1, n1, .inr (.inl g)))) (ht0 : tys[t0]? = some (c0, .long)) (ht1 : tys[t1]? = some (c1, .long)) (h1 : ¬ sp < 0) (h2 : ¬ dp < 0) (h3 : ¬ cn < 0) (h4 : sp.toNatClampNeg + cn.toNatClampNeg ≤ n0) (h5 : dp.toNatClampNeg + cn.toNatClampNeg ≤ n1) (hframes : 1 ≤ R.frames) (hlocals : (st.map fun v => v.category).sum + (nativeFrameWords "java/lang/System" "arraycopy" 5 + 11) ≤ R.locals) (hS' : (w S).set q1 (a, .inl (c1, n1, .inr (.inl (va_cpy f g sp.toNatClampNeg dp.toNatClampNeg cn.toNatClampNeg)))) = w S') (k : XW p l e R s m args below meth c nL cells slots A D Q w S' n lv st) : XW p l e R s m args below meth c nL cells slots A D Q w S pc lv (.int cn :: .int dp :: .ref a :: .int sp :: .ref a0 :: st) := by
  subst hn
  exact fun H locs ls g1 g2 g3 hl => va_copyl (D := D) C.1 C.2.1 (C.2.2.1.trans hl.1.symm) C.2.2.2.1 (C.2.2.2.2.1 _ hlink) (C.2.2.2.2.1 _ hnat) (C.2.2.2.2.1 _ hstat) (C.2.2.2.2.1 _ hini) hK g1 g2 g3 q0 q1 t0 t1 he0 he1 ht0 ht1 rfl h1 h2 h3 h4 h5 (fun _ _ => rfl) hframes hlocals d (fun H1 locs1 g1 g2 g3 => k H1 locs1 ls (hS' ▸ g1) (hS' ▸ g2) g3 hl)
theorem hd_getsw {t index : Nat} (n : Nat) (C : xC p s m args meth c own cc nL ret) (hZ : zS (some t) A s s.heap) (d : decode cc pc = .ok (.getstatic index, 3)) (hn : pc + 3 = n) (hlink : Cond.fieldLink own index RX2 "SETS_WITH" "[J" ∈ lw_good) (k : XW p l e R s m args below meth c nL cells slots A D Q w S n lv (.ref t :: st)) : XW p l e R s m args below meth c nL cells slots A D Q w S pc lv st := by
  subst hn
  exact fun H locs ls h1 h2 h3 hl => va_gets (C := RX2) C.1 C.2.1 hZ.1 h3 C.2.2.2.1 (C.2.2.2.2.1 _ hlink) (fun _ h => h) d (k H locs ls h1 h2 h3 hl)
theorem hd_ldsw {t : Nat} {i : Int32} (n : Nat) (C : xC p s m args meth c own cc nL ret) (hZ : zS (some t) A s s.heap) (d : decode cc pc = .ok (.laload, 1)) (hn : pc + 1 = n) (hi : vp_in i 6) (v : Int64) (hv : tSW i.toNatClampNeg = v) (k : XW p l e R s m args below meth c nL cells slots A D Q w S n lv (.long v :: st)) : XW p l e R s m args below meth c nL cells slots A D Q w S pc lv (.int i :: .ref t :: st) := by
  subst hn; subst hv
  exact fun H locs ls h1 h2 h3 hl => va_tl C.1 C.2.1 hZ.2 h3 hi rfl d (k H locs ls h1 h2 h3 hl)
/-- the world behind a method -/
def cB {σ : Type} (D : va_G) (tys : List (ClassId × FieldType)) (w : σ → va_W) (A : Nat → Prop) : σ → State → Prop := fun u t => va_P D vwCl (w u) t.heap ∧ va_K D vwCl tys t ∧ va_D A (w u)
theorem hd_iret {post : Int32 → σ → Prop} {v : Int32} (C : xC p s m args meth c own cc nL (some .int)) (hK : va_K D vwCl tys s) (d : decode cc pc = .ok (.ireturn, 1)) (h : post v S) : XW p l e R s m args below meth c nL cells slots A D (MQ below (va_Qi post (cB D tys w A) A) args s cells slots A) w S pc lv ([.int v]) :=
  fun H locs ls h1 h2 h3 hl => W.iret C.1 C.2.1 C.2.2.2.2.2.1 (fun t ht hW => ⟨⟨v, S, rfl, h, by rw [ht]; exact h1, va_K.moved hW.alike hK, h2⟩, h3.F ht⟩) h3.2.2 d C.2.2.2.2.2.2
theorem hd_zret {post : Int32 → σ → Prop} {v : Int32} (C : xC p s m args meth c own cc nL (some .boolean)) (hK : va_K D vwCl tys s) (d : decode cc pc = .ok (.ireturn, 1)) (hb : v = 0 ∨ v = 1) (h : post v S) : XW p l e R s m args below meth c nL cells slots A D (MQ below (va_Qi post (cB D tys w A) A) args s cells slots A) w S pc lv ([.int v]) :=
  fun H locs ls h1 h2 h3 hl => W.zret C.1 C.2.1 C.2.2.2.2.2.1 (by rcases hb with rfl | rfl <;> rfl) (fun t ht hW => ⟨⟨v, S, rfl, h, by rw [ht]; exact h1, va_K.moved hW.alike hK, h2⟩, h3.F ht⟩) h3.2.2 d C.2.2.2.2.2.2
theorem hd_lret {post : Int64 → σ → Prop} {v : Int64} (C : xC p s m args meth c own cc nL (some .long)) (hK : va_K D vwCl tys s) (d : decode cc pc = .ok (.lreturn, 1)) (h : post v S) : XW p l e R s m args below meth c nL cells slots A D (MQ below (va_Ql post (cB D tys w A) A) args s cells slots A) w S pc lv ([.long v]) :=
  fun H locs ls h1 h2 h3 hl => W.lret C.1 C.2.1 C.2.2.2.2.2.1 (fun t ht hW => ⟨⟨v, S, rfl, h, by rw [ht]; exact h1, va_K.moved hW.alike hK, h2⟩, h3.F ht⟩) h3.2.2 d C.2.2.2.2.2.2
theorem hd_vret {post : σ → Prop} (C : xC p s m args meth c own cc nL none) (hK : va_K D vwCl tys s) (d : decode cc pc = .ok (.return_, 1)) (h : post S) : XW p l e R s m args below meth c nL cells slots A D (MQ below (va_Qv post (cB D tys w A) A) args s cells slots A) w S pc lv [] :=
  fun H locs ls h1 h2 h3 hl => W.vret C.1 C.2.1 C.2.2.2.2.2.1 (fun t ht hW => ⟨⟨S, rfl, h, by rw [ht]; exact h1, va_K.moved hW.alike hK, h2⟩, h3.F ht⟩) h3.2.2 d C.2.2.2.2.2.2
end HDF
/-- a contract: from the world of S the method comes to its end, with 'post' of its answer and of the world's new state -/
def ctI {σ : Type} (l : Launch) (D : va_G) (tys : List (ClassId × FieldType)) (t : Option Nat) (w : σ → va_W) (y : MethodName) (cc : ByteArray) (nL : Nat) (ret : Option FieldType) (rm : Room) (av : List Value) (S : σ) (post : Int32 → σ → Prop) : Prop :=
  ∀ sz : Nat, Met l y (.code y cc nL ret :: lw_good) rm (va_Pc av (fun U => U.heap.size = sz ∧ va_P D vwCl (w S) U.heap ∧ va_K D vwCl tys U ∧ va_D (fun _ => True) (w S) ∧ zS t (va_A (w S) sz) U U.heap)) (va_Qi post (cB D tys w (va_A (w S) sz)) (va_A (w S) sz)) 0 0 (va_A (w S) sz)
theorem ctI_of {σ : Type} {l : Launch} {D : va_G} {tys : List (ClassId × FieldType)} {t : Option Nat} {w : σ → va_W} {y : MethodName} {cc : ByteArray} {nL : Nat} {ret : Option FieldType} {rm : Room} {av : List Value} {S : σ} {post : Int32 → σ → Prop} (lv : List (Nat × Value)) (hy : plainName y.cls = true) (hav : (lg_sl av).length ≤ nL) (hlv : lv_args 0 av = lv)
    (body : ∀ (p : Program) (e : Env) (s : State) (m : MethodId) (args : Array Value) (below : List Frame) (meth : Method) (c : Code) (A : Nat → Prop), xC p s m args meth c y.cls cc nL ret → va_K D vwCl tys s → zS t A s s.heap → (∀ q, s.heap.size ≤ q → A q) → XW p l e rm s m args below meth c nL 0 0 A D (MQ below (va_Qi post (cB D tys w A) A) args s 0 0 A) w S 0 lv []) : ctI l D tys t w y cc nL ret rm av S post := by
  intro sz
  refine Met.ofW (cc := cc) (maxL := nL) (ret := ret) hy rfl ?_
  intro p e s m args below meth c s₁ B hml hv
  obtain ⟨rfl, hsz, hP, hK, hD0, hZ⟩ := hv
  subst hsz
  have hts := atoms_spec (ws := .code y cc nL ret :: lw_good) B.pre
  have hown : s.vm.findClass y.cls = some m.cls := findClass_of_methodNamed B.named
  have hC : xC p s m av.toArray meth c y.cls cc nL ret := ⟨B.exec, B.bytes, hml, hown, fun w h => hts w (List.mem_cons_of_mem _ h), B.returns, B.notSynchronized⟩
  have hD := hD0.self (sz := s.heap.size)
  have hA : ∀ q : Nat, s.heap.size ≤ q → va_A (w S) s.heap.size q := fun q h => Or.inr h
  have hS : va_S (va_A (w S) s.heap.size) s.heap s.heap [] := va_S.rf
  have hl := lv_entry av (n := nL) hav
  rw [lg_entry_eq]
  rw [hlv] at hl
  exact body p e s m av.toArray below meth c _ hC hK hZ hA s.heap [] _ hP hD hS hl
/-- a contract: from the world of S the method comes to its end, with 'post' of its answer and of the world's new state -/
def ctL {σ : Type} (l : Launch) (D : va_G) (tys : List (ClassId × FieldType)) (t : Option Nat) (w : σ → va_W) (y : MethodName) (cc : ByteArray) (nL : Nat) (ret : Option FieldType) (rm : Room) (av : List Value) (S : σ) (post : Int64 → σ → Prop) : Prop :=
  ∀ sz : Nat, Met l y (.code y cc nL ret :: lw_good) rm (va_Pc av (fun U => U.heap.size = sz ∧ va_P D vwCl (w S) U.heap ∧ va_K D vwCl tys U ∧ va_D (fun _ => True) (w S) ∧ zS t (va_A (w S) sz) U U.heap)) (va_Ql post (cB D tys w (va_A (w S) sz)) (va_A (w S) sz)) 0 0 (va_A (w S) sz)
theorem ctL_of {σ : Type} {l : Launch} {D : va_G} {tys : List (ClassId × FieldType)} {t : Option Nat} {w : σ → va_W} {y : MethodName} {cc : ByteArray} {nL : Nat} {ret : Option FieldType} {rm : Room} {av : List Value} {S : σ} {post : Int64 → σ → Prop} (lv : List (Nat × Value)) (hy : plainName y.cls = true) (hav : (lg_sl av).length ≤ nL) (hlv : lv_args 0 av = lv)
    (body : ∀ (p : Program) (e : Env) (s : State) (m : MethodId) (args : Array Value) (below : List Frame) (meth : Method) (c : Code) (A : Nat → Prop), xC p s m args meth c y.cls cc nL ret → va_K D vwCl tys s → zS t A s s.heap → (∀ q, s.heap.size ≤ q → A q) → XW p l e rm s m args below meth c nL 0 0 A D (MQ below (va_Ql post (cB D tys w A) A) args s 0 0 A) w S 0 lv []) : ctL l D tys t w y cc nL ret rm av S post := by
  intro sz
  refine Met.ofW (cc := cc) (maxL := nL) (ret := ret) hy rfl ?_
  intro p e s m args below meth c s₁ B hml hv
  obtain ⟨rfl, hsz, hP, hK, hD0, hZ⟩ := hv
  subst hsz
  have hts := atoms_spec (ws := .code y cc nL ret :: lw_good) B.pre
  have hown : s.vm.findClass y.cls = some m.cls := findClass_of_methodNamed B.named
  have hC : xC p s m av.toArray meth c y.cls cc nL ret := ⟨B.exec, B.bytes, hml, hown, fun w h => hts w (List.mem_cons_of_mem _ h), B.returns, B.notSynchronized⟩
  have hD := hD0.self (sz := s.heap.size)
  have hA : ∀ q : Nat, s.heap.size ≤ q → va_A (w S) s.heap.size q := fun q h => Or.inr h
  have hS : va_S (va_A (w S) s.heap.size) s.heap s.heap [] := va_S.rf
  have hl := lv_entry av (n := nL) hav
  rw [lg_entry_eq]
  rw [hlv] at hl
  exact body p e s m av.toArray below meth c _ hC hK hZ hA s.heap [] _ hP hD hS hl
/-- a contract: from the world of S the method comes to its end, with 'post' of its answer and of the world's new state -/
def ctV {σ : Type} (l : Launch) (D : va_G) (tys : List (ClassId × FieldType)) (t : Option Nat) (w : σ → va_W) (y : MethodName) (cc : ByteArray) (nL : Nat) (ret : Option FieldType) (rm : Room) (av : List Value) (S : σ) (post : σ → Prop) : Prop :=
  ∀ sz : Nat, Met l y (.code y cc nL ret :: lw_good) rm (va_Pc av (fun U => U.heap.size = sz ∧ va_P D vwCl (w S) U.heap ∧ va_K D vwCl tys U ∧ va_D (fun _ => True) (w S) ∧ zS t (va_A (w S) sz) U U.heap)) (va_Qv post (cB D tys w (va_A (w S) sz)) (va_A (w S) sz)) 0 0 (va_A (w S) sz)
theorem ctV_of {σ : Type} {l : Launch} {D : va_G} {tys : List (ClassId × FieldType)} {t : Option Nat} {w : σ → va_W} {y : MethodName} {cc : ByteArray} {nL : Nat} {ret : Option FieldType} {rm : Room} {av : List Value} {S : σ} {post : σ → Prop} (lv : List (Nat × Value)) (hy : plainName y.cls = true) (hav : (lg_sl av).length ≤ nL) (hlv : lv_args 0 av = lv)
    (body : ∀ (p : Program) (e : Env) (s : State) (m : MethodId) (args : Array Value) (below : List Frame) (meth : Method) (c : Code) (A : Nat → Prop), xC p s m args meth c y.cls cc nL ret → va_K D vwCl tys s → zS t A s s.heap → (∀ q, s.heap.size ≤ q → A q) → XW p l e rm s m args below meth c nL 0 0 A D (MQ below (va_Qv post (cB D tys w A) A) args s 0 0 A) w S 0 lv []) : ctV l D tys t w y cc nL ret rm av S post := by
  intro sz
  refine Met.ofW (cc := cc) (maxL := nL) (ret := ret) hy rfl ?_
  intro p e s m args below meth c s₁ B hml hv
  obtain ⟨rfl, hsz, hP, hK, hD0, hZ⟩ := hv
  subst hsz
  have hts := atoms_spec (ws := .code y cc nL ret :: lw_good) B.pre
  have hown : s.vm.findClass y.cls = some m.cls := findClass_of_methodNamed B.named
  have hC : xC p s m av.toArray meth c y.cls cc nL ret := ⟨B.exec, B.bytes, hml, hown, fun w h => hts w (List.mem_cons_of_mem _ h), B.returns, B.notSynchronized⟩
  have hD := hD0.self (sz := s.heap.size)
  have hA : ∀ q : Nat, s.heap.size ≤ q → va_A (w S) s.heap.size q := fun q h => Or.inr h
  have hS : va_S (va_A (w S) s.heap.size) s.heap s.heap [] := va_S.rf
  have hl := lv_entry av (n := nL) hav
  rw [lg_entry_eq]
  rw [hlv] at hl
  exact body p e s m av.toArray below meth c _ hC hK hZ hA s.heap [] _ hP hD hS hl
theorem good_tbl : ∀ x ∈ lw_good, (x.onTables && x.keeps) = true ∨ ∃ ty, x = .arrayClass ty := by
  exact fun x hx => good_of_word (List.mem_filter.mp hx).2
theorem good_in {z : Cond} (hz : z ∈ lw_good) : GoodIn lw_good (z :: lw_good) := fun x hx => by
  rcases List.mem_cons.mp hx with rfl | h
  · exact ⟨hz, good_tbl _ hz⟩
  · exact ⟨h, good_tbl _ h⟩
/-- the words of a call: of an own method by invokevirtual (C: the receiver's kind), static, special -/
def kV (own : String) (index : Nat) (y : MethodName) (cc : ByteArray) (nL : Nat) (ret : Option FieldType) (n : Nat) : Prop :=
  Cond.code y cc nL ret ∈ lw_good ∧ Cond.methodLink own index y ∈ lw_good ∧ Cond.initialized y.cls ∈ lw_good ∧ (y.cls ≠ "java/lang/invoke/MethodHandle" ∧ y.cls ≠ "java/lang/invoke/VarHandle" ∧ (parseMethodDescriptor y.desc).map (fun d => d.parameters.length) = some n) ∧ Cond.instanceMethod y ∈ lw_good ∧ Cond.selects y.cls y y ∈ lw_good
def kT (own : String) (index : Nat) (y : MethodName) (cc : ByteArray) (nL : Nat) (ret : Option FieldType) (n : Nat) : Prop :=
  Cond.code y cc nL ret ∈ lw_good ∧ Cond.methodLink own index y ∈ lw_good ∧ Cond.initialized y.cls ∈ lw_good ∧ (y.cls ≠ "java/lang/invoke/MethodHandle" ∧ y.cls ≠ "java/lang/invoke/VarHandle" ∧ (parseMethodDescriptor y.desc).map (fun d => d.parameters.length) = some n) ∧ Cond.static y ∈ lw_good
theorem blind_of {σ : Type} {D : va_G} {tys : List (ClassId × FieldType)} {t : Option Nat} {w : σ → va_W} {av : List Value} {S : σ} {sz : Nat} : FrameBlind (va_Pc av (fun U => U.heap.size = sz ∧ va_P D vwCl (w S) U.heap ∧ va_K D vwCl tys U ∧ va_D (fun _ => True) (w S) ∧ zS t (va_A (w S) sz) U U.heap)) := by
  intro a U g mk q
  obtain ⟨q0, q1, qP, qK, qD, qZ⟩ := q
  exact ⟨q0, q1, qP, va_K.moved (u := U) (U := U.calling g mk a) (Vm.Alike.refl U.vm) qK, qD, zS.moved (u := U) (U := U.calling g mk a) (Vm.Alike.refl U.vm) qZ⟩
section HDC
variable {p : Program} {l : Launch} {e : Env} {R : Room} {s : State} {m : MethodId} {args : Array Value} {below : List Frame} {meth : Method} {c : Code} {own : String} {cc : ByteArray} {nL : Nat} {ret : Option FieldType} {cells slots : Nat} {A : Nat → Prop} {D : va_G} {tys : List (ClassId × FieldType)} {Q : State → Prop} {σ : Type} {w : σ → va_W} {S : σ} {pc : Nat} {lv : List (Nat × Value)} {st rest : List Value}
theorem pre_of {H : Heap} {locs : List Loc} {t : Option Nat} {As : List Value} (hK : va_K D vwCl tys s) (hZ : zS t A s s.heap) (hA : ∀ q, s.heap.size ≤ q → A q) (h1 : va_P D vwCl (w S) H) (h2 : va_D A (w S)) (h3 : va_S A s.heap H locs) : ∀ U : State, U.heap = H → s.WarmedH U.vm → va_Pc As (fun U => U.heap.size = H.size ∧ va_P D vwCl (w S) U.heap ∧ va_K D vwCl tys U ∧ va_D (fun _ => True) (w S) ∧ zS t (va_A (w S) H.size) U U.heap) As.toArray U := by
  intro U hU hW
  have hF : ∀ q, va_A (w S) H.size q → A q := by
    intro q h
    rcases h with ⟨k, e, h⟩ | h
    · exact h2.2 k (q, e) h
    · exact hA q (Nat.le_trans h3.1 h)
  refine ⟨rfl, by rw [hU], by rw [hU]; exact h1, va_K.moved hW.alike hK, h2.weaken (fun _ _ _ _ => trivial), ?_⟩
  rw [hU]
  exact ((hZ.kept h3.2.1).narrow hF).moved hW.alike
theorem free_of {H : Heap} {locs : List Loc} (hA : ∀ q, s.heap.size ≤ q → A q) (h2 : va_D A (w S)) (h3 : va_S A s.heap H locs) : ∀ q, va_A (w S) H.size q → A q := by
  intro q h
  rcases h with ⟨k, e, h⟩ | h
  · exact h2.2 k (q, e) h
  · exact hA q (Nat.le_trans h3.1 h)
theorem hd_callVI {index k : Nat} {y : MethodName} {c2 : ByteArray} {nL2 : Nat} {ret2 : Option FieldType} {rm : Room} {As : List Value} {b : Nat} {t : Option Nat} {post : Int32 → σ → Prop} (n : Nat) (C : xC p s m args meth c own cc nL ret) (hK : va_K D vwCl tys s) (hZ : zS t A s s.heap) (hA : ∀ q, s.heap.size ≤ q → A q) (hcs : cells ≤ R.cells ∧ slots ≤ R.slots) (d : decode cc pc = .ok (.invokevirtual index, 3)) (hn : pc + 3 = n) (hw : kV own index y c2 nL2 ret2 k) (hM : ctI l D tys t w y c2 nL2 ret2 rm (.ref b :: As) S post) (hrmc : rm.cells = 0 ∧ rm.slots = 0) (hR : rm.frames + 1 ≤ R.frames ∧ 8 + (nL2 + 11) + rm.locals ≤ R.locals) (q0 ci : Nat) {fs : List Value} {q : vw_C} (hre : (w S)[q0]? = some (b, .inr (ci, fs))) (hrc : vwCl[ci]? = some q) (hrn : q.1 = y.cls) (hlen : As.length = k) (hst : st = As.reverse ++ .ref b :: rest) (hrm : (rest.map fun v => v.category).sum ≤ 8) (kk : ∀ (r : Int32) (u : σ), post r u → XW p l e R s m args below meth c nL cells slots A D Q w u n lv (.int r :: rest)) : XW p l e R s m args below meth c nL cells slots A D Q w S pc lv st := by
  subst hn
  intro H locs ls h1 h2 h3 hl
  have hF := free_of hA h2 h3
  obtain ⟨rf, rc, rs, rl⟩ := rm
  obtain ⟨e1, e2⟩ := hrmc
  dsimp only at e1 e2
  subst e1; subst e2
  refine va_calli (va_runV (C := y.cls) (As := As) (rest := rest) ⟨C.1, C.2.1, C.2.2.1, C.2.2.2.1, C.2.2.2.2.1⟩ (hM H.size) ⟨callB_of k C.2.2.2.2.1 (good_in hw.1) rfl rfl rfl (C.2.2.2.2.1 _ hw.2.2.1) (C.2.2.2.2.1 _ hw.2.1) hw.2.2.2.1 hR, C.2.2.2.2.1 _ hw.2.2.2.2.1, C.2.2.2.2.1 _ hw.2.2.2.2.2⟩ ⟨blind_of, hrn ▸ va_recv hK h1 hrc hre, pre_of hK hZ hA h1 h2 h3⟩ rfl hlen hl.1 hst (lv_room hrm) d ⟨by rw [show (0 : Nat) = 0 from rfl]; exact hcs.1, hcs.2⟩) h3 (fun q _ h => hF q h) hF (fun r u t2 H1 locs1 ht hvm hp hB hz1 hk1 hS1 => ?_)
  obtain ⟨g1, -, g2⟩ := hB
  rw [ht] at g1
  exact kk r u hp H1 locs1 ls g1 (g2.weaken (fun _ q _ h => hF q.1 h)) hS1 hl
theorem hd_callSI {index k : Nat} {y : MethodName} {c2 : ByteArray} {nL2 : Nat} {ret2 : Option FieldType} {rm : Room} {As : List Value} {t : Option Nat} {post : Int32 → σ → Prop} (n : Nat) (C : xC p s m args meth c own cc nL ret) (hK : va_K D vwCl tys s) (hZ : zS t A s s.heap) (hA : ∀ q, s.heap.size ≤ q → A q) (hcs : cells ≤ R.cells ∧ slots ≤ R.slots) (d : decode cc pc = .ok (.invokestatic index, 3)) (hn : pc + 3 = n) (hw : kT own index y c2 nL2 ret2 k) (hM : ctI l D tys t w y c2 nL2 ret2 rm As S post) (hrmc : rm.cells = 0 ∧ rm.slots = 0) (hR : rm.frames + 1 ≤ R.frames ∧ 8 + (nL2 + 11) + rm.locals ≤ R.locals) (hlen : As.length = k) (hst : st = As.reverse ++ rest) (hrm : (rest.map fun v => v.category).sum ≤ 8) (kk : ∀ (r : Int32) (u : σ), post r u → XW p l e R s m args below meth c nL cells slots A D Q w u n lv (.int r :: rest)) : XW p l e R s m args below meth c nL cells slots A D Q w S pc lv st := by
  subst hn
  intro H locs ls h1 h2 h3 hl
  have hF := free_of hA h2 h3
  obtain ⟨rf, rc, rs, rl⟩ := rm
  obtain ⟨e1, e2⟩ := hrmc
  dsimp only at e1 e2
  subst e1; subst e2
  refine va_calli (va_runS (As := As) (rest := rest) ⟨C.1, C.2.1, C.2.2.1, C.2.2.2.1, C.2.2.2.2.1⟩ (hM H.size) ⟨callB_of k C.2.2.2.2.1 (good_in hw.1) rfl rfl rfl (C.2.2.2.2.1 _ hw.2.2.1) (C.2.2.2.2.1 _ hw.2.1) hw.2.2.2.1 hR, C.2.2.2.2.1 _ hw.2.2.2.2⟩ ⟨blind_of, pre_of hK hZ hA h1 h2 h3⟩ rfl hlen hl.1 hst (lv_room hrm) d ⟨hcs.1, hcs.2⟩) h3 (fun q _ h => hF q h) hF (fun r u t2 H1 locs1 ht hvm hp hB hz1 hk1 hS1 => ?_)
  obtain ⟨g1, -, g2⟩ := hB
  rw [ht] at g1
  exact kk r u hp H1 locs1 ls g1 (g2.weaken (fun _ q _ h => hF q.1 h)) hS1 hl
theorem hd_callVL {index k : Nat} {y : MethodName} {c2 : ByteArray} {nL2 : Nat} {ret2 : Option FieldType} {rm : Room} {As : List Value} {b : Nat} {t : Option Nat} {post : Int64 → σ → Prop} (n : Nat) (C : xC p s m args meth c own cc nL ret) (hK : va_K D vwCl tys s) (hZ : zS t A s s.heap) (hA : ∀ q, s.heap.size ≤ q → A q) (hcs : cells ≤ R.cells ∧ slots ≤ R.slots) (d : decode cc pc = .ok (.invokevirtual index, 3)) (hn : pc + 3 = n) (hw : kV own index y c2 nL2 ret2 k) (hM : ctL l D tys t w y c2 nL2 ret2 rm (.ref b :: As) S post) (hrmc : rm.cells = 0 ∧ rm.slots = 0) (hR : rm.frames + 1 ≤ R.frames ∧ 8 + (nL2 + 11) + rm.locals ≤ R.locals) (q0 ci : Nat) {fs : List Value} {q : vw_C} (hre : (w S)[q0]? = some (b, .inr (ci, fs))) (hrc : vwCl[ci]? = some q) (hrn : q.1 = y.cls) (hlen : As.length = k) (hst : st = As.reverse ++ .ref b :: rest) (hrm : (rest.map fun v => v.category).sum ≤ 8) (kk : ∀ (r : Int64) (u : σ), post r u → XW p l e R s m args below meth c nL cells slots A D Q w u n lv (.long r :: rest)) : XW p l e R s m args below meth c nL cells slots A D Q w S pc lv st := by
  subst hn
  intro H locs ls h1 h2 h3 hl
  have hF := free_of hA h2 h3
  obtain ⟨rf, rc, rs, rl⟩ := rm
  obtain ⟨e1, e2⟩ := hrmc
  dsimp only at e1 e2
  subst e1; subst e2
  refine va_calll (va_runV (C := y.cls) (As := As) (rest := rest) ⟨C.1, C.2.1, C.2.2.1, C.2.2.2.1, C.2.2.2.2.1⟩ (hM H.size) ⟨callB_of k C.2.2.2.2.1 (good_in hw.1) rfl rfl rfl (C.2.2.2.2.1 _ hw.2.2.1) (C.2.2.2.2.1 _ hw.2.1) hw.2.2.2.1 hR, C.2.2.2.2.1 _ hw.2.2.2.2.1, C.2.2.2.2.1 _ hw.2.2.2.2.2⟩ ⟨blind_of, hrn ▸ va_recv hK h1 hrc hre, pre_of hK hZ hA h1 h2 h3⟩ rfl hlen hl.1 hst (lv_room hrm) d ⟨by rw [show (0 : Nat) = 0 from rfl]; exact hcs.1, hcs.2⟩) h3 (fun q _ h => hF q h) hF (fun r u t2 H1 locs1 ht hvm hp hB hz1 hk1 hS1 => ?_)
  obtain ⟨g1, -, g2⟩ := hB
  rw [ht] at g1
  exact kk r u hp H1 locs1 ls g1 (g2.weaken (fun _ q _ h => hF q.1 h)) hS1 hl
theorem hd_callSL {index k : Nat} {y : MethodName} {c2 : ByteArray} {nL2 : Nat} {ret2 : Option FieldType} {rm : Room} {As : List Value} {t : Option Nat} {post : Int64 → σ → Prop} (n : Nat) (C : xC p s m args meth c own cc nL ret) (hK : va_K D vwCl tys s) (hZ : zS t A s s.heap) (hA : ∀ q, s.heap.size ≤ q → A q) (hcs : cells ≤ R.cells ∧ slots ≤ R.slots) (d : decode cc pc = .ok (.invokestatic index, 3)) (hn : pc + 3 = n) (hw : kT own index y c2 nL2 ret2 k) (hM : ctL l D tys t w y c2 nL2 ret2 rm As S post) (hrmc : rm.cells = 0 ∧ rm.slots = 0) (hR : rm.frames + 1 ≤ R.frames ∧ 8 + (nL2 + 11) + rm.locals ≤ R.locals) (hlen : As.length = k) (hst : st = As.reverse ++ rest) (hrm : (rest.map fun v => v.category).sum ≤ 8) (kk : ∀ (r : Int64) (u : σ), post r u → XW p l e R s m args below meth c nL cells slots A D Q w u n lv (.long r :: rest)) : XW p l e R s m args below meth c nL cells slots A D Q w S pc lv st := by
  subst hn
  intro H locs ls h1 h2 h3 hl
  have hF := free_of hA h2 h3
  obtain ⟨rf, rc, rs, rl⟩ := rm
  obtain ⟨e1, e2⟩ := hrmc
  dsimp only at e1 e2
  subst e1; subst e2
  refine va_calll (va_runS (As := As) (rest := rest) ⟨C.1, C.2.1, C.2.2.1, C.2.2.2.1, C.2.2.2.2.1⟩ (hM H.size) ⟨callB_of k C.2.2.2.2.1 (good_in hw.1) rfl rfl rfl (C.2.2.2.2.1 _ hw.2.2.1) (C.2.2.2.2.1 _ hw.2.1) hw.2.2.2.1 hR, C.2.2.2.2.1 _ hw.2.2.2.2⟩ ⟨blind_of, pre_of hK hZ hA h1 h2 h3⟩ rfl hlen hl.1 hst (lv_room hrm) d ⟨hcs.1, hcs.2⟩) h3 (fun q _ h => hF q h) hF (fun r u t2 H1 locs1 ht hvm hp hB hz1 hk1 hS1 => ?_)
  obtain ⟨g1, -, g2⟩ := hB
  rw [ht] at g1
  exact kk r u hp H1 locs1 ls g1 (g2.weaken (fun _ q _ h => hF q.1 h)) hS1 hl
theorem hd_callVV {index k : Nat} {y : MethodName} {c2 : ByteArray} {nL2 : Nat} {ret2 : Option FieldType} {rm : Room} {As : List Value} {b : Nat} {t : Option Nat} {post : σ → Prop} (n : Nat) (C : xC p s m args meth c own cc nL ret) (hK : va_K D vwCl tys s) (hZ : zS t A s s.heap) (hA : ∀ q, s.heap.size ≤ q → A q) (hcs : cells ≤ R.cells ∧ slots ≤ R.slots) (d : decode cc pc = .ok (.invokevirtual index, 3)) (hn : pc + 3 = n) (hw : kV own index y c2 nL2 ret2 k) (hM : ctV l D tys t w y c2 nL2 ret2 rm (.ref b :: As) S post) (hrmc : rm.cells = 0 ∧ rm.slots = 0) (hR : rm.frames + 1 ≤ R.frames ∧ 8 + (nL2 + 11) + rm.locals ≤ R.locals) (q0 ci : Nat) {fs : List Value} {q : vw_C} (hre : (w S)[q0]? = some (b, .inr (ci, fs))) (hrc : vwCl[ci]? = some q) (hrn : q.1 = y.cls) (hlen : As.length = k) (hst : st = As.reverse ++ .ref b :: rest) (hrm : (rest.map fun v => v.category).sum ≤ 8) (kk : ∀ (u : σ), post u → XW p l e R s m args below meth c nL cells slots A D Q w u n lv rest) : XW p l e R s m args below meth c nL cells slots A D Q w S pc lv st := by
  subst hn
  intro H locs ls h1 h2 h3 hl
  have hF := free_of hA h2 h3
  obtain ⟨rf, rc, rs, rl⟩ := rm
  obtain ⟨e1, e2⟩ := hrmc
  dsimp only at e1 e2
  subst e1; subst e2
  refine va_callv (va_runV (C := y.cls) (As := As) (rest := rest) ⟨C.1, C.2.1, C.2.2.1, C.2.2.2.1, C.2.2.2.2.1⟩ (hM H.size) ⟨callB_of k C.2.2.2.2.1 (good_in hw.1) rfl rfl rfl (C.2.2.2.2.1 _ hw.2.2.1) (C.2.2.2.2.1 _ hw.2.1) hw.2.2.2.1 hR, C.2.2.2.2.1 _ hw.2.2.2.2.1, C.2.2.2.2.1 _ hw.2.2.2.2.2⟩ ⟨blind_of, hrn ▸ va_recv hK h1 hrc hre, pre_of hK hZ hA h1 h2 h3⟩ rfl hlen hl.1 hst (lv_room hrm) d ⟨by rw [show (0 : Nat) = 0 from rfl]; exact hcs.1, hcs.2⟩) h3 (fun q _ h => hF q h) hF (fun u t2 H1 locs1 ht hvm hp hB hz1 hk1 hS1 => ?_)
  obtain ⟨g1, -, g2⟩ := hB
  rw [ht] at g1
  exact kk u hp H1 locs1 ls g1 (g2.weaken (fun _ q _ h => hF q.1 h)) hS1 hl
theorem hd_callSV {index k : Nat} {y : MethodName} {c2 : ByteArray} {nL2 : Nat} {ret2 : Option FieldType} {rm : Room} {As : List Value} {t : Option Nat} {post : σ → Prop} (n : Nat) (C : xC p s m args meth c own cc nL ret) (hK : va_K D vwCl tys s) (hZ : zS t A s s.heap) (hA : ∀ q, s.heap.size ≤ q → A q) (hcs : cells ≤ R.cells ∧ slots ≤ R.slots) (d : decode cc pc = .ok (.invokestatic index, 3)) (hn : pc + 3 = n) (hw : kT own index y c2 nL2 ret2 k) (hM : ctV l D tys t w y c2 nL2 ret2 rm As S post) (hrmc : rm.cells = 0 ∧ rm.slots = 0) (hR : rm.frames + 1 ≤ R.frames ∧ 8 + (nL2 + 11) + rm.locals ≤ R.locals) (hlen : As.length = k) (hst : st = As.reverse ++ rest) (hrm : (rest.map fun v => v.category).sum ≤ 8) (kk : ∀ (u : σ), post u → XW p l e R s m args below meth c nL cells slots A D Q w u n lv rest) : XW p l e R s m args below meth c nL cells slots A D Q w S pc lv st := by
  subst hn
  intro H locs ls h1 h2 h3 hl
  have hF := free_of hA h2 h3
  obtain ⟨rf, rc, rs, rl⟩ := rm
  obtain ⟨e1, e2⟩ := hrmc
  dsimp only at e1 e2
  subst e1; subst e2
  refine va_callv (va_runS (As := As) (rest := rest) ⟨C.1, C.2.1, C.2.2.1, C.2.2.2.1, C.2.2.2.2.1⟩ (hM H.size) ⟨callB_of k C.2.2.2.2.1 (good_in hw.1) rfl rfl rfl (C.2.2.2.2.1 _ hw.2.2.1) (C.2.2.2.2.1 _ hw.2.1) hw.2.2.2.1 hR, C.2.2.2.2.1 _ hw.2.2.2.2⟩ ⟨blind_of, pre_of hK hZ hA h1 h2 h3⟩ rfl hlen hl.1 hst (lv_room hrm) d ⟨hcs.1, hcs.2⟩) h3 (fun q _ h => hF q h) hF (fun u t2 H1 locs1 ht hvm hp hB hz1 hk1 hS1 => ?_)
  obtain ⟨g1, -, g2⟩ := hB
  rw [ht] at g1
  exact kk u hp H1 locs1 ls g1 (g2.weaken (fun _ q _ h => hF q.1 h)) hS1 hl
end HDC
end
section
theorem inX0 : ∀ x ∈ u_ws RX0 TX0 4, x ∈ lw_good := fun x hx => List.mem_filter.mpr ⟨(show ∀ x ∈ u_ws RX0 TX0 4, x ∈ lw_tbl by decide +kernel) x hx, (show ∀ x ∈ u_ws RX0 TX0 4, goodWord x = true by decide +kernel) x hx⟩
theorem inX1 : ∀ x ∈ u_ws RX1 TX1 3, x ∈ lw_good := fun x hx => List.mem_filter.mpr ⟨(show ∀ x ∈ u_ws RX1 TX1 3, x ∈ lw_tbl by decide +kernel) x hx, (show ∀ x ∈ u_ws RX1 TX1 3, goodWord x = true by decide +kernel) x hx⟩
theorem inX2 : ∀ x ∈ u_ws RX2 TX2 14, x ∈ lw_good := fun x hx => List.mem_filter.mpr ⟨(show ∀ x ∈ u_ws RX2 TX2 14, x ∈ lw_tbl by decide +kernel) x hx, (show ∀ x ∈ u_ws RX2 TX2 14, goodWord x = true by decide +kernel) x hx⟩
theorem inX3 : ∀ x ∈ u_ws RX3 TX3 30, x ∈ lw_good := fun x hx => List.mem_filter.mpr ⟨(show ∀ x ∈ u_ws RX3 TX3 30, x ∈ lw_tbl by decide +kernel) x hx, (show ∀ x ∈ u_ws RX3 TX3 30, goodWord x = true by decide +kernel) x hx⟩
theorem kf_X0_9 : Cond.fieldLink RX0 9 "HourDoors$Door" "kind" "I" ∈ lw_good := gd_in 66 (by decide +kernel) rfl
theorem kf_X2_82 : Cond.fieldLink RX2 82 "HourDoors$Door" "kind" "I" ∈ lw_good := gd_in 67 (by decide +kernel) rfl
theorem kf_X0_15 : Cond.fieldLink RX0 15 "HourDoors$Door" "room" "I" ∈ lw_good := gd_in 68 (by decide +kernel) rfl
theorem kf_X2_85 : Cond.fieldLink RX2 85 "HourDoors$Door" "room" "I" ∈ lw_good := gd_in 69 (by decide +kernel) rfl
theorem kf_X0_18 : Cond.fieldLink RX0 18 "HourDoors$Door" "to" "I" ∈ lw_good := gd_in 70 (by decide +kernel) rfl
theorem kf_X2_88 : Cond.fieldLink RX2 88 "HourDoors$Door" "to" "I" ∈ lw_good := gd_in 71 (by decide +kernel) rfl
theorem kf_X0_21 : Cond.fieldLink RX0 21 "HourDoors$Door" "step" "I" ∈ lw_good := gd_in 72 (by decide +kernel) rfl
theorem kf_X2_91 : Cond.fieldLink RX2 91 "HourDoors$Door" "step" "I" ∈ lw_good := gd_in 73 (by decide +kernel) rfl
theorem kf_X1_9 : Cond.fieldLink RX1 9 "HourDoors$Sheet" "cells" "[I" ∈ lw_good := gd_in 90 (by decide +kernel) rfl
theorem kf_X2_165 : Cond.fieldLink RX2 165 "HourDoors$Sheet" "cells" "[I" ∈ lw_good := gd_in 91 (by decide +kernel) rfl
theorem kf_X1_25 : Cond.fieldLink RX1 25 "HourDoors$Sheet" "lane" "I" ∈ lw_good := gd_in 92 (by decide +kernel) rfl
theorem kf_X2_162 : Cond.fieldLink RX2 162 "HourDoors$Sheet" "lane" "I" ∈ lw_good := gd_in 93 (by decide +kernel) rfl
theorem kf_X1_15 : Cond.fieldLink RX1 15 "HourDoors$Sheet" "size" "I" ∈ lw_good := gd_in 94 (by decide +kernel) rfl
theorem kf_X2_97 : Cond.fieldLink RX2 97 "HourDoors" "rooms" "I" ∈ lw_good := gd_in 103 (by decide +kernel) rfl
theorem kf_X2_76 : Cond.fieldLink RX2 76 "HourDoors" "doorCount" "I" ∈ lw_good := gd_in 104 (by decide +kernel) rfl
theorem kf_X2_13 : Cond.fieldLink RX2 13 "HourDoors" "doors" "[LHourDoors$Door;" ∈ lw_good := gd_in 105 (by decide +kernel) rfl
theorem kf_X2_18 : Cond.fieldLink RX2 18 "HourDoors" "trial" "LHourDoors$Door;" ∈ lw_good := gd_in 106 (by decide +kernel) rfl
theorem kf_X2_136 : Cond.fieldLink RX2 136 "HourDoors" "readingCount" "I" ∈ lw_good := gd_in 107 (by decide +kernel) rfl
theorem kf_X2_22 : Cond.fieldLink RX2 22 "HourDoors" "readDoor" "[I" ∈ lw_good := gd_in 108 (by decide +kernel) rfl
theorem kf_X2_26 : Cond.fieldLink RX2 26 "HourDoors" "readHour" "[I" ∈ lw_good := gd_in 109 (by decide +kernel) rfl
theorem kf_X2_29 : Cond.fieldLink RX2 29 "HourDoors" "readRoom" "[I" ∈ lw_good := gd_in 110 (by decide +kernel) rfl
theorem kf_X2_34 : Cond.fieldLink RX2 34 "HourDoors" "sheets" "[LHourDoors$Sheet;" ∈ lw_good := gd_in 111 (by decide +kernel) rfl
theorem kf_X2_195 : Cond.fieldLink RX2 195 "HourDoors" "left" "I" ∈ lw_good := gd_in 112 (by decide +kernel) rfl
theorem kf_X2_49 : Cond.fieldLink RX2 49 "HourDoors" "latestFault" "I" ∈ lw_good := gd_in 113 (by decide +kernel) rfl
theorem kf_X2_39 : Cond.fieldLink RX2 39 "HourDoors" "hopeful" "[I" ∈ lw_good := gd_in 114 (by decide +kernel) rfl
theorem kf_X2_42 : Cond.fieldLink RX2 42 "HourDoors" "seen" "[J" ∈ lw_good := gd_in 115 (by decide +kernel) rfl
theorem kf_X2_46 : Cond.fieldLink RX2 46 "HourDoors" "seenNext" "[J" ∈ lw_good := gd_in 116 (by decide +kernel) rfl
theorem kf_X2_240 : Cond.fieldLink RX2 240 "HourDoors" "SETS_WITH" "[J" ∈ lw_good := gd_in 280 (by decide +kernel) rfl
theorem kf_X3_67 : Cond.fieldLink RX3 67 "HourDoorsModel" "fault" "I" ∈ lw_good := gd_in 433 (by decide +kernel) rfl
theorem kf_X3_74 : Cond.fieldLink RX3 74 "HourDoorsModel" "rooms" "I" ∈ lw_good := gd_in 434 (by decide +kernel) rfl
theorem kf_X3_81 : Cond.fieldLink RX3 81 "HourDoorsModel" "doors" "I" ∈ lw_good := gd_in 435 (by decide +kernel) rfl
theorem kf_X3_7 : Cond.fieldLink RX3 7 "HourDoorsModel" "kindOf" "[I" ∈ lw_good := gd_in 436 (by decide +kernel) rfl
theorem kf_X3_13 : Cond.fieldLink RX3 13 "HourDoorsModel" "roomOf" "[I" ∈ lw_good := gd_in 437 (by decide +kernel) rfl
theorem kf_X3_16 : Cond.fieldLink RX3 16 "HourDoorsModel" "toOf" "[I" ∈ lw_good := gd_in 438 (by decide +kernel) rfl
theorem kf_X3_19 : Cond.fieldLink RX3 19 "HourDoorsModel" "stepOf" "[I" ∈ lw_good := gd_in 439 (by decide +kernel) rfl
theorem kf_X3_22 : Cond.fieldLink RX3 22 "HourDoorsModel" "gone" "I" ∈ lw_good := gd_in 440 (by decide +kernel) rfl
theorem kf_X3_86 : Cond.fieldLink RX3 86 "HourDoorsModel" "readAt" "I" ∈ lw_good := gd_in 441 (by decide +kernel) rfl
theorem kf_X3_96 : Cond.fieldLink RX3 96 "HourDoorsModel" "readRooms" "I" ∈ lw_good := gd_in 442 (by decide +kernel) rfl
theorem kf_X3_93 : Cond.fieldLink RX3 93 "HourDoorsModel" "readDoors" "I" ∈ lw_good := gd_in 443 (by decide +kernel) rfl
theorem kf_X3_26 : Cond.fieldLink RX3 26 "HourDoorsModel" "readKind" "[I" ∈ lw_good := gd_in 444 (by decide +kernel) rfl
theorem kf_X3_29 : Cond.fieldLink RX3 29 "HourDoorsModel" "readRoom" "[I" ∈ lw_good := gd_in 445 (by decide +kernel) rfl
theorem kf_X3_32 : Cond.fieldLink RX3 32 "HourDoorsModel" "readTo" "[I" ∈ lw_good := gd_in 446 (by decide +kernel) rfl
theorem kf_X3_35 : Cond.fieldLink RX3 35 "HourDoorsModel" "readStep" "[I" ∈ lw_good := gd_in 447 (by decide +kernel) rfl
theorem kf_X3_148 : Cond.fieldLink RX3 148 "HourDoorsModel" "firstWrong" "I" ∈ lw_good := gd_in 448 (by decide +kernel) rfl
theorem kf_X3_151 : Cond.fieldLink RX3 151 "HourDoorsModel" "endsAt" "I" ∈ lw_good := gd_in 449 (by decide +kernel) rfl
theorem kf_X3_154 : Cond.fieldLink RX3 154 "HourDoorsModel" "seen" "I" ∈ lw_good := gd_in 450 (by decide +kernel) rfl
theorem kf_X3_157 : Cond.fieldLink RX3 157 "HourDoorsModel" "goings" "I" ∈ lw_good := gd_in 451 (by decide +kernel) rfl
theorem kf_X3_38 : Cond.fieldLink RX3 38 "HourDoorsModel" "beenIn" "[I" ∈ lw_good := gd_in 452 (by decide +kernel) rfl
theorem kf_X3_41 : Cond.fieldLink RX3 41 "HourDoorsModel" "thenIn" "[I" ∈ lw_good := gd_in 453 (by decide +kernel) rfl
theorem kf_X3_131 : Cond.fieldLink RX3 131 "HourDoorsModel" "readings" "I" ∈ lw_good := gd_in 454 (by decide +kernel) rfl
theorem kf_X3_44 : Cond.fieldLink RX3 44 "HourDoorsModel" "readingOf" "[I" ∈ lw_good := gd_in 455 (by decide +kernel) rfl
theorem kf_X3_47 : Cond.fieldLink RX3 47 "HourDoorsModel" "readingBy" "[I" ∈ lw_good := gd_in 456 (by decide +kernel) rfl
theorem kf_X3_50 : Cond.fieldLink RX3 50 "HourDoorsModel" "readingAt" "[I" ∈ lw_good := gd_in 457 (by decide +kernel) rfl
theorem kf_X3_53 : Cond.fieldLink RX3 53 "HourDoorsModel" "sheetSize" "[I" ∈ lw_good := gd_in 458 (by decide +kernel) rfl
theorem kf_X3_56 : Cond.fieldLink RX3 56 "HourDoorsModel" "sheetLane" "[I" ∈ lw_good := gd_in 459 (by decide +kernel) rfl
theorem kf_X3_59 : Cond.fieldLink RX3 59 "HourDoorsModel" "sheet" "[I" ∈ lw_good := gd_in 460 (by decide +kernel) rfl
theorem kf_X3_62 : Cond.fieldLink RX3 62 "HourDoorsModel" "hands" "[I" ∈ lw_good := gd_in 461 (by decide +kernel) rfl
theorem kf_X3_217 : Cond.fieldLink RX3 217 "HourDoorsModel" "traceNow" "I" ∈ lw_good := gd_in 462 (by decide +kernel) rfl
theorem kl_X2_238 : Cond.constantLong RX2 238 (-1) ∈ lw_good := gd_in 279 (by decide +kernel) rfl
theorem kl_X2_146 : Cond.constantLong RX2 146 (-9223372036854775808) ∈ lw_good := gd_in 347 (by decide +kernel) rfl
theorem kl_X3_208 : Cond.constantLong RX3 208 (3) ∈ lw_good := gd_in 531 (by decide +kernel) rfl
theorem kl_X3_122 : Cond.constantLong RX3 122 (2) ∈ lw_good := gd_in 539 (by decide +kernel) rfl
theorem kl_X3_84 : Cond.constantLong RX3 84 (11) ∈ lw_good := gd_in 582 (by decide +kernel) rfl
theorem kl_X3_143 : Cond.constantLong RX3 143 (5) ∈ lw_good := gd_in 591 (by decide +kernel) rfl
theorem kl_X3_164 : Cond.constantLong RX3 164 (40) ∈ lw_good := gd_in 604 (by decide +kernel) rfl
theorem kl_X3_166 : Cond.constantLong RX3 166 (4) ∈ lw_good := gd_in 605 (by decide +kernel) rfl
theorem kl_X3_178 : Cond.constantLong RX3 178 (-1) ∈ lw_good := gd_in 618 (by decide +kernel) rfl
theorem kl_X3_180 : Cond.constantLong RX3 180 (23) ∈ lw_good := gd_in 619 (by decide +kernel) rfl
theorem kl_X3_200 : Cond.constantLong RX3 200 (24) ∈ lw_good := gd_in 687 (by decide +kernel) rfl
theorem kl_X3_65 : Cond.constantLong RX3 65 (-9223372036854775808) ∈ lw_good := gd_in 691 (by decide +kernel) rfl
theorem kl_X3_202 : Cond.constantLong RX3 202 (12) ∈ lw_good := gd_in 692 (by decide +kernel) rfl
theorem ki_L : Cond.initialized RL ∈ lw_good := gd_in 44 (by decide +kernel) rfl
theorem ki_X2 : Cond.initialized RX2 ∈ lw_good := gd_in 45 (by decide +kernel) rfl
theorem ki_X0 : Cond.initialized RX0 ∈ lw_good := gd_in 46 (by decide +kernel) rfl
theorem ki_X1 : Cond.initialized RX1 ∈ lw_good := gd_in 47 (by decide +kernel) rfl
theorem ki_X3 : Cond.initialized RX3 ∈ lw_good := gd_in 48 (by decide +kernel) rfl
theorem ki_J7 : Cond.initialized RJ7 ∈ lw_good := gd_in 49 (by decide +kernel) rfl
theorem ki_J10 : Cond.initialized "java/lang/System" ∈ lw_good := gd_in 50 (by decide +kernel) rfl
set_option maxRecDepth 20000 in
theorem kd_X2_house : Cond.code yX2_house cX2_house 8 (some .int) ∈ lw_good := gd_in 150 rfl rfl
theorem kc_L_13 : kV RL 13 yX2_house cX2_house 8 (some .int) 4 := ⟨kd_X2_house, gd_in 147 (by decide +kernel) rfl, ki_X2, ⟨by decide +kernel, by decide +kernel, by decide +kernel⟩, gd_in 148 (by decide +kernel) rfl, gd_in 149 (by decide +kernel) rfl⟩
set_option maxRecDepth 20000 in
theorem kd_X2_isSheet : Cond.code yX2_isSheet cX2_isSheet 1 (some .boolean) ∈ lw_good := gd_in 153 rfl rfl
theorem kc_X2_53 : kT RX2 53 yX2_isSheet cX2_isSheet 1 (some .boolean) 1 := ⟨kd_X2_isSheet, gd_in 151 (by decide +kernel) rfl, ki_X2, ⟨by decide +kernel, by decide +kernel, by decide +kernel⟩, gd_in 152 (by decide +kernel) rfl⟩
set_option maxRecDepth 20000 in
theorem kd_X2_isLane : Cond.code yX2_isLane cX2_isLane 1 (some .boolean) ∈ lw_good := gd_in 156 rfl rfl
theorem kc_X2_57 : kT RX2 57 yX2_isLane cX2_isLane 1 (some .boolean) 1 := ⟨kd_X2_isLane, gd_in 154 (by decide +kernel) rfl, ki_X2, ⟨by decide +kernel, by decide +kernel, by decide +kernel⟩, gd_in 155 (by decide +kernel) rfl⟩
set_option maxRecDepth 20000 in
theorem kd_X1_faultOfTaking : Cond.code yX1_faultOfTaking cX1_faultOfTaking 4 (some .int) ∈ lw_good := gd_in 160 rfl rfl
theorem kc_X2_60 : kV RX2 60 yX1_faultOfTaking cX1_faultOfTaking 4 (some .int) 3 := ⟨kd_X1_faultOfTaking, gd_in 157 (by decide +kernel) rfl, ki_X1, ⟨by decide +kernel, by decide +kernel, by decide +kernel⟩, gd_in 158 (by decide +kernel) rfl, gd_in 159 (by decide +kernel) rfl⟩
set_option maxRecDepth 20000 in
theorem kd_X1_hasNothing : Cond.code yX1_hasNothing cX1_hasNothing 1 (some .boolean) ∈ lw_good := gd_in 164 rfl rfl
theorem kc_X1_28 : kV RX1 28 yX1_hasNothing cX1_hasNothing 1 (some .boolean) 0 := ⟨kd_X1_hasNothing, gd_in 161 (by decide +kernel) rfl, ki_X1, ⟨by decide +kernel, by decide +kernel, by decide +kernel⟩, gd_in 162 (by decide +kernel) rfl, gd_in 163 (by decide +kernel) rfl⟩
set_option maxRecDepth 20000 in
theorem kd_X1_hasCells : Cond.code yX1_hasCells cX1_hasCells 3 (some .boolean) ∈ lw_good := gd_in 168 rfl rfl
theorem kc_X1_32 : kV RX1 32 yX1_hasCells cX1_hasCells 3 (some .boolean) 2 := ⟨kd_X1_hasCells, gd_in 165 (by decide +kernel) rfl, ki_X1, ⟨by decide +kernel, by decide +kernel, by decide +kernel⟩, gd_in 166 (by decide +kernel) rfl, gd_in 167 (by decide +kernel) rfl⟩
set_option maxRecDepth 20000 in
theorem kd_X2_faulted : Cond.code yX2_faulted cX2_faulted 2 (some .int) ∈ lw_good := gd_in 172 rfl rfl
theorem kc_X2_64 : kV RX2 64 yX2_faulted cX2_faulted 2 (some .int) 1 := ⟨kd_X2_faulted, gd_in 169 (by decide +kernel) rfl, ki_X2, ⟨by decide +kernel, by decide +kernel, by decide +kernel⟩, gd_in 171 (by decide +kernel) rfl, gd_in 0 (by decide +kernel) rfl⟩
set_option maxRecDepth 20000 in
theorem kd_X2_firstFault : Cond.code yX2_firstFault cX2_firstFault 6 (some .int) ∈ lw_good := gd_in 175 rfl rfl
theorem kc_X2_68 : kT RX2 68 yX2_firstFault cX2_firstFault 6 (some .int) 3 := ⟨kd_X2_firstFault, gd_in 173 (by decide +kernel) rfl, ki_X2, ⟨by decide +kernel, by decide +kernel, by decide +kernel⟩, gd_in 174 (by decide +kernel) rfl⟩
set_option maxRecDepth 20000 in
theorem kd_X2_goesOn : Cond.code yX2_goesOn cX2_goesOn 3 (some .boolean) ∈ lw_good := gd_in 178 rfl rfl
theorem kc_X2_198 : kT RX2 198 yX2_goesOn cX2_goesOn 3 (some .boolean) 3 := ⟨kd_X2_goesOn, gd_in 176 (by decide +kernel) rfl, ki_X2, ⟨by decide +kernel, by decide +kernel, by decide +kernel⟩, gd_in 177 (by decide +kernel) rfl⟩
set_option maxRecDepth 20000 in
theorem kd_X2_build : Cond.code yX2_build cX2_build 6 none ∈ lw_good := gd_in 182 rfl rfl
theorem kc_X2_72 : kV RX2 72 yX2_build cX2_build 6 none 3 := ⟨kd_X2_build, gd_in 179 (by decide +kernel) rfl, ki_X2, ⟨by decide +kernel, by decide +kernel, by decide +kernel⟩, gd_in 181 (by decide +kernel) rfl, gd_in 1 (by decide +kernel) rfl⟩
set_option maxRecDepth 20000 in
theorem kd_X2_kindOfLetter : Cond.code yX2_kindOfLetter cX2_kindOfLetter 1 (some .int) ∈ lw_good := gd_in 185 rfl rfl
theorem kc_X2_202 : kT RX2 202 yX2_kindOfLetter cX2_kindOfLetter 1 (some .int) 1 := ⟨kd_X2_kindOfLetter, gd_in 183 (by decide +kernel) rfl, ki_X2, ⟨by decide +kernel, by decide +kernel, by decide +kernel⟩, gd_in 184 (by decide +kernel) rfl⟩
set_option maxRecDepth 20000 in
theorem kd_X2_ofDoor : Cond.code yX2_ofDoor cX2_ofDoor 3 (some .int) ∈ lw_good := gd_in 189 rfl rfl
theorem kc_L_18 : kV RL 18 yX2_ofDoor cX2_ofDoor 3 (some .int) 2 := ⟨kd_X2_ofDoor, gd_in 186 (by decide +kernel) rfl, ki_X2, ⟨by decide +kernel, by decide +kernel, by decide +kernel⟩, gd_in 187 (by decide +kernel) rfl, gd_in 188 (by decide +kernel) rfl⟩
set_option maxRecDepth 20000 in
theorem kd_X2_isDoor : Cond.code yX2_isDoor cX2_isDoor 2 (some .boolean) ∈ lw_good := gd_in 193 rfl rfl
theorem kc_X2_79 : kV RX2 79 yX2_isDoor cX2_isDoor 2 (some .boolean) 1 := ⟨kd_X2_isDoor, gd_in 190 (by decide +kernel) rfl, ki_X2, ⟨by decide +kernel, by decide +kernel, by decide +kernel⟩, gd_in 192 (by decide +kernel) rfl, gd_in 2 (by decide +kernel) rfl⟩
set_option maxRecDepth 20000 in
theorem kd_X2_leads : Cond.code yX2_leads cX2_leads 3 (some .int) ∈ lw_good := gd_in 197 rfl rfl
theorem kc_L_23 : kV RL 23 yX2_leads cX2_leads 3 (some .int) 2 := ⟨kd_X2_leads, gd_in 194 (by decide +kernel) rfl, ki_X2, ⟨by decide +kernel, by decide +kernel, by decide +kernel⟩, gd_in 195 (by decide +kernel) rfl, gd_in 196 (by decide +kernel) rfl⟩
set_option maxRecDepth 20000 in
theorem kd_X2_isHour : Cond.code yX2_isHour cX2_isHour 1 (some .boolean) ∈ lw_good := gd_in 200 rfl rfl
theorem kc_X2_94 : kT RX2 94 yX2_isHour cX2_isHour 1 (some .boolean) 1 := ⟨kd_X2_isHour, gd_in 198 (by decide +kernel) rfl, ki_X2, ⟨by decide +kernel, by decide +kernel, by decide +kernel⟩, gd_in 199 (by decide +kernel) rfl⟩
set_option maxRecDepth 20000 in
theorem kd_X0_leadsTo : Cond.code yX0_leadsTo cX0_leadsTo 4 (some .int) ∈ lw_good := gd_in 204 rfl rfl
theorem kc_X2_100 : kV RX2 100 yX0_leadsTo cX0_leadsTo 4 (some .int) 2 := ⟨kd_X0_leadsTo, gd_in 201 (by decide +kernel) rfl, ki_X0, ⟨by decide +kernel, by decide +kernel, by decide +kernel⟩, gd_in 202 (by decide +kernel) rfl, gd_in 203 (by decide +kernel) rfl⟩
set_option maxRecDepth 20000 in
theorem kd_X2_step : Cond.code yX2_step cX2_step 4 (some .int) ∈ lw_good := gd_in 208 rfl rfl
theorem kc_L_27 : kV RL 27 yX2_step cX2_step 4 (some .int) 2 := ⟨kd_X2_step, gd_in 205 (by decide +kernel) rfl, ki_X2, ⟨by decide +kernel, by decide +kernel, by decide +kernel⟩, gd_in 206 (by decide +kernel) rfl, gd_in 207 (by decide +kernel) rfl⟩
set_option maxRecDepth 20000 in
theorem kd_X2_turn : Cond.code yX2_turn cX2_turn 4 (some .int) ∈ lw_good := gd_in 212 rfl rfl
theorem kc_L_31 : kV RL 31 yX2_turn cX2_turn 4 (some .int) 2 := ⟨kd_X2_turn, gd_in 209 (by decide +kernel) rfl, ki_X2, ⟨by decide +kernel, by decide +kernel, by decide +kernel⟩, gd_in 210 (by decide +kernel) rfl, gd_in 211 (by decide +kernel) rfl⟩
set_option maxRecDepth 20000 in
theorem kd_X2_isRoom : Cond.code yX2_isRoom cX2_isRoom 2 (some .boolean) ∈ lw_good := gd_in 216 rfl rfl
theorem kc_X2_104 : kV RX2 104 yX2_isRoom cX2_isRoom 2 (some .boolean) 1 := ⟨kd_X2_isRoom, gd_in 213 (by decide +kernel) rfl, ki_X2, ⟨by decide +kernel, by decide +kernel, by decide +kernel⟩, gd_in 215 (by decide +kernel) rfl, gd_in 3 (by decide +kernel) rfl⟩
set_option maxRecDepth 20000 in
theorem kd_X2_walk : Cond.code yX2_walk cX2_walk 10 (some .int) ∈ lw_good := gd_in 220 rfl rfl
theorem kc_L_35 : kV RL 35 yX2_walk cX2_walk 10 (some .int) 7 := ⟨kd_X2_walk, gd_in 217 (by decide +kernel) rfl, ki_X2, ⟨by decide +kernel, by decide +kernel, by decide +kernel⟩, gd_in 218 (by decide +kernel) rfl, gd_in 219 (by decide +kernel) rfl⟩
set_option maxRecDepth 20000 in
theorem kd_X2_areActs : Cond.code yX2_areActs cX2_areActs 6 (some .boolean) ∈ lw_good := gd_in 224 rfl rfl
theorem kc_X2_107 : kV RX2 107 yX2_areActs cX2_areActs 6 (some .boolean) 3 := ⟨kd_X2_areActs, gd_in 221 (by decide +kernel) rfl, ki_X2, ⟨by decide +kernel, by decide +kernel, by decide +kernel⟩, gd_in 223 (by decide +kernel) rfl, gd_in 4 (by decide +kernel) rfl⟩
set_option maxRecDepth 20000 in
theorem kd_X2_walked : Cond.code yX2_walked cX2_walked 13 (some .int) ∈ lw_good := gd_in 228 rfl rfl
theorem kc_X2_111 : kV RX2 111 yX2_walked cX2_walked 13 (some .int) 6 := ⟨kd_X2_walked, gd_in 225 (by decide +kernel) rfl, ki_X2, ⟨by decide +kernel, by decide +kernel, by decide +kernel⟩, gd_in 227 (by decide +kernel) rfl, gd_in 5 (by decide +kernel) rfl⟩
set_option maxRecDepth 20000 in
theorem kd_X2_roomAfter : Cond.code yX2_roomAfter cX2_roomAfter 4 (some .int) ∈ lw_good := gd_in 232 rfl rfl
theorem kc_X2_205 : kV RX2 205 yX2_roomAfter cX2_roomAfter 4 (some .int) 3 := ⟨kd_X2_roomAfter, gd_in 229 (by decide +kernel) rfl, ki_X2, ⟨by decide +kernel, by decide +kernel, by decide +kernel⟩, gd_in 231 (by decide +kernel) rfl, gd_in 6 (by decide +kernel) rfl⟩
set_option maxRecDepth 20000 in
theorem kd_X2_soonest : Cond.code yX2_soonest cX2_soonest 6 (some .int) ∈ lw_good := gd_in 236 rfl rfl
theorem kc_L_40 : kV RL 40 yX2_soonest cX2_soonest 6 (some .int) 4 := ⟨kd_X2_soonest, gd_in 233 (by decide +kernel) rfl, ki_X2, ⟨by decide +kernel, by decide +kernel, by decide +kernel⟩, gd_in 234 (by decide +kernel) rfl, gd_in 235 (by decide +kernel) rfl⟩
set_option maxRecDepth 20000 in
theorem kd_X2_fewestHours : Cond.code yX2_fewestHours cX2_fewestHours 7 (some .int) ∈ lw_good := gd_in 240 rfl rfl
theorem kc_X2_115 : kV RX2 115 yX2_fewestHours cX2_fewestHours 7 (some .int) 4 := ⟨kd_X2_fewestHours, gd_in 237 (by decide +kernel) rfl, ki_X2, ⟨by decide +kernel, by decide +kernel, by decide +kernel⟩, gd_in 239 (by decide +kernel) rfl, gd_in 7 (by decide +kernel) rfl⟩
set_option maxRecDepth 20000 in
theorem kd_X2_has : Cond.code yX2_has cX2_has 2 (some .boolean) ∈ lw_good := gd_in 243 rfl rfl
theorem kc_X2_208 : kT RX2 208 yX2_has cX2_has 2 (some .boolean) 2 := ⟨kd_X2_has, gd_in 241 (by decide +kernel) rfl, ki_X2, ⟨by decide +kernel, by decide +kernel, by decide +kernel⟩, gd_in 242 (by decide +kernel) rfl⟩
set_option maxRecDepth 20000 in
theorem kd_X2_anHourOn : Cond.code yX2_anHourOn cX2_anHourOn 7 (some .int) ∈ lw_good := gd_in 247 rfl rfl
theorem kc_X2_130 : kV RX2 130 yX2_anHourOn cX2_anHourOn 7 (some .int) 3 := ⟨kd_X2_anHourOn, gd_in 244 (by decide +kernel) rfl, ki_X2, ⟨by decide +kernel, by decide +kernel, by decide +kernel⟩, gd_in 246 (by decide +kernel) rfl, gd_in 8 (by decide +kernel) rfl⟩
set_option maxRecDepth 20000 in
theorem kd_X2_actOfSoonest : Cond.code yX2_actOfSoonest cX2_actOfSoonest 10 (some .int) ∈ lw_good := gd_in 251 rfl rfl
theorem kc_X2_119 : kV RX2 119 yX2_actOfSoonest cX2_actOfSoonest 10 (some .int) 5 := ⟨kd_X2_actOfSoonest, gd_in 248 (by decide +kernel) rfl, ki_X2, ⟨by decide +kernel, by decide +kernel, by decide +kernel⟩, gd_in 250 (by decide +kernel) rfl, gd_in 9 (by decide +kernel) rfl⟩
set_option maxRecDepth 20000 in
theorem kd_X2_fillHopeful : Cond.code yX2_fillHopeful cX2_fillHopeful 5 none ∈ lw_good := gd_in 255 rfl rfl
theorem kc_X2_211 : kV RX2 211 yX2_fillHopeful cX2_fillHopeful 5 none 3 := ⟨kd_X2_fillHopeful, gd_in 252 (by decide +kernel) rfl, ki_X2, ⟨by decide +kernel, by decide +kernel, by decide +kernel⟩, gd_in 254 (by decide +kernel) rfl, gd_in 10 (by decide +kernel) rfl⟩
set_option maxRecDepth 20000 in
theorem kd_X2_anHourAhead : Cond.code yX2_anHourAhead cX2_anHourAhead 6 (some .int) ∈ lw_good := gd_in 259 rfl rfl
theorem kc_X2_218 : kV RX2 218 yX2_anHourAhead cX2_anHourAhead 6 (some .int) 2 := ⟨kd_X2_anHourAhead, gd_in 256 (by decide +kernel) rfl, ki_X2, ⟨by decide +kernel, by decide +kernel, by decide +kernel⟩, gd_in 258 (by decide +kernel) rfl, gd_in 11 (by decide +kernel) rfl⟩
set_option maxRecDepth 20000 in
theorem kd_X2_firstHopefulAct : Cond.code yX2_firstHopefulAct cX2_firstHopefulAct 6 (some .int) ∈ lw_good := gd_in 263 rfl rfl
theorem kc_X2_215 : kV RX2 215 yX2_firstHopefulAct cX2_firstHopefulAct 6 (some .int) 3 := ⟨kd_X2_firstHopefulAct, gd_in 260 (by decide +kernel) rfl, ki_X2, ⟨by decide +kernel, by decide +kernel, by decide +kernel⟩, gd_in 262 (by decide +kernel) rfl, gd_in 12 (by decide +kernel) rfl⟩
set_option maxRecDepth 20000 in
theorem kd_X2_errands : Cond.code yX2_errands cX2_errands 4 (some .int) ∈ lw_good := gd_in 267 rfl rfl
theorem kc_L_44 : kV RL 44 yX2_errands cX2_errands 4 (some .int) 3 := ⟨kd_X2_errands, gd_in 264 (by decide +kernel) rfl, ki_X2, ⟨by decide +kernel, by decide +kernel, by decide +kernel⟩, gd_in 265 (by decide +kernel) rfl, gd_in 266 (by decide +kernel) rfl⟩
set_option maxRecDepth 20000 in
theorem kd_X2_allRooms : Cond.code yX2_allRooms cX2_allRooms 1 (some .int) ∈ lw_good := gd_in 271 rfl rfl
theorem kc_X2_123 : kV RX2 123 yX2_allRooms cX2_allRooms 1 (some .int) 0 := ⟨kd_X2_allRooms, gd_in 268 (by decide +kernel) rfl, ki_X2, ⟨by decide +kernel, by decide +kernel, by decide +kernel⟩, gd_in 270 (by decide +kernel) rfl, gd_in 13 (by decide +kernel) rfl⟩
set_option maxRecDepth 20000 in
theorem kd_X2_errandHours : Cond.code yX2_errandHours cX2_errandHours 7 (some .int) ∈ lw_good := gd_in 275 rfl rfl
theorem kc_X2_127 : kV RX2 127 yX2_errandHours cX2_errandHours 7 (some .int) 3 := ⟨kd_X2_errandHours, gd_in 272 (by decide +kernel) rfl, ki_X2, ⟨by decide +kernel, by decide +kernel, by decide +kernel⟩, gd_in 274 (by decide +kernel) rfl, gd_in 14 (by decide +kernel) rfl⟩
set_option maxRecDepth 20000 in
theorem kd_X2_setsWithAll : Cond.code yX2_setsWithAll cX2_setsWithAll 4 (some .long) ∈ lw_good := gd_in 278 rfl rfl
theorem kc_X2_221 : kT RX2 221 yX2_setsWithAll cX2_setsWithAll 4 (some .long) 1 := ⟨kd_X2_setsWithAll, gd_in 276 (by decide +kernel) rfl, ki_X2, ⟨by decide +kernel, by decide +kernel, by decide +kernel⟩, gd_in 277 (by decide +kernel) rfl⟩
set_option maxRecDepth 20000 in
theorem kd_J7_fill_d0a16 : Cond.code yJ7_fill_d0a16 cJ7_fill_d0a16 5 none ∈ lw_good := gd_in 284 rfl rfl
theorem kc_X2_225 : kT RX2 225 yJ7_fill_d0a16 cJ7_fill_d0a16 5 none 2 := ⟨kd_J7_fill_d0a16, gd_in 282 (by decide +kernel) rfl, ki_J7, ⟨by decide +kernel, by decide +kernel, by decide +kernel⟩, gd_in 283 (by decide +kernel) rfl⟩
set_option maxRecDepth 20000 in
theorem kd_X2_anySeen : Cond.code yX2_anySeen cX2_anySeen 4 (some .boolean) ∈ lw_good := gd_in 288 rfl rfl
theorem kc_X2_231 : kV RX2 231 yX2_anySeen cX2_anySeen 4 (some .boolean) 1 := ⟨kd_X2_anySeen, gd_in 285 (by decide +kernel) rfl, ki_X2, ⟨by decide +kernel, by decide +kernel, by decide +kernel⟩, gd_in 287 (by decide +kernel) rfl, gd_in 15 (by decide +kernel) rfl⟩
set_option maxRecDepth 20000 in
theorem kd_X2_seeAnHourOn : Cond.code yX2_seeAnHourOn cX2_seeAnHourOn 4 none ∈ lw_good := gd_in 292 rfl rfl
theorem kc_X2_235 : kV RX2 235 yX2_seeAnHourOn cX2_seeAnHourOn 4 none 1 := ⟨kd_X2_seeAnHourOn, gd_in 289 (by decide +kernel) rfl, ki_X2, ⟨by decide +kernel, by decide +kernel, by decide +kernel⟩, gd_in 291 (by decide +kernel) rfl, gd_in 16 (by decide +kernel) rfl⟩
theorem kacp_X2_175 : Cond.methodLink RX2 175 arraycopyName ∈ lw_good := gd_in 293 (by decide +kernel) rfl
set_option maxRecDepth 20000 in
theorem kd_X2_eachWith : Cond.code yX2_eachWith cX2_eachWith 7 (some .long) ∈ lw_good := gd_in 298 rfl rfl
theorem kc_X2_243 : kT RX2 243 yX2_eachWith cX2_eachWith 7 (some .long) 2 := ⟨kd_X2_eachWith, gd_in 296 (by decide +kernel) rfl, ki_X2, ⟨by decide +kernel, by decide +kernel, by decide +kernel⟩, gd_in 297 (by decide +kernel) rfl⟩
set_option maxRecDepth 20000 in
theorem kd_X2_meet : Cond.code yX2_meet cX2_meet 8 (some .int) ∈ lw_good := gd_in 302 rfl rfl
theorem kc_L_49 : kV RL 49 yX2_meet cX2_meet 8 (some .int) 3 := ⟨kd_X2_meet, gd_in 299 (by decide +kernel) rfl, ki_X2, ⟨by decide +kernel, by decide +kernel, by decide +kernel⟩, gd_in 300 (by decide +kernel) rfl, gd_in 301 (by decide +kernel) rfl⟩
set_option maxRecDepth 20000 in
theorem kd_X2_cut : Cond.code yX2_cut cX2_cut 5 (some .int) ∈ lw_good := gd_in 306 rfl rfl
theorem kc_L_53 : kV RL 53 yX2_cut cX2_cut 5 (some .int) 3 := ⟨kd_X2_cut, gd_in 303 (by decide +kernel) rfl, ki_X2, ⟨by decide +kernel, by decide +kernel, by decide +kernel⟩, gd_in 304 (by decide +kernel) rfl, gd_in 305 (by decide +kernel) rfl⟩
set_option maxRecDepth 20000 in
theorem kd_X2_reach : Cond.code yX2_reach cX2_reach 4 (some .int) ∈ lw_good := gd_in 310 rfl rfl
theorem kc_L_57 : kV RL 57 yX2_reach cX2_reach 4 (some .int) 1 := ⟨kd_X2_reach, gd_in 307 (by decide +kernel) rfl, ki_X2, ⟨by decide +kernel, by decide +kernel, by decide +kernel⟩, gd_in 308 (by decide +kernel) rfl, gd_in 309 (by decide +kernel) rfl⟩
set_option maxRecDepth 20000 in
theorem kd_X2_roomsInTime : Cond.code yX2_roomsInTime cX2_roomsInTime 5 (some .int) ∈ lw_good := gd_in 314 rfl rfl
theorem kc_X2_133 : kV RX2 133 yX2_roomsInTime cX2_roomsInTime 5 (some .int) 2 := ⟨kd_X2_roomsInTime, gd_in 311 (by decide +kernel) rfl, ki_X2, ⟨by decide +kernel, by decide +kernel, by decide +kernel⟩, gd_in 313 (by decide +kernel) rfl, gd_in 17 (by decide +kernel) rfl⟩
set_option maxRecDepth 20000 in
theorem kd_X2_reading : Cond.code yX2_reading cX2_reading 4 (some .int) ∈ lw_good := gd_in 318 rfl rfl
theorem kc_L_62 : kV RL 62 yX2_reading cX2_reading 4 (some .int) 3 := ⟨kd_X2_reading, gd_in 315 (by decide +kernel) rfl, ki_X2, ⟨by decide +kernel, by decide +kernel, by decide +kernel⟩, gd_in 316 (by decide +kernel) rfl, gd_in 317 (by decide +kernel) rfl⟩
set_option maxRecDepth 20000 in
theorem kd_X2_back : Cond.code yX2_back cX2_back 2 (some .int) ∈ lw_good := gd_in 322 rfl rfl
theorem kc_L_66 : kV RL 66 yX2_back cX2_back 2 (some .int) 1 := ⟨kd_X2_back, gd_in 319 (by decide +kernel) rfl, ki_X2, ⟨by decide +kernel, by decide +kernel, by decide +kernel⟩, gd_in 320 (by decide +kernel) rfl, gd_in 321 (by decide +kernel) rfl⟩
set_option maxRecDepth 20000 in
theorem kd_X2_steps : Cond.code yX2_steps cX2_steps 4 (some .int) ∈ lw_good := gd_in 326 rfl rfl
theorem kc_L_70 : kV RL 70 yX2_steps cX2_steps 4 (some .int) 1 := ⟨kd_X2_steps, gd_in 323 (by decide +kernel) rfl, ki_X2, ⟨by decide +kernel, by decide +kernel, by decide +kernel⟩, gd_in 324 (by decide +kernel) rfl, gd_in 325 (by decide +kernel) rfl⟩
set_option maxRecDepth 20000 in
theorem kd_X0_becomeLike : Cond.code yX0_becomeLike cX0_becomeLike 2 none ∈ lw_good := gd_in 330 rfl rfl
theorem kc_X2_139 : kV RX2 139 yX0_becomeLike cX0_becomeLike 2 none 1 := ⟨kd_X0_becomeLike, gd_in 327 (by decide +kernel) rfl, ki_X0, ⟨by decide +kernel, by decide +kernel, by decide +kernel⟩, gd_in 328 (by decide +kernel) rfl, gd_in 329 (by decide +kernel) rfl⟩
set_option maxRecDepth 20000 in
theorem kd_X2_readingsHold : Cond.code yX2_readingsHold cX2_readingsHold 4 (some .boolean) ∈ lw_good := gd_in 334 rfl rfl
theorem kc_X2_143 : kV RX2 143 yX2_readingsHold cX2_readingsHold 4 (some .boolean) 1 := ⟨kd_X2_readingsHold, gd_in 331 (by decide +kernel) rfl, ki_X2, ⟨by decide +kernel, by decide +kernel, by decide +kernel⟩, gd_in 333 (by decide +kernel) rfl, gd_in 18 (by decide +kernel) rfl⟩
set_option maxRecDepth 20000 in
theorem kd_X2_targets : Cond.code yX2_targets cX2_targets 4 (some .int) ∈ lw_good := gd_in 338 rfl rfl
theorem kc_L_74 : kV RL 74 yX2_targets cX2_targets 4 (some .int) 1 := ⟨kd_X2_targets, gd_in 335 (by decide +kernel) rfl, ki_X2, ⟨by decide +kernel, by decide +kernel, by decide +kernel⟩, gd_in 336 (by decide +kernel) rfl, gd_in 337 (by decide +kernel) rfl⟩
set_option maxRecDepth 20000 in
theorem kd_X2_kinds : Cond.code yX2_kinds cX2_kinds 4 (some .int) ∈ lw_good := gd_in 342 rfl rfl
theorem kc_L_78 : kV RL 78 yX2_kinds cX2_kinds 4 (some .int) 1 := ⟨kd_X2_kinds, gd_in 339 (by decide +kernel) rfl, ki_X2, ⟨by decide +kernel, by decide +kernel, by decide +kernel⟩, gd_in 340 (by decide +kernel) rfl, gd_in 341 (by decide +kernel) rfl⟩
set_option maxRecDepth 20000 in
theorem kd_X2_odds : Cond.code yX2_odds cX2_odds 8 (some .long) ∈ lw_good := gd_in 346 rfl rfl
theorem kc_L_82 : kV RL 82 yX2_odds cX2_odds 8 (some .long) 4 := ⟨kd_X2_odds, gd_in 343 (by decide +kernel) rfl, ki_X2, ⟨by decide +kernel, by decide +kernel, by decide +kernel⟩, gd_in 344 (by decide +kernel) rfl, gd_in 345 (by decide +kernel) rfl⟩
set_option maxRecDepth 20000 in
theorem kd_X2_commonWithHours : Cond.code yX2_commonWithHours cX2_commonWithHours 2 (some .int) ∈ lw_good := gd_in 350 rfl rfl
theorem kc_X2_148 : kT RX2 148 yX2_commonWithHours cX2_commonWithHours 2 (some .int) 1 := ⟨kd_X2_commonWithHours, gd_in 348 (by decide +kernel) rfl, ki_X2, ⟨by decide +kernel, by decide +kernel, by decide +kernel⟩, gd_in 349 (by decide +kernel) rfl⟩
set_option maxRecDepth 20000 in
theorem kd_X2_sheet : Cond.code yX2_sheet cX2_sheet 4 (some .int) ∈ lw_good := gd_in 354 rfl rfl
theorem kc_L_87 : kV RL 87 yX2_sheet cX2_sheet 4 (some .int) 3 := ⟨kd_X2_sheet, gd_in 351 (by decide +kernel) rfl, ki_X2, ⟨by decide +kernel, by decide +kernel, by decide +kernel⟩, gd_in 352 (by decide +kernel) rfl, gd_in 353 (by decide +kernel) rfl⟩
set_option maxRecDepth 20000 in
theorem kd_X1_begin : Cond.code yX1_begin cX1_begin 3 none ∈ lw_good := gd_in 358 rfl rfl
theorem kc_X2_151 : kV RX2 151 yX1_begin cX1_begin 3 none 2 := ⟨kd_X1_begin, gd_in 355 (by decide +kernel) rfl, ki_X1, ⟨by decide +kernel, by decide +kernel, by decide +kernel⟩, gd_in 356 (by decide +kernel) rfl, gd_in 357 (by decide +kernel) rfl⟩
set_option maxRecDepth 20000 in
theorem kd_J7_fill_53178 : Cond.code yJ7_fill_53178 cJ7_fill_53178 4 none ∈ lw_good := gd_in 361 rfl rfl
theorem kc_X1_19 : kT RX1 19 yJ7_fill_53178 cJ7_fill_53178 4 none 2 := ⟨kd_J7_fill_53178, gd_in 359 (by decide +kernel) rfl, ki_J7, ⟨by decide +kernel, by decide +kernel, by decide +kernel⟩, gd_in 360 (by decide +kernel) rfl⟩
set_option maxRecDepth 20000 in
theorem kd_X2_lose : Cond.code yX2_lose cX2_lose 2 (some .int) ∈ lw_good := gd_in 365 rfl rfl
theorem kc_L_91 : kV RL 91 yX2_lose cX2_lose 2 (some .int) 1 := ⟨kd_X2_lose, gd_in 362 (by decide +kernel) rfl, ki_X2, ⟨by decide +kernel, by decide +kernel, by decide +kernel⟩, gd_in 363 (by decide +kernel) rfl, gd_in 364 (by decide +kernel) rfl⟩
theorem kc_X2_155 : kV RX2 155 yX1_hasNothing cX1_hasNothing 1 (some .boolean) 0 := ⟨kd_X1_hasNothing, gd_in 366 (by decide +kernel) rfl, ki_X1, ⟨by decide +kernel, by decide +kernel, by decide +kernel⟩, gd_in 162 (by decide +kernel) rfl, gd_in 163 (by decide +kernel) rfl⟩
set_option maxRecDepth 20000 in
theorem kd_X1_empty : Cond.code yX1_empty cX1_empty 1 none ∈ lw_good := gd_in 370 rfl rfl
theorem kc_X2_159 : kV RX2 159 yX1_empty cX1_empty 1 none 0 := ⟨kd_X1_empty, gd_in 367 (by decide +kernel) rfl, ki_X1, ⟨by decide +kernel, by decide +kernel, by decide +kernel⟩, gd_in 368 (by decide +kernel) rfl, gd_in 369 (by decide +kernel) rfl⟩
set_option maxRecDepth 20000 in
theorem kd_X2_put : Cond.code yX2_put cX2_put 6 (some .int) ∈ lw_good := gd_in 374 rfl rfl
theorem kc_L_95 : kV RL 95 yX2_put cX2_put 6 (some .int) 3 := ⟨kd_X2_put, gd_in 371 (by decide +kernel) rfl, ki_X2, ⟨by decide +kernel, by decide +kernel, by decide +kernel⟩, gd_in 372 (by decide +kernel) rfl, gd_in 373 (by decide +kernel) rfl⟩
set_option maxRecDepth 20000 in
theorem kd_X2_cutToLane : Cond.code yX2_cutToLane cX2_cutToLane 2 (some .int) ∈ lw_good := gd_in 377 rfl rfl
theorem kc_X2_168 : kT RX2 168 yX2_cutToLane cX2_cutToLane 2 (some .int) 2 := ⟨kd_X2_cutToLane, gd_in 375 (by decide +kernel) rfl, ki_X2, ⟨by decide +kernel, by decide +kernel, by decide +kernel⟩, gd_in 376 (by decide +kernel) rfl⟩
set_option maxRecDepth 20000 in
theorem kd_X2_cell : Cond.code yX2_cell cX2_cell 4 (some .long) ∈ lw_good := gd_in 381 rfl rfl
theorem kc_L_99 : kV RL 99 yX2_cell cX2_cell 4 (some .long) 3 := ⟨kd_X2_cell, gd_in 378 (by decide +kernel) rfl, ki_X2, ⟨by decide +kernel, by decide +kernel, by decide +kernel⟩, gd_in 379 (by decide +kernel) rfl, gd_in 380 (by decide +kernel) rfl⟩
set_option maxRecDepth 20000 in
theorem kd_X2_copy : Cond.code yX2_copy cX2_copy 8 (some .int) ∈ lw_good := gd_in 385 rfl rfl
theorem kc_L_104 : kV RL 104 yX2_copy cX2_copy 8 (some .int) 5 := ⟨kd_X2_copy, gd_in 382 (by decide +kernel) rfl, ki_X2, ⟨by decide +kernel, by decide +kernel, by decide +kernel⟩, gd_in 383 (by decide +kernel) rfl, gd_in 384 (by decide +kernel) rfl⟩
theorem kc_X2_171 : kV RX2 171 yX1_hasCells cX1_hasCells 3 (some .boolean) 2 := ⟨kd_X1_hasCells, gd_in 386 (by decide +kernel) rfl, ki_X1, ⟨by decide +kernel, by decide +kernel, by decide +kernel⟩, gd_in 166 (by decide +kernel) rfl, gd_in 167 (by decide +kernel) rfl⟩
set_option maxRecDepth 20000 in
theorem kd_X2_tell : Cond.code yX2_tell cX2_tell 2 (some .int) ∈ lw_good := gd_in 390 rfl rfl
theorem kc_L_109 : kV RL 109 yX2_tell cX2_tell 2 (some .int) 1 := ⟨kd_X2_tell, gd_in 387 (by decide +kernel) rfl, ki_X2, ⟨by decide +kernel, by decide +kernel, by decide +kernel⟩, gd_in 388 (by decide +kernel) rfl, gd_in 389 (by decide +kernel) rfl⟩
set_option maxRecDepth 20000 in
theorem kd_X2_lateTelling : Cond.code yX2_lateTelling cX2_lateTelling 2 (some .int) ∈ lw_good := gd_in 394 rfl rfl
theorem kc_X2_181 : kV RX2 181 yX2_lateTelling cX2_lateTelling 2 (some .int) 1 := ⟨kd_X2_lateTelling, gd_in 391 (by decide +kernel) rfl, ki_X2, ⟨by decide +kernel, by decide +kernel, by decide +kernel⟩, gd_in 393 (by decide +kernel) rfl, gd_in 19 (by decide +kernel) rfl⟩
set_option maxRecDepth 20000 in
theorem kd_X2_leaveNumber : Cond.code yX2_leaveNumber cX2_leaveNumber 2 none ∈ lw_good := gd_in 398 rfl rfl
theorem kc_X2_191 : kV RX2 191 yX2_leaveNumber cX2_leaveNumber 2 none 1 := ⟨kd_X2_leaveNumber, gd_in 395 (by decide +kernel) rfl, ki_X2, ⟨by decide +kernel, by decide +kernel, by decide +kernel⟩, gd_in 397 (by decide +kernel) rfl, gd_in 20 (by decide +kernel) rfl⟩
set_option maxRecDepth 20000 in
theorem kd_X2_plainTelling : Cond.code yX2_plainTelling cX2_plainTelling 2 (some .int) ∈ lw_good := gd_in 402 rfl rfl
theorem kc_X2_188 : kV RX2 188 yX2_plainTelling cX2_plainTelling 2 (some .int) 1 := ⟨kd_X2_plainTelling, gd_in 399 (by decide +kernel) rfl, ki_X2, ⟨by decide +kernel, by decide +kernel, by decide +kernel⟩, gd_in 401 (by decide +kernel) rfl, gd_in 21 (by decide +kernel) rfl⟩
set_option maxRecDepth 20000 in
theorem kd_X2_cupboardTelling : Cond.code yX2_cupboardTelling cX2_cupboardTelling 3 (some .int) ∈ lw_good := gd_in 406 rfl rfl
theorem kc_X2_185 : kV RX2 185 yX2_cupboardTelling cX2_cupboardTelling 3 (some .int) 1 := ⟨kd_X2_cupboardTelling, gd_in 403 (by decide +kernel) rfl, ki_X2, ⟨by decide +kernel, by decide +kernel, by decide +kernel⟩, gd_in 405 (by decide +kernel) rfl, gd_in 22 (by decide +kernel) rfl⟩
set_option maxRecDepth 20000 in
theorem kd_X2_knock : Cond.code yX2_knock cX2_knock 3 (some .int) ∈ lw_good := gd_in 410 rfl rfl
theorem kc_L_113 : kV RL 113 yX2_knock cX2_knock 3 (some .int) 1 := ⟨kd_X2_knock, gd_in 407 (by decide +kernel) rfl, ki_X2, ⟨by decide +kernel, by decide +kernel, by decide +kernel⟩, gd_in 408 (by decide +kernel) rfl, gd_in 409 (by decide +kernel) rfl⟩
set_option maxRecDepth 20000 in
theorem kd_X2_as : Cond.code yX2_as cX2_as 3 (some .int) ∈ lw_good := gd_in 414 rfl rfl
theorem kc_L_117 : kV RL 117 yX2_as cX2_as 3 (some .int) 2 := ⟨kd_X2_as, gd_in 411 (by decide +kernel) rfl, ki_X2, ⟨by decide +kernel, by decide +kernel, by decide +kernel⟩, gd_in 412 (by decide +kernel) rfl, gd_in 413 (by decide +kernel) rfl⟩
set_option maxRecDepth 20000 in
theorem kd_X2_trace : Cond.code yX2_trace cX2_trace 1 (some .int) ∈ lw_good := gd_in 418 rfl rfl
theorem kc_L_121 : kV RL 121 yX2_trace cX2_trace 1 (some .int) 0 := ⟨kd_X2_trace, gd_in 415 (by decide +kernel) rfl, ki_X2, ⟨by decide +kernel, by decide +kernel, by decide +kernel⟩, gd_in 416 (by decide +kernel) rfl, gd_in 417 (by decide +kernel) rfl⟩
set_option maxRecDepth 20000 in
theorem kd_X2_fault : Cond.code yX2_fault cX2_fault 1 (some .int) ∈ lw_good := gd_in 422 rfl rfl
theorem kc_L_126 : kV RL 126 yX2_fault cX2_fault 1 (some .int) 0 := ⟨kd_X2_fault, gd_in 419 (by decide +kernel) rfl, ki_X2, ⟨by decide +kernel, by decide +kernel, by decide +kernel⟩, gd_in 420 (by decide +kernel) rfl, gd_in 421 (by decide +kernel) rfl⟩
set_option maxRecDepth 20000 in
theorem kd_X2_many : Cond.code yX2_many cX2_many 2 (some .int) ∈ lw_good := gd_in 426 rfl rfl
theorem kc_L_130 : kV RL 130 yX2_many cX2_many 2 (some .int) 1 := ⟨kd_X2_many, gd_in 423 (by decide +kernel) rfl, ki_X2, ⟨by decide +kernel, by decide +kernel, by decide +kernel⟩, gd_in 424 (by decide +kernel) rfl, gd_in 425 (by decide +kernel) rfl⟩
set_option maxRecDepth 20000 in
theorem kd_X3_house : Cond.code yX3_house cX3_house 7 (some .int) ∈ lw_good := gd_in 527 rfl rfl
theorem kc_L_17 : kV RL 17 yX3_house cX3_house 7 (some .int) 4 := ⟨kd_X3_house, gd_in 524 (by decide +kernel) rfl, ki_X3, ⟨by decide +kernel, by decide +kernel, by decide +kernel⟩, gd_in 525 (by decide +kernel) rfl, gd_in 526 (by decide +kernel) rfl⟩
set_option maxRecDepth 20000 in
theorem kd_X3_noSheet : Cond.code yX3_noSheet cX3_noSheet 1 (some .boolean) ∈ lw_good := gd_in 530 rfl rfl
theorem kc_X3_115 : kT RX3 115 yX3_noSheet cX3_noSheet 1 (some .boolean) 1 := ⟨kd_X3_noSheet, gd_in 528 (by decide +kernel) rfl, ki_X3, ⟨by decide +kernel, by decide +kernel, by decide +kernel⟩, gd_in 529 (by decide +kernel) rfl⟩
set_option maxRecDepth 20000 in
theorem kd_X3_in : Cond.code yX3_in cX3_in 6 (some .boolean) ∈ lw_good := gd_in 534 rfl rfl
theorem kc_X3_77 : kT RX3 77 yX3_in cX3_in 6 (some .boolean) 3 := ⟨kd_X3_in, gd_in 532 (by decide +kernel) rfl, ki_X3, ⟨by decide +kernel, by decide +kernel, by decide +kernel⟩, gd_in 533 (by decide +kernel) rfl⟩
set_option maxRecDepth 20000 in
theorem kd_X3_refused : Cond.code yX3_refused cX3_refused 2 (some .int) ∈ lw_good := gd_in 538 rfl rfl
theorem kc_X3_119 : kV RX3 119 yX3_refused cX3_refused 2 (some .int) 1 := ⟨kd_X3_refused, gd_in 535 (by decide +kernel) rfl, ki_X3, ⟨by decide +kernel, by decide +kernel, by decide +kernel⟩, gd_in 537 (by decide +kernel) rfl, gd_in 23 (by decide +kernel) rfl⟩
set_option maxRecDepth 20000 in
theorem kd_X3_cellsBarred : Cond.code yX3_cellsBarred cX3_cellsBarred 6 (some .int) ∈ lw_good := gd_in 543 rfl rfl
theorem kc_X3_124 : kV RX3 124 yX3_cellsBarred cX3_cellsBarred 6 (some .int) 4 := ⟨kd_X3_cellsBarred, gd_in 540 (by decide +kernel) rfl, ki_X3, ⟨by decide +kernel, by decide +kernel, by decide +kernel⟩, gd_in 542 (by decide +kernel) rfl, gd_in 24 (by decide +kernel) rfl⟩
set_option maxRecDepth 20000 in
theorem kd_X3_failed : Cond.code yX3_failed cX3_failed 2 (some .int) ∈ lw_good := gd_in 547 rfl rfl
theorem kc_X3_107 : kV RX3 107 yX3_failed cX3_failed 2 (some .int) 1 := ⟨kd_X3_failed, gd_in 544 (by decide +kernel) rfl, ki_X3, ⟨by decide +kernel, by decide +kernel, by decide +kernel⟩, gd_in 546 (by decide +kernel) rfl, gd_in 25 (by decide +kernel) rfl⟩
set_option maxRecDepth 20000 in
theorem kd_X3_isBeyond : Cond.code yX3_isBeyond cX3_isBeyond 4 (some .boolean) ∈ lw_good := gd_in 550 rfl rfl
theorem kc_X3_111 : kT RX3 111 yX3_isBeyond cX3_isBeyond 4 (some .boolean) 3 := ⟨kd_X3_isBeyond, gd_in 548 (by decide +kernel) rfl, ki_X3, ⟨by decide +kernel, by decide +kernel, by decide +kernel⟩, gd_in 549 (by decide +kernel) rfl⟩
set_option maxRecDepth 20000 in
theorem kd_X3_readsHouse : Cond.code yX3_readsHouse cX3_readsHouse 4 (some .boolean) ∈ lw_good := gd_in 554 rfl rfl
theorem kc_X3_128 : kV RX3 128 yX3_readsHouse cX3_readsHouse 4 (some .boolean) 2 := ⟨kd_X3_readsHouse, gd_in 551 (by decide +kernel) rfl, ki_X3, ⟨by decide +kernel, by decide +kernel, by decide +kernel⟩, gd_in 553 (by decide +kernel) rfl, gd_in 26 (by decide +kernel) rfl⟩
set_option maxRecDepth 20000 in
theorem kd_X3_codeAt : Cond.code yX3_codeAt cX3_codeAt 3 (some .int) ∈ lw_good := gd_in 558 rfl rfl
theorem kc_X3_89 : kV RX3 89 yX3_codeAt cX3_codeAt 3 (some .int) 2 := ⟨kd_X3_codeAt, gd_in 555 (by decide +kernel) rfl, ki_X3, ⟨by decide +kernel, by decide +kernel, by decide +kernel⟩, gd_in 557 (by decide +kernel) rfl, gd_in 27 (by decide +kernel) rfl⟩
set_option maxRecDepth 20000 in
theorem kd_X3_figure : Cond.code yX3_figure cX3_figure 7 (some .int) ∈ lw_good := gd_in 562 rfl rfl
theorem kc_X3_99 : kV RX3 99 yX3_figure cX3_figure 7 (some .int) 4 := ⟨kd_X3_figure, gd_in 559 (by decide +kernel) rfl, ki_X3, ⟨by decide +kernel, by decide +kernel, by decide +kernel⟩, gd_in 561 (by decide +kernel) rfl, gd_in 28 (by decide +kernel) rfl⟩
set_option maxRecDepth 20000 in
theorem kd_X3_readsDoor : Cond.code yX3_readsDoor cX3_readsDoor 7 (some .boolean) ∈ lw_good := gd_in 566 rfl rfl
theorem kc_X3_103 : kV RX3 103 yX3_readsDoor cX3_readsDoor 7 (some .boolean) 2 := ⟨kd_X3_readsDoor, gd_in 563 (by decide +kernel) rfl, ki_X3, ⟨by decide +kernel, by decide +kernel, by decide +kernel⟩, gd_in 565 (by decide +kernel) rfl, gd_in 29 (by decide +kernel) rfl⟩
set_option maxRecDepth 20000 in
theorem kd_X3_ofDoor : Cond.code yX3_ofDoor cX3_ofDoor 3 (some .int) ∈ lw_good := gd_in 570 rfl rfl
theorem kc_L_22 : kV RL 22 yX3_ofDoor cX3_ofDoor 3 (some .int) 2 := ⟨kd_X3_ofDoor, gd_in 567 (by decide +kernel) rfl, ki_X3, ⟨by decide +kernel, by decide +kernel, by decide +kernel⟩, gd_in 568 (by decide +kernel) rfl, gd_in 569 (by decide +kernel) rfl⟩
set_option maxRecDepth 20000 in
theorem kd_X3_noDoor : Cond.code yX3_noDoor cX3_noDoor 2 (some .boolean) ∈ lw_good := gd_in 574 rfl rfl
theorem kc_X3_134 : kV RX3 134 yX3_noDoor cX3_noDoor 2 (some .boolean) 1 := ⟨kd_X3_noDoor, gd_in 571 (by decide +kernel) rfl, ki_X3, ⟨by decide +kernel, by decide +kernel, by decide +kernel⟩, gd_in 573 (by decide +kernel) rfl, gd_in 30 (by decide +kernel) rfl⟩
set_option maxRecDepth 20000 in
theorem kd_X3_leads : Cond.code yX3_leads cX3_leads 3 (some .int) ∈ lw_good := gd_in 578 rfl rfl
theorem kc_L_26 : kV RL 26 yX3_leads cX3_leads 3 (some .int) 2 := ⟨kd_X3_leads, gd_in 575 (by decide +kernel) rfl, ki_X3, ⟨by decide +kernel, by decide +kernel, by decide +kernel⟩, gd_in 576 (by decide +kernel) rfl, gd_in 577 (by decide +kernel) rfl⟩
set_option maxRecDepth 20000 in
theorem kd_X3_noHour : Cond.code yX3_noHour cX3_noHour 1 (some .boolean) ∈ lw_good := gd_in 581 rfl rfl
theorem kc_X3_137 : kT RX3 137 yX3_noHour cX3_noHour 1 (some .boolean) 1 := ⟨kd_X3_noHour, gd_in 579 (by decide +kernel) rfl, ki_X3, ⟨by decide +kernel, by decide +kernel, by decide +kernel⟩, gd_in 580 (by decide +kernel) rfl⟩
set_option maxRecDepth 20000 in
theorem kd_X3_leadsAt : Cond.code yX3_leadsAt cX3_leadsAt 4 (some .int) ∈ lw_good := gd_in 586 rfl rfl
theorem kc_X3_140 : kV RX3 140 yX3_leadsAt cX3_leadsAt 4 (some .int) 2 := ⟨kd_X3_leadsAt, gd_in 583 (by decide +kernel) rfl, ki_X3, ⟨by decide +kernel, by decide +kernel, by decide +kernel⟩, gd_in 585 (by decide +kernel) rfl, gd_in 31 (by decide +kernel) rfl⟩
set_option maxRecDepth 20000 in
theorem kd_X3_step : Cond.code yX3_step cX3_step 4 (some .int) ∈ lw_good := gd_in 590 rfl rfl
theorem kc_L_30 : kV RL 30 yX3_step cX3_step 4 (some .int) 2 := ⟨kd_X3_step, gd_in 587 (by decide +kernel) rfl, ki_X3, ⟨by decide +kernel, by decide +kernel, by decide +kernel⟩, gd_in 588 (by decide +kernel) rfl, gd_in 589 (by decide +kernel) rfl⟩
set_option maxRecDepth 20000 in
theorem kd_X3_turn : Cond.code yX3_turn cX3_turn 4 (some .int) ∈ lw_good := gd_in 595 rfl rfl
theorem kc_L_34 : kV RL 34 yX3_turn cX3_turn 4 (some .int) 2 := ⟨kd_X3_turn, gd_in 592 (by decide +kernel) rfl, ki_X3, ⟨by decide +kernel, by decide +kernel, by decide +kernel⟩, gd_in 593 (by decide +kernel) rfl, gd_in 594 (by decide +kernel) rfl⟩
set_option maxRecDepth 20000 in
theorem kd_X3_noRoom : Cond.code yX3_noRoom cX3_noRoom 2 (some .boolean) ∈ lw_good := gd_in 599 rfl rfl
theorem kc_X3_145 : kV RX3 145 yX3_noRoom cX3_noRoom 2 (some .boolean) 1 := ⟨kd_X3_noRoom, gd_in 596 (by decide +kernel) rfl, ki_X3, ⟨by decide +kernel, by decide +kernel, by decide +kernel⟩, gd_in 598 (by decide +kernel) rfl, gd_in 32 (by decide +kernel) rfl⟩
set_option maxRecDepth 20000 in
theorem kd_X3_walk : Cond.code yX3_walk cX3_walk 10 (some .int) ∈ lw_good := gd_in 603 rfl rfl
theorem kc_L_39 : kV RL 39 yX3_walk cX3_walk 10 (some .int) 7 := ⟨kd_X3_walk, gd_in 600 (by decide +kernel) rfl, ki_X3, ⟨by decide +kernel, by decide +kernel, by decide +kernel⟩, gd_in 601 (by decide +kernel) rfl, gd_in 602 (by decide +kernel) rfl⟩
set_option maxRecDepth 20000 in
theorem kd_X3_goWalk : Cond.code yX3_goWalk cX3_goWalk 8 none ∈ lw_good := gd_in 609 rfl rfl
theorem kc_X3_168 : kV RX3 168 yX3_goWalk cX3_goWalk 8 none 4 := ⟨kd_X3_goWalk, gd_in 606 (by decide +kernel) rfl, ki_X3, ⟨by decide +kernel, by decide +kernel, by decide +kernel⟩, gd_in 608 (by decide +kernel) rfl, gd_in 33 (by decide +kernel) rfl⟩
set_option maxRecDepth 20000 in
theorem kd_X3_behind : Cond.code yX3_behind cX3_behind 4 (some .int) ∈ lw_good := gd_in 613 rfl rfl
theorem kc_X3_160 : kV RX3 160 yX3_behind cX3_behind 4 (some .int) 3 := ⟨kd_X3_behind, gd_in 610 (by decide +kernel) rfl, ki_X3, ⟨by decide +kernel, by decide +kernel, by decide +kernel⟩, gd_in 612 (by decide +kernel) rfl, gd_in 34 (by decide +kernel) rfl⟩
set_option maxRecDepth 20000 in
theorem kd_X3_soonest : Cond.code yX3_soonest cX3_soonest 14 (some .int) ∈ lw_good := gd_in 617 rfl rfl
theorem kc_L_43 : kV RL 43 yX3_soonest cX3_soonest 14 (some .int) 4 := ⟨kd_X3_soonest, gd_in 614 (by decide +kernel) rfl, ki_X3, ⟨by decide +kernel, by decide +kernel, by decide +kernel⟩, gd_in 615 (by decide +kernel) rfl, gd_in 616 (by decide +kernel) rfl⟩
set_option maxRecDepth 20000 in
theorem kd_X3_soonestOf : Cond.code yX3_soonestOf cX3_soonestOf 7 (some .int) ∈ lw_good := gd_in 623 rfl rfl
theorem kc_X3_182 : kV RX3 182 yX3_soonestOf cX3_soonestOf 7 (some .int) 4 := ⟨kd_X3_soonestOf, gd_in 620 (by decide +kernel) rfl, ki_X3, ⟨by decide +kernel, by decide +kernel, by decide +kernel⟩, gd_in 622 (by decide +kernel) rfl, gd_in 35 (by decide +kernel) rfl⟩
set_option maxRecDepth 20000 in
theorem kd_X3_isIn : Cond.code yX3_isIn cX3_isIn 2 (some .boolean) ∈ lw_good := gd_in 626 rfl rfl
theorem kc_X3_172 : kT RX3 172 yX3_isIn cX3_isIn 2 (some .boolean) 2 := ⟨kd_X3_isIn, gd_in 624 (by decide +kernel) rfl, ki_X3, ⟨by decide +kernel, by decide +kernel, by decide +kernel⟩, gd_in 625 (by decide +kernel) rfl⟩
set_option maxRecDepth 20000 in
theorem kd_X3_setBehind : Cond.code yX3_setBehind cX3_setBehind 6 (some .int) ∈ lw_good := gd_in 630 rfl rfl
theorem kc_X3_175 : kV RX3 175 yX3_setBehind cX3_setBehind 6 (some .int) 2 := ⟨kd_X3_setBehind, gd_in 627 (by decide +kernel) rfl, ki_X3, ⟨by decide +kernel, by decide +kernel, by decide +kernel⟩, gd_in 629 (by decide +kernel) rfl, gd_in 36 (by decide +kernel) rfl⟩
set_option maxRecDepth 20000 in
theorem kd_X3_errands : Cond.code yX3_errands cX3_errands 5 (some .int) ∈ lw_good := gd_in 634 rfl rfl
theorem kc_L_48 : kV RL 48 yX3_errands cX3_errands 5 (some .int) 3 := ⟨kd_X3_errands, gd_in 631 (by decide +kernel) rfl, ki_X3, ⟨by decide +kernel, by decide +kernel, by decide +kernel⟩, gd_in 632 (by decide +kernel) rfl, gd_in 633 (by decide +kernel) rfl⟩
set_option maxRecDepth 20000 in
theorem kd_X3_haveBeen : Cond.code yX3_haveBeen cX3_haveBeen 4 (some .boolean) ∈ lw_good := gd_in 638 rfl rfl
theorem kc_X3_189 : kV RX3 189 yX3_haveBeen cX3_haveBeen 4 (some .boolean) 1 := ⟨kd_X3_haveBeen, gd_in 635 (by decide +kernel) rfl, ki_X3, ⟨by decide +kernel, by decide +kernel, by decide +kernel⟩, gd_in 637 (by decide +kernel) rfl, gd_in 37 (by decide +kernel) rfl⟩
set_option maxRecDepth 20000 in
theorem kd_X3_goHour : Cond.code yX3_goHour cX3_goHour 5 none ∈ lw_good := gd_in 642 rfl rfl
theorem kc_X3_192 : kV RX3 192 yX3_goHour cX3_goHour 5 none 1 := ⟨kd_X3_goHour, gd_in 639 (by decide +kernel) rfl, ki_X3, ⟨by decide +kernel, by decide +kernel, by decide +kernel⟩, gd_in 641 (by decide +kernel) rfl, gd_in 38 (by decide +kernel) rfl⟩
set_option maxRecDepth 20000 in
theorem kd_X3_goOn : Cond.code yX3_goOn cX3_goOn 6 none ∈ lw_good := gd_in 646 rfl rfl
theorem kc_X3_185 : kV RX3 185 yX3_goOn cX3_goOn 6 none 3 := ⟨kd_X3_goOn, gd_in 643 (by decide +kernel) rfl, ki_X3, ⟨by decide +kernel, by decide +kernel, by decide +kernel⟩, gd_in 645 (by decide +kernel) rfl, gd_in 39 (by decide +kernel) rfl⟩
set_option maxRecDepth 20000 in
theorem kd_X3_meet : Cond.code yX3_meet cX3_meet 7 (some .int) ∈ lw_good := gd_in 650 rfl rfl
theorem kc_L_52 : kV RL 52 yX3_meet cX3_meet 7 (some .int) 3 := ⟨kd_X3_meet, gd_in 647 (by decide +kernel) rfl, ki_X3, ⟨by decide +kernel, by decide +kernel, by decide +kernel⟩, gd_in 648 (by decide +kernel) rfl, gd_in 649 (by decide +kernel) rfl⟩
set_option maxRecDepth 20000 in
theorem kd_X3_cut : Cond.code yX3_cut cX3_cut 6 (some .int) ∈ lw_good := gd_in 654 rfl rfl
theorem kc_L_56 : kV RL 56 yX3_cut cX3_cut 6 (some .int) 3 := ⟨kd_X3_cut, gd_in 651 (by decide +kernel) rfl, ki_X3, ⟨by decide +kernel, by decide +kernel, by decide +kernel⟩, gd_in 652 (by decide +kernel) rfl, gd_in 653 (by decide +kernel) rfl⟩
set_option maxRecDepth 20000 in
theorem kd_X3_reach : Cond.code yX3_reach cX3_reach 6 (some .int) ∈ lw_good := gd_in 658 rfl rfl
theorem kc_L_61 : kV RL 61 yX3_reach cX3_reach 6 (some .int) 1 := ⟨kd_X3_reach, gd_in 655 (by decide +kernel) rfl, ki_X3, ⟨by decide +kernel, by decide +kernel, by decide +kernel⟩, gd_in 656 (by decide +kernel) rfl, gd_in 657 (by decide +kernel) rfl⟩
set_option maxRecDepth 20000 in
theorem kd_X3_reading : Cond.code yX3_reading cX3_reading 4 (some .int) ∈ lw_good := gd_in 662 rfl rfl
theorem kc_L_65 : kV RL 65 yX3_reading cX3_reading 4 (some .int) 3 := ⟨kd_X3_reading, gd_in 659 (by decide +kernel) rfl, ki_X3, ⟨by decide +kernel, by decide +kernel, by decide +kernel⟩, gd_in 660 (by decide +kernel) rfl, gd_in 661 (by decide +kernel) rfl⟩
set_option maxRecDepth 20000 in
theorem kd_X3_back : Cond.code yX3_back cX3_back 2 (some .int) ∈ lw_good := gd_in 666 rfl rfl
theorem kc_L_69 : kV RL 69 yX3_back cX3_back 2 (some .int) 1 := ⟨kd_X3_back, gd_in 663 (by decide +kernel) rfl, ki_X3, ⟨by decide +kernel, by decide +kernel, by decide +kernel⟩, gd_in 664 (by decide +kernel) rfl, gd_in 665 (by decide +kernel) rfl⟩
set_option maxRecDepth 20000 in
theorem kd_X3_steps : Cond.code yX3_steps cX3_steps 5 (some .int) ∈ lw_good := gd_in 670 rfl rfl
theorem kc_L_73 : kV RL 73 yX3_steps cX3_steps 5 (some .int) 1 := ⟨kd_X3_steps, gd_in 667 (by decide +kernel) rfl, ki_X3, ⟨by decide +kernel, by decide +kernel, by decide +kernel⟩, gd_in 668 (by decide +kernel) rfl, gd_in 669 (by decide +kernel) rfl⟩
set_option maxRecDepth 20000 in
theorem kd_X3_areSo : Cond.code yX3_areSo cX3_areSo 3 (some .boolean) ∈ lw_good := gd_in 674 rfl rfl
theorem kc_X3_196 : kV RX3 196 yX3_areSo cX3_areSo 3 (some .boolean) 0 := ⟨kd_X3_areSo, gd_in 671 (by decide +kernel) rfl, ki_X3, ⟨by decide +kernel, by decide +kernel, by decide +kernel⟩, gd_in 673 (by decide +kernel) rfl, gd_in 40 (by decide +kernel) rfl⟩
set_option maxRecDepth 20000 in
theorem kd_X3_targets : Cond.code yX3_targets cX3_targets 5 (some .int) ∈ lw_good := gd_in 678 rfl rfl
theorem kc_L_77 : kV RL 77 yX3_targets cX3_targets 5 (some .int) 1 := ⟨kd_X3_targets, gd_in 675 (by decide +kernel) rfl, ki_X3, ⟨by decide +kernel, by decide +kernel, by decide +kernel⟩, gd_in 676 (by decide +kernel) rfl, gd_in 677 (by decide +kernel) rfl⟩
set_option maxRecDepth 20000 in
theorem kd_X3_kinds : Cond.code yX3_kinds cX3_kinds 5 (some .int) ∈ lw_good := gd_in 682 rfl rfl
theorem kc_L_81 : kV RL 81 yX3_kinds cX3_kinds 5 (some .int) 1 := ⟨kd_X3_kinds, gd_in 679 (by decide +kernel) rfl, ki_X3, ⟨by decide +kernel, by decide +kernel, by decide +kernel⟩, gd_in 680 (by decide +kernel) rfl, gd_in 681 (by decide +kernel) rfl⟩
set_option maxRecDepth 20000 in
theorem kd_X3_odds : Cond.code yX3_odds cX3_odds 8 (some .long) ∈ lw_good := gd_in 686 rfl rfl
theorem kc_L_86 : kV RL 86 yX3_odds cX3_odds 8 (some .long) 4 := ⟨kd_X3_odds, gd_in 683 (by decide +kernel) rfl, ki_X3, ⟨by decide +kernel, by decide +kernel, by decide +kernel⟩, gd_in 684 (by decide +kernel) rfl, gd_in 685 (by decide +kernel) rfl⟩
set_option maxRecDepth 20000 in
theorem kd_X3_lost : Cond.code yX3_lost cX3_lost 0 (some .long) ∈ lw_good := gd_in 690 rfl rfl
theorem kc_X3_70 : kT RX3 70 yX3_lost cX3_lost 0 (some .long) 0 := ⟨kd_X3_lost, gd_in 688 (by decide +kernel) rfl, ki_X3, ⟨by decide +kernel, by decide +kernel, by decide +kernel⟩, gd_in 689 (by decide +kernel) rfl⟩
set_option maxRecDepth 20000 in
theorem kd_X3_share : Cond.code yX3_share cX3_share 11 (some .long) ∈ lw_good := gd_in 695 rfl rfl
theorem kc_X3_204 : kT RX3 204 yX3_share cX3_share 11 (some .long) 3 := ⟨kd_X3_share, gd_in 693 (by decide +kernel) rfl, ki_X3, ⟨by decide +kernel, by decide +kernel, by decide +kernel⟩, gd_in 694 (by decide +kernel) rfl⟩
set_option maxRecDepth 20000 in
theorem kd_X3_sheet : Cond.code yX3_sheet cX3_sheet 5 (some .int) ∈ lw_good := gd_in 699 rfl rfl
theorem kc_L_90 : kV RL 90 yX3_sheet cX3_sheet 5 (some .int) 3 := ⟨kd_X3_sheet, gd_in 696 (by decide +kernel) rfl, ki_X3, ⟨by decide +kernel, by decide +kernel, by decide +kernel⟩, gd_in 697 (by decide +kernel) rfl, gd_in 698 (by decide +kernel) rfl⟩
set_option maxRecDepth 20000 in
theorem kd_X3_lose : Cond.code yX3_lose cX3_lose 3 (some .int) ∈ lw_good := gd_in 703 rfl rfl
theorem kc_L_94 : kV RL 94 yX3_lose cX3_lose 3 (some .int) 1 := ⟨kd_X3_lose, gd_in 700 (by decide +kernel) rfl, ki_X3, ⟨by decide +kernel, by decide +kernel, by decide +kernel⟩, gd_in 701 (by decide +kernel) rfl, gd_in 702 (by decide +kernel) rfl⟩
set_option maxRecDepth 20000 in
theorem kd_X3_put : Cond.code yX3_put cX3_put 4 (some .int) ∈ lw_good := gd_in 707 rfl rfl
theorem kc_L_98 : kV RL 98 yX3_put cX3_put 4 (some .int) 3 := ⟨kd_X3_put, gd_in 704 (by decide +kernel) rfl, ki_X3, ⟨by decide +kernel, by decide +kernel, by decide +kernel⟩, gd_in 705 (by decide +kernel) rfl, gd_in 706 (by decide +kernel) rfl⟩
set_option maxRecDepth 20000 in
theorem kd_X3_noCell : Cond.code yX3_noCell cX3_noCell 3 (some .int) ∈ lw_good := gd_in 711 rfl rfl
theorem kc_X3_210 : kV RX3 210 yX3_noCell cX3_noCell 3 (some .int) 2 := ⟨kd_X3_noCell, gd_in 708 (by decide +kernel) rfl, ki_X3, ⟨by decide +kernel, by decide +kernel, by decide +kernel⟩, gd_in 710 (by decide +kernel) rfl, gd_in 41 (by decide +kernel) rfl⟩
set_option maxRecDepth 20000 in
theorem kd_X3_cell : Cond.code yX3_cell cX3_cell 4 (some .long) ∈ lw_good := gd_in 715 rfl rfl
theorem kc_L_103 : kV RL 103 yX3_cell cX3_cell 4 (some .long) 3 := ⟨kd_X3_cell, gd_in 712 (by decide +kernel) rfl, ki_X3, ⟨by decide +kernel, by decide +kernel, by decide +kernel⟩, gd_in 713 (by decide +kernel) rfl, gd_in 714 (by decide +kernel) rfl⟩
set_option maxRecDepth 20000 in
theorem kd_X3_failedLong : Cond.code yX3_failedLong cX3_failedLong 2 (some .long) ∈ lw_good := gd_in 719 rfl rfl
theorem kc_X3_213 : kV RX3 213 yX3_failedLong cX3_failedLong 2 (some .long) 1 := ⟨kd_X3_failedLong, gd_in 716 (by decide +kernel) rfl, ki_X3, ⟨by decide +kernel, by decide +kernel, by decide +kernel⟩, gd_in 718 (by decide +kernel) rfl, gd_in 42 (by decide +kernel) rfl⟩
set_option maxRecDepth 20000 in
theorem kd_X3_copy : Cond.code yX3_copy cX3_copy 7 (some .int) ∈ lw_good := gd_in 723 rfl rfl
theorem kc_L_108 : kV RL 108 yX3_copy cX3_copy 7 (some .int) 5 := ⟨kd_X3_copy, gd_in 720 (by decide +kernel) rfl, ki_X3, ⟨by decide +kernel, by decide +kernel, by decide +kernel⟩, gd_in 721 (by decide +kernel) rfl, gd_in 722 (by decide +kernel) rfl⟩
set_option maxRecDepth 20000 in
theorem kd_X3_tell : Cond.code yX3_tell cX3_tell 4 (some .int) ∈ lw_good := gd_in 727 rfl rfl
theorem kc_L_112 : kV RL 112 yX3_tell cX3_tell 4 (some .int) 1 := ⟨kd_X3_tell, gd_in 724 (by decide +kernel) rfl, ki_X3, ⟨by decide +kernel, by decide +kernel, by decide +kernel⟩, gd_in 725 (by decide +kernel) rfl, gd_in 726 (by decide +kernel) rfl⟩
set_option maxRecDepth 20000 in
theorem kd_X3_traced : Cond.code yX3_traced cX3_traced 2 none ∈ lw_good := gd_in 731 rfl rfl
theorem kc_X3_220 : kV RX3 220 yX3_traced cX3_traced 2 none 1 := ⟨kd_X3_traced, gd_in 728 (by decide +kernel) rfl, ki_X3, ⟨by decide +kernel, by decide +kernel, by decide +kernel⟩, gd_in 730 (by decide +kernel) rfl, gd_in 43 (by decide +kernel) rfl⟩
set_option maxRecDepth 20000 in
theorem kd_X3_knock : Cond.code yX3_knock cX3_knock 2 (some .int) ∈ lw_good := gd_in 735 rfl rfl
theorem kc_L_116 : kV RL 116 yX3_knock cX3_knock 2 (some .int) 1 := ⟨kd_X3_knock, gd_in 732 (by decide +kernel) rfl, ki_X3, ⟨by decide +kernel, by decide +kernel, by decide +kernel⟩, gd_in 733 (by decide +kernel) rfl, gd_in 734 (by decide +kernel) rfl⟩
set_option maxRecDepth 20000 in
theorem kd_X3_as : Cond.code yX3_as cX3_as 3 (some .int) ∈ lw_good := gd_in 739 rfl rfl
theorem kc_L_120 : kV RL 120 yX3_as cX3_as 3 (some .int) 2 := ⟨kd_X3_as, gd_in 736 (by decide +kernel) rfl, ki_X3, ⟨by decide +kernel, by decide +kernel, by decide +kernel⟩, gd_in 737 (by decide +kernel) rfl, gd_in 738 (by decide +kernel) rfl⟩
set_option maxRecDepth 20000 in
theorem kd_X3_trace : Cond.code yX3_trace cX3_trace 1 (some .int) ∈ lw_good := gd_in 743 rfl rfl
theorem kc_L_125 : kV RL 125 yX3_trace cX3_trace 1 (some .int) 0 := ⟨kd_X3_trace, gd_in 740 (by decide +kernel) rfl, ki_X3, ⟨by decide +kernel, by decide +kernel, by decide +kernel⟩, gd_in 741 (by decide +kernel) rfl, gd_in 742 (by decide +kernel) rfl⟩
set_option maxRecDepth 20000 in
theorem kd_X3_fault : Cond.code yX3_fault cX3_fault 1 (some .int) ∈ lw_good := gd_in 747 rfl rfl
theorem kc_L_129 : kV RL 129 yX3_fault cX3_fault 1 (some .int) 0 := ⟨kd_X3_fault, gd_in 744 (by decide +kernel) rfl, ki_X3, ⟨by decide +kernel, by decide +kernel, by decide +kernel⟩, gd_in 745 (by decide +kernel) rfl, gd_in 746 (by decide +kernel) rfl⟩
set_option maxRecDepth 20000 in
theorem kd_X3_many : Cond.code yX3_many cX3_many 2 (some .int) ∈ lw_good := gd_in 751 rfl rfl
theorem kc_L_133 : kV RL 133 yX3_many cX3_many 2 (some .int) 1 := ⟨kd_X3_many, gd_in 748 (by decide +kernel) rfl, ki_X3, ⟨by decide +kernel, by decide +kernel, by decide +kernel⟩, gd_in 749 (by decide +kernel) rfl, gd_in 750 (by decide +kernel) rfl⟩
theorem kacp_nat : Cond.native arraycopyName ∈ lw_good := gd_in 295 (by decide +kernel) rfl
theorem kacp_st : Cond.static arraycopyName ∈ lw_good := gd_in 294 (by decide +kernel) rfl
end
section
/-- the abstract state: naturals, ints, the sheets' cells, longs, the trial door -/
abbrev sT : Type := (Nat → Nat → Nat) × (Nat → Nat → Int32) × (Nat → Nat → Int32) × (Nat → Nat → Int64) × (Nat → Nat)
def uN (f : Nat → Nat → Nat) (r i v : Nat) : Nat → Nat → Nat := fun r' i' => if r' = r ∧ i' = i then v else f r' i'
def uZ (f : Nat → Nat → Int32) (r i : Nat) (v : Int32) : Nat → Nat → Int32 := fun r' i' => if r' = r ∧ i' = i then v else f r' i'
def uG (f : Nat → Nat → Int64) (r i : Nat) (v : Int64) : Nat → Nat → Int64 := fun r' i' => if r' = r ∧ i' = i then v else f r' i'
def uT (f : Nat → Nat) (i v : Nat) : Nat → Nat := fun i' => if i' = i then v else f i'
/-- a whole row anew -/
def rZ (f : Nat → Nat → Int32) (r : Nat) (g : Nat → Int32) : Nat → Nat → Int32 := fun r' => if r' = r then g else f r'
def rG (f : Nat → Nat → Int64) (r : Nat) (g : Nat → Int64) : Nat → Nat → Int64 := fun r' => if r' = r then g else f r'
theorem upd_uN (f : Nat → Nat → Nat) (r i v : Nat) : upd (fun j => nI (f r j)) i (nI v) = fun j => nI (uN f r i v r j) := by
  funext j; by_cases h : j = i <;> simp [upd, uN, h]
theorem upd_uZ (f : Nat → Nat → Int32) (r i : Nat) (v : Int32) : upd (f r) i v = uZ f r i v r := by
  funext j; by_cases h : j = i <;> simp [upd, uZ, h]
theorem upd_uG (f : Nat → Nat → Int64) (r i : Nat) (v : Int64) : vp_updL (f r) i v = uG f r i v r := by
  funext j; by_cases h : j = i <;> simp [vp_updL, uG, h]
theorem upd_uE (f : Nat → Nat → Int32) (k i : Nat) (hi : i < 60) (v : Int32) : upd (fun j => f (j / 60) (j % 60)) (60 * k + i) v = fun j => uZ f k i v (j / 60) (j % 60) := by
  funext j
  by_cases h : j = 60 * k + i
  · subst h
    have h1 : (60 * k + i) / 60 = k := by omega
    have h2 : (60 * k + i) % 60 = i := by omega
    simp [upd, uZ, h1, h2]
  · have h1 : ¬ (j / 60 = k ∧ j % 60 = i) := by omega
    simp [upd, uZ, h, h1]
abbrev ty4 (cI cJ cD cS : ClassId) : List (ClassId × FieldType) := [(cI, .int), (cJ, .long), (cD, .object RX0), (cS, .object RX1)]
abbrev fM (a : Nat → Nat) (S : sT) : List Value := [.int (S.2.1 0 1), .int (nI (S.1 0 0)), .int (nI (S.1 0 1)), .ref (a 1), .ref (a 2), .ref (a 3), .ref (a 4), .int (S.2.1 0 2), .int (S.2.1 0 3), .int (S.2.1 0 4), .int (S.2.1 0 5), .ref (a 5), .ref (a 6), .ref (a 7), .ref (a 8), .int (S.2.1 0 6), .int (S.2.1 0 7), .int (S.2.1 0 8), .int (S.2.1 0 9), .ref (a 9), .ref (a 10), .int (nI (S.1 0 2)), .ref (a 11), .ref (a 12), .ref (a 13), .ref (a 14), .ref (a 15), .ref (a 16), .ref (a 17), .int (S.2.1 0 0)]
/-- the reference: its object and seventeen arrays -/
def wM (cI : ClassId) (a : Nat → Nat) (S : sT) : va_W := [(a 0, .inr (3, fM a S)), (a 1, .inl (cI, 8, .inl (fun i => nI (S.1 1 i)))), (a 2, .inl (cI, 8, .inl (fun i => nI (S.1 2 i)))), (a 3, .inl (cI, 8, .inl (fun i => nI (S.1 3 i)))), (a 4, .inl (cI, 8, .inl (fun i => nI (S.1 4 i)))), (a 5, .inl (cI, 8, .inl (S.2.1 21))), (a 6, .inl (cI, 8, .inl (S.2.1 22))), (a 7, .inl (cI, 8, .inl (S.2.1 23))), (a 8, .inl (cI, 8, .inl (S.2.1 24))), (a 9, .inl (cI, 64, .inl (S.2.1 25))), (a 10, .inl (cI, 64, .inl (S.2.1 26))), (a 11, .inl (cI, 8, .inl (fun i => nI (S.1 5 i)))), (a 12, .inl (cI, 8, .inl (fun i => nI (S.1 6 i)))), (a 13, .inl (cI, 8, .inl (S.2.1 1))), (a 14, .inl (cI, 4, .inl (S.2.1 2))), (a 15, .inl (cI, 4, .inl (S.2.1 3))), (a 16, .inl (cI, 240, .inl (fun j => S.2.2.1 (j / 60) (j % 60)))), (a 17, .inl (cI, 60, .inl (S.2.1 27)))]
abbrev fX (a : Nat → Nat) (S : sT) : List Value := [.int (nI (S.1 0 0)), .int (nI (S.1 0 1)), .ref (a 1), .ref (a 2), .int (nI (S.1 0 2)), .ref (a 3), .ref (a 4), .ref (a 5), .ref (a 6), .int (S.2.1 0 0), .int (S.2.1 0 1), .ref (a 7), .ref (a 8), .ref (a 9)]
abbrev fD (S : sT) (d : Nat) : List Value := [.int (nI (S.1 1 d)), .int (nI (S.1 2 d)), .int (nI (S.1 3 d)), .int (nI (S.1 4 d))]
abbrev fT (S : sT) : List Value := [.int (nI (S.2.2.2.2 0)), .int (nI (S.2.2.2.2 1)), .int (nI (S.2.2.2.2 2)), .int (nI (S.2.2.2.2 3))]
abbrev fS (a : Nat → Nat) (S : sT) (k : Nat) : List Value := [.ref (a (40 + k)), .int (S.2.1 3 k), .int (S.2.1 2 k)]
/-- the class: its object, eight doors and one to try, four sheets, rows -/
def wX (cI cJ cD cS : ClassId) (a : Nat → Nat) (S : sT) : va_W := [(a 0, .inr (2, fX a S)),
  (a 1, .inl (cD, 8, .inr (.inr (.inr (.inr (fun d => some (a (20 + d)))))))),
  (a 2, .inr (0, fT S)),
  (a 3, .inl (cI, 8, .inl (fun i => nI (S.1 5 i)))),
  (a 4, .inl (cI, 8, .inl (fun i => nI (S.1 6 i)))),
  (a 5, .inl (cI, 8, .inl (S.2.1 1))),
  (a 6, .inl (cS, 4, .inr (.inr (.inr (.inr (fun k => some (a (30 + k)))))))),
  (a 7, .inl (cI, 25, .inl (S.2.1 28))),
  (a 8, .inl (cJ, 6, .inr (.inl (S.2.2.2.1 0)))),
  (a 9, .inl (cJ, 6, .inr (.inl (S.2.2.2.1 1)))),
  (a (20 + 0), .inr (0, fD S 0)),
  (a (20 + 1), .inr (0, fD S 1)),
  (a (20 + 2), .inr (0, fD S 2)),
  (a (20 + 3), .inr (0, fD S 3)),
  (a (20 + 4), .inr (0, fD S 4)),
  (a (20 + 5), .inr (0, fD S 5)),
  (a (20 + 6), .inr (0, fD S 6)),
  (a (20 + 7), .inr (0, fD S 7)),
  (a (30 + 0), .inr (1, fS a S 0)),
  (a (30 + 1), .inr (1, fS a S 1)),
  (a (30 + 2), .inr (1, fS a S 2)),
  (a (30 + 3), .inr (1, fS a S 3)),
  (a (40 + 0), .inl (cI, 60, .inl (S.2.2.1 0))),
  (a (40 + 1), .inl (cI, 60, .inl (S.2.2.1 1))),
  (a (40 + 2), .inl (cI, 60, .inl (S.2.2.1 2))),
  (a (40 + 3), .inl (cI, 60, .inl (S.2.2.1 3)))]
theorem wX_door {cI cJ cD cS : ClassId} {a : Nat → Nat} {S : sT} (d : Nat) (hd : d < 8) : (wX cI cJ cD cS a S)[10 + d]? = some (a (20 + d), .inr (0, fD S d)) := by
  match d, hd with
  | 0, _ => rfl
  | 1, _ => rfl
  | 2, _ => rfl
  | 3, _ => rfl
  | 4, _ => rfl
  | 5, _ => rfl
  | 6, _ => rfl
  | 7, _ => rfl
theorem wX_sheet {cI cJ cD cS : ClassId} {a : Nat → Nat} {S : sT} (k : Nat) (hk : k < 4) : (wX cI cJ cD cS a S)[18 + k]? = some (a (30 + k), .inr (1, fS a S k)) := by
  match k, hk with
  | 0, _ => rfl
  | 1, _ => rfl
  | 2, _ => rfl
  | 3, _ => rfl
theorem wX_cells {cI cJ cD cS : ClassId} {a : Nat → Nat} {S : sT} (k : Nat) (hk : k < 4) : (wX cI cJ cD cS a S)[22 + k]? = some (a (40 + k), .inl (cI, 60, .inl (S.2.2.1 k))) := by
  match k, hk with
  | 0, _ => rfl
  | 1, _ => rfl
  | 2, _ => rfl
  | 3, _ => rfl
theorem wX_pd0 {cI cJ cD cS : ClassId} {a : Nat → Nat} {N : Nat → Nat → Nat} {Z : Nat → Nat → Int32} {E : Nat → Nat → Int32} {G : Nat → Nat → Int64} {T : Nat → Nat} (d v : Nat) (hd : d < 8) : (wX cI cJ cD cS a (N, Z, E, G, T)).set (10 + d) (a (20 + d), .inr (0, (fD (N, Z, E, G, T) d).set 0 (.int (nI v)))) = wX cI cJ cD cS a (uN N 1 d v, Z, E, G, T) := by
  match d, hd with
  | 0, _ => rfl
  | 1, _ => rfl
  | 2, _ => rfl
  | 3, _ => rfl
  | 4, _ => rfl
  | 5, _ => rfl
  | 6, _ => rfl
  | 7, _ => rfl
theorem wX_pd1 {cI cJ cD cS : ClassId} {a : Nat → Nat} {N : Nat → Nat → Nat} {Z : Nat → Nat → Int32} {E : Nat → Nat → Int32} {G : Nat → Nat → Int64} {T : Nat → Nat} (d v : Nat) (hd : d < 8) : (wX cI cJ cD cS a (N, Z, E, G, T)).set (10 + d) (a (20 + d), .inr (0, (fD (N, Z, E, G, T) d).set 1 (.int (nI v)))) = wX cI cJ cD cS a (uN N 2 d v, Z, E, G, T) := by
  match d, hd with
  | 0, _ => rfl
  | 1, _ => rfl
  | 2, _ => rfl
  | 3, _ => rfl
  | 4, _ => rfl
  | 5, _ => rfl
  | 6, _ => rfl
  | 7, _ => rfl
theorem wX_pd2 {cI cJ cD cS : ClassId} {a : Nat → Nat} {N : Nat → Nat → Nat} {Z : Nat → Nat → Int32} {E : Nat → Nat → Int32} {G : Nat → Nat → Int64} {T : Nat → Nat} (d v : Nat) (hd : d < 8) : (wX cI cJ cD cS a (N, Z, E, G, T)).set (10 + d) (a (20 + d), .inr (0, (fD (N, Z, E, G, T) d).set 2 (.int (nI v)))) = wX cI cJ cD cS a (uN N 3 d v, Z, E, G, T) := by
  match d, hd with
  | 0, _ => rfl
  | 1, _ => rfl
  | 2, _ => rfl
  | 3, _ => rfl
  | 4, _ => rfl
  | 5, _ => rfl
  | 6, _ => rfl
  | 7, _ => rfl
theorem wX_pd3 {cI cJ cD cS : ClassId} {a : Nat → Nat} {N : Nat → Nat → Nat} {Z : Nat → Nat → Int32} {E : Nat → Nat → Int32} {G : Nat → Nat → Int64} {T : Nat → Nat} (d v : Nat) (hd : d < 8) : (wX cI cJ cD cS a (N, Z, E, G, T)).set (10 + d) (a (20 + d), .inr (0, (fD (N, Z, E, G, T) d).set 3 (.int (nI v)))) = wX cI cJ cD cS a (uN N 4 d v, Z, E, G, T) := by
  match d, hd with
  | 0, _ => rfl
  | 1, _ => rfl
  | 2, _ => rfl
  | 3, _ => rfl
  | 4, _ => rfl
  | 5, _ => rfl
  | 6, _ => rfl
  | 7, _ => rfl
theorem wX_ps1 {cI cJ cD cS : ClassId} {a : Nat → Nat} {N : Nat → Nat → Nat} {Z : Nat → Nat → Int32} {E : Nat → Nat → Int32} {G : Nat → Nat → Int64} {T : Nat → Nat} (k : Nat) (v : Int32) (hk : k < 4) : (wX cI cJ cD cS a (N, Z, E, G, T)).set (18 + k) (a (30 + k), .inr (1, (fS a (N, Z, E, G, T) k).set 1 (.int v))) = wX cI cJ cD cS a (N, uZ Z 3 k v, E, G, T) := by
  match k, hk with
  | 0, _ => rfl
  | 1, _ => rfl
  | 2, _ => rfl
  | 3, _ => rfl
theorem wX_ps2 {cI cJ cD cS : ClassId} {a : Nat → Nat} {N : Nat → Nat → Nat} {Z : Nat → Nat → Int32} {E : Nat → Nat → Int32} {G : Nat → Nat → Int64} {T : Nat → Nat} (k : Nat) (v : Int32) (hk : k < 4) : (wX cI cJ cD cS a (N, Z, E, G, T)).set (18 + k) (a (30 + k), .inr (1, (fS a (N, Z, E, G, T) k).set 2 (.int v))) = wX cI cJ cD cS a (N, uZ Z 2 k v, E, G, T) := by
  match k, hk with
  | 0, _ => rfl
  | 1, _ => rfl
  | 2, _ => rfl
  | 3, _ => rfl
theorem wX_pc {cI cJ cD cS : ClassId} {a : Nat → Nat} {N : Nat → Nat → Nat} {Z : Nat → Nat → Int32} {E : Nat → Nat → Int32} {G : Nat → Nat → Int64} {T : Nat → Nat} (k : Nat) (g : Nat → Int32) (hk : k < 4) : (wX cI cJ cD cS a (N, Z, E, G, T)).set (22 + k) (a (40 + k), .inl (cI, 60, .inl g)) = wX cI cJ cD cS a (N, Z, rZ E k g, G, T) := by
  match k, hk with
  | 0, _ => rfl
  | 1, _ => rfl
  | 2, _ => rfl
  | 3, _ => rfl
section HDW
variable {p : Program} {l : Launch} {e : Env} {R : Room} {s : State} {m : MethodId} {args : Array Value} {below : List Frame} {meth : Method} {c : Code} {own : String} {cc : ByteArray} {nL : Nat} {ret : Option FieldType} {cells slots : Nat} {A : Nat → Prop} {D : va_G} {Q : State → Prop} {pc : Nat} {lv : List (Nat × Value)} {st : List Value} {cI cJ cD cS : ClassId} {a : Nat → Nat} {N : Nat → Nat → Nat} {Z : Nat → Nat → Int32} {E : Nat → Nat → Int32} {G : Nat → Nat → Int64} {T : Nat → Nat}
theorem gm_fault (n : Nat) (C : xC p s m args meth c RX3 cc nL ret) (hK : va_K D vwCl (ty4 cI cJ cD cS) s) (d : decode cc pc = .ok (.getfield 67, 3)) (hn : pc + 3 = n) (v : Int32) (hv : Z 0 1 = v) (k : XW p l e R s m args below meth c nL cells slots A D Q (wM cI a) (N, Z, E, G, T) n lv (.int v :: st)) : XW p l e R s m args below meth c nL cells slots A D Q (wM cI a) (N, Z, E, G, T) pc lv (.ref (a 0) :: st) := by
  subst hv
  exact hd_get n C hK d hn (0) rfl rfl inX3 0 (by decide) kf_X3_67 rfl rfl k
theorem pm_fault {v : Int32} (n : Nat) (C : xC p s m args meth c RX3 cc nL ret) (hK : va_K D vwCl (ty4 cI cJ cD cS) s) (d : decode cc pc = .ok (.putfield 67, 3)) (hn : pc + 3 = n) (k : XW p l e R s m args below meth c nL cells slots A D Q (wM cI a) (N, uZ Z 0 1 v, E, G, T) n lv st) : XW p l e R s m args below meth c nL cells slots A D Q (wM cI a) (N, Z, E, G, T) pc lv (.int v :: .ref (a 0) :: st) := hd_put (ty := .int) n C hK d hn (0) rfl rfl inX3 tyX3_ok nmX3 0 (by decide) kf_X3_67 rfl rfl (by decide +kernel) rfl rfl (Nat.le_of_ble_eq_true rfl) rfl k
theorem gm_rooms (n : Nat) (C : xC p s m args meth c RX3 cc nL ret) (hK : va_K D vwCl (ty4 cI cJ cD cS) s) (d : decode cc pc = .ok (.getfield 74, 3)) (hn : pc + 3 = n) (v : Int32) (hv : nI (N 0 0) = v) (k : XW p l e R s m args below meth c nL cells slots A D Q (wM cI a) (N, Z, E, G, T) n lv (.int v :: st)) : XW p l e R s m args below meth c nL cells slots A D Q (wM cI a) (N, Z, E, G, T) pc lv (.ref (a 0) :: st) := by
  subst hv
  exact hd_get n C hK d hn (0) rfl rfl inX3 1 (by decide) kf_X3_74 rfl rfl k
theorem pm_rooms {v : Nat} (n : Nat) (C : xC p s m args meth c RX3 cc nL ret) (hK : va_K D vwCl (ty4 cI cJ cD cS) s) (d : decode cc pc = .ok (.putfield 74, 3)) (hn : pc + 3 = n) (k : XW p l e R s m args below meth c nL cells slots A D Q (wM cI a) (uN N 0 0 v, Z, E, G, T) n lv st) : XW p l e R s m args below meth c nL cells slots A D Q (wM cI a) (N, Z, E, G, T) pc lv (.int (nI v) :: .ref (a 0) :: st) := hd_put (ty := .int) n C hK d hn (0) rfl rfl inX3 tyX3_ok nmX3 1 (by decide) kf_X3_74 rfl rfl (by decide +kernel) rfl rfl (Nat.le_of_ble_eq_true rfl) rfl k
theorem gm_doors (n : Nat) (C : xC p s m args meth c RX3 cc nL ret) (hK : va_K D vwCl (ty4 cI cJ cD cS) s) (d : decode cc pc = .ok (.getfield 81, 3)) (hn : pc + 3 = n) (v : Int32) (hv : nI (N 0 1) = v) (k : XW p l e R s m args below meth c nL cells slots A D Q (wM cI a) (N, Z, E, G, T) n lv (.int v :: st)) : XW p l e R s m args below meth c nL cells slots A D Q (wM cI a) (N, Z, E, G, T) pc lv (.ref (a 0) :: st) := by
  subst hv
  exact hd_get n C hK d hn (0) rfl rfl inX3 2 (by decide) kf_X3_81 rfl rfl k
theorem pm_doors {v : Nat} (n : Nat) (C : xC p s m args meth c RX3 cc nL ret) (hK : va_K D vwCl (ty4 cI cJ cD cS) s) (d : decode cc pc = .ok (.putfield 81, 3)) (hn : pc + 3 = n) (k : XW p l e R s m args below meth c nL cells slots A D Q (wM cI a) (uN N 0 1 v, Z, E, G, T) n lv st) : XW p l e R s m args below meth c nL cells slots A D Q (wM cI a) (N, Z, E, G, T) pc lv (.int (nI v) :: .ref (a 0) :: st) := hd_put (ty := .int) n C hK d hn (0) rfl rfl inX3 tyX3_ok nmX3 2 (by decide) kf_X3_81 rfl rfl (by decide +kernel) rfl rfl (Nat.le_of_ble_eq_true rfl) rfl k
theorem gm_kindOf (n : Nat) (C : xC p s m args meth c RX3 cc nL ret) (hK : va_K D vwCl (ty4 cI cJ cD cS) s) (d : decode cc pc = .ok (.getfield 7, 3)) (hn : pc + 3 = n) (k : XW p l e R s m args below meth c nL cells slots A D Q (wM cI a) (N, Z, E, G, T) n lv (.ref (a 1) :: st)) : XW p l e R s m args below meth c nL cells slots A D Q (wM cI a) (N, Z, E, G, T) pc lv (.ref (a 0) :: st) := hd_get n C hK d hn (0) rfl rfl inX3 3 (by decide) kf_X3_7 rfl rfl k
theorem gm_roomOf (n : Nat) (C : xC p s m args meth c RX3 cc nL ret) (hK : va_K D vwCl (ty4 cI cJ cD cS) s) (d : decode cc pc = .ok (.getfield 13, 3)) (hn : pc + 3 = n) (k : XW p l e R s m args below meth c nL cells slots A D Q (wM cI a) (N, Z, E, G, T) n lv (.ref (a 2) :: st)) : XW p l e R s m args below meth c nL cells slots A D Q (wM cI a) (N, Z, E, G, T) pc lv (.ref (a 0) :: st) := hd_get n C hK d hn (0) rfl rfl inX3 4 (by decide) kf_X3_13 rfl rfl k
theorem gm_toOf (n : Nat) (C : xC p s m args meth c RX3 cc nL ret) (hK : va_K D vwCl (ty4 cI cJ cD cS) s) (d : decode cc pc = .ok (.getfield 16, 3)) (hn : pc + 3 = n) (k : XW p l e R s m args below meth c nL cells slots A D Q (wM cI a) (N, Z, E, G, T) n lv (.ref (a 3) :: st)) : XW p l e R s m args below meth c nL cells slots A D Q (wM cI a) (N, Z, E, G, T) pc lv (.ref (a 0) :: st) := hd_get n C hK d hn (0) rfl rfl inX3 5 (by decide) kf_X3_16 rfl rfl k
theorem gm_stepOf (n : Nat) (C : xC p s m args meth c RX3 cc nL ret) (hK : va_K D vwCl (ty4 cI cJ cD cS) s) (d : decode cc pc = .ok (.getfield 19, 3)) (hn : pc + 3 = n) (k : XW p l e R s m args below meth c nL cells slots A D Q (wM cI a) (N, Z, E, G, T) n lv (.ref (a 4) :: st)) : XW p l e R s m args below meth c nL cells slots A D Q (wM cI a) (N, Z, E, G, T) pc lv (.ref (a 0) :: st) := hd_get n C hK d hn (0) rfl rfl inX3 6 (by decide) kf_X3_19 rfl rfl k
theorem gm_gone (n : Nat) (C : xC p s m args meth c RX3 cc nL ret) (hK : va_K D vwCl (ty4 cI cJ cD cS) s) (d : decode cc pc = .ok (.getfield 22, 3)) (hn : pc + 3 = n) (v : Int32) (hv : Z 0 2 = v) (k : XW p l e R s m args below meth c nL cells slots A D Q (wM cI a) (N, Z, E, G, T) n lv (.int v :: st)) : XW p l e R s m args below meth c nL cells slots A D Q (wM cI a) (N, Z, E, G, T) pc lv (.ref (a 0) :: st) := by
  subst hv
  exact hd_get n C hK d hn (0) rfl rfl inX3 7 (by decide) kf_X3_22 rfl rfl k
theorem pm_gone {v : Int32} (n : Nat) (C : xC p s m args meth c RX3 cc nL ret) (hK : va_K D vwCl (ty4 cI cJ cD cS) s) (d : decode cc pc = .ok (.putfield 22, 3)) (hn : pc + 3 = n) (k : XW p l e R s m args below meth c nL cells slots A D Q (wM cI a) (N, uZ Z 0 2 v, E, G, T) n lv st) : XW p l e R s m args below meth c nL cells slots A D Q (wM cI a) (N, Z, E, G, T) pc lv (.int v :: .ref (a 0) :: st) := hd_put (ty := .int) n C hK d hn (0) rfl rfl inX3 tyX3_ok nmX3 7 (by decide) kf_X3_22 rfl rfl (by decide +kernel) rfl rfl (Nat.le_of_ble_eq_true rfl) rfl k
theorem gm_readAt (n : Nat) (C : xC p s m args meth c RX3 cc nL ret) (hK : va_K D vwCl (ty4 cI cJ cD cS) s) (d : decode cc pc = .ok (.getfield 86, 3)) (hn : pc + 3 = n) (v : Int32) (hv : Z 0 3 = v) (k : XW p l e R s m args below meth c nL cells slots A D Q (wM cI a) (N, Z, E, G, T) n lv (.int v :: st)) : XW p l e R s m args below meth c nL cells slots A D Q (wM cI a) (N, Z, E, G, T) pc lv (.ref (a 0) :: st) := by
  subst hv
  exact hd_get n C hK d hn (0) rfl rfl inX3 8 (by decide) kf_X3_86 rfl rfl k
theorem pm_readAt {v : Int32} (n : Nat) (C : xC p s m args meth c RX3 cc nL ret) (hK : va_K D vwCl (ty4 cI cJ cD cS) s) (d : decode cc pc = .ok (.putfield 86, 3)) (hn : pc + 3 = n) (k : XW p l e R s m args below meth c nL cells slots A D Q (wM cI a) (N, uZ Z 0 3 v, E, G, T) n lv st) : XW p l e R s m args below meth c nL cells slots A D Q (wM cI a) (N, Z, E, G, T) pc lv (.int v :: .ref (a 0) :: st) := hd_put (ty := .int) n C hK d hn (0) rfl rfl inX3 tyX3_ok nmX3 8 (by decide) kf_X3_86 rfl rfl (by decide +kernel) rfl rfl (Nat.le_of_ble_eq_true rfl) rfl k
theorem gm_readRooms (n : Nat) (C : xC p s m args meth c RX3 cc nL ret) (hK : va_K D vwCl (ty4 cI cJ cD cS) s) (d : decode cc pc = .ok (.getfield 96, 3)) (hn : pc + 3 = n) (v : Int32) (hv : Z 0 4 = v) (k : XW p l e R s m args below meth c nL cells slots A D Q (wM cI a) (N, Z, E, G, T) n lv (.int v :: st)) : XW p l e R s m args below meth c nL cells slots A D Q (wM cI a) (N, Z, E, G, T) pc lv (.ref (a 0) :: st) := by
  subst hv
  exact hd_get n C hK d hn (0) rfl rfl inX3 9 (by decide) kf_X3_96 rfl rfl k
theorem pm_readRooms {v : Int32} (n : Nat) (C : xC p s m args meth c RX3 cc nL ret) (hK : va_K D vwCl (ty4 cI cJ cD cS) s) (d : decode cc pc = .ok (.putfield 96, 3)) (hn : pc + 3 = n) (k : XW p l e R s m args below meth c nL cells slots A D Q (wM cI a) (N, uZ Z 0 4 v, E, G, T) n lv st) : XW p l e R s m args below meth c nL cells slots A D Q (wM cI a) (N, Z, E, G, T) pc lv (.int v :: .ref (a 0) :: st) := hd_put (ty := .int) n C hK d hn (0) rfl rfl inX3 tyX3_ok nmX3 9 (by decide) kf_X3_96 rfl rfl (by decide +kernel) rfl rfl (Nat.le_of_ble_eq_true rfl) rfl k
theorem gm_readDoors (n : Nat) (C : xC p s m args meth c RX3 cc nL ret) (hK : va_K D vwCl (ty4 cI cJ cD cS) s) (d : decode cc pc = .ok (.getfield 93, 3)) (hn : pc + 3 = n) (v : Int32) (hv : Z 0 5 = v) (k : XW p l e R s m args below meth c nL cells slots A D Q (wM cI a) (N, Z, E, G, T) n lv (.int v :: st)) : XW p l e R s m args below meth c nL cells slots A D Q (wM cI a) (N, Z, E, G, T) pc lv (.ref (a 0) :: st) := by
  subst hv
  exact hd_get n C hK d hn (0) rfl rfl inX3 10 (by decide) kf_X3_93 rfl rfl k
theorem pm_readDoors {v : Int32} (n : Nat) (C : xC p s m args meth c RX3 cc nL ret) (hK : va_K D vwCl (ty4 cI cJ cD cS) s) (d : decode cc pc = .ok (.putfield 93, 3)) (hn : pc + 3 = n) (k : XW p l e R s m args below meth c nL cells slots A D Q (wM cI a) (N, uZ Z 0 5 v, E, G, T) n lv st) : XW p l e R s m args below meth c nL cells slots A D Q (wM cI a) (N, Z, E, G, T) pc lv (.int v :: .ref (a 0) :: st) := hd_put (ty := .int) n C hK d hn (0) rfl rfl inX3 tyX3_ok nmX3 10 (by decide) kf_X3_93 rfl rfl (by decide +kernel) rfl rfl (Nat.le_of_ble_eq_true rfl) rfl k
theorem gm_readKind (n : Nat) (C : xC p s m args meth c RX3 cc nL ret) (hK : va_K D vwCl (ty4 cI cJ cD cS) s) (d : decode cc pc = .ok (.getfield 26, 3)) (hn : pc + 3 = n) (k : XW p l e R s m args below meth c nL cells slots A D Q (wM cI a) (N, Z, E, G, T) n lv (.ref (a 5) :: st)) : XW p l e R s m args below meth c nL cells slots A D Q (wM cI a) (N, Z, E, G, T) pc lv (.ref (a 0) :: st) := hd_get n C hK d hn (0) rfl rfl inX3 11 (by decide) kf_X3_26 rfl rfl k
theorem gm_readRoom (n : Nat) (C : xC p s m args meth c RX3 cc nL ret) (hK : va_K D vwCl (ty4 cI cJ cD cS) s) (d : decode cc pc = .ok (.getfield 29, 3)) (hn : pc + 3 = n) (k : XW p l e R s m args below meth c nL cells slots A D Q (wM cI a) (N, Z, E, G, T) n lv (.ref (a 6) :: st)) : XW p l e R s m args below meth c nL cells slots A D Q (wM cI a) (N, Z, E, G, T) pc lv (.ref (a 0) :: st) := hd_get n C hK d hn (0) rfl rfl inX3 12 (by decide) kf_X3_29 rfl rfl k
theorem gm_readTo (n : Nat) (C : xC p s m args meth c RX3 cc nL ret) (hK : va_K D vwCl (ty4 cI cJ cD cS) s) (d : decode cc pc = .ok (.getfield 32, 3)) (hn : pc + 3 = n) (k : XW p l e R s m args below meth c nL cells slots A D Q (wM cI a) (N, Z, E, G, T) n lv (.ref (a 7) :: st)) : XW p l e R s m args below meth c nL cells slots A D Q (wM cI a) (N, Z, E, G, T) pc lv (.ref (a 0) :: st) := hd_get n C hK d hn (0) rfl rfl inX3 13 (by decide) kf_X3_32 rfl rfl k
theorem gm_readStep (n : Nat) (C : xC p s m args meth c RX3 cc nL ret) (hK : va_K D vwCl (ty4 cI cJ cD cS) s) (d : decode cc pc = .ok (.getfield 35, 3)) (hn : pc + 3 = n) (k : XW p l e R s m args below meth c nL cells slots A D Q (wM cI a) (N, Z, E, G, T) n lv (.ref (a 8) :: st)) : XW p l e R s m args below meth c nL cells slots A D Q (wM cI a) (N, Z, E, G, T) pc lv (.ref (a 0) :: st) := hd_get n C hK d hn (0) rfl rfl inX3 14 (by decide) kf_X3_35 rfl rfl k
theorem gm_firstWrong (n : Nat) (C : xC p s m args meth c RX3 cc nL ret) (hK : va_K D vwCl (ty4 cI cJ cD cS) s) (d : decode cc pc = .ok (.getfield 148, 3)) (hn : pc + 3 = n) (v : Int32) (hv : Z 0 6 = v) (k : XW p l e R s m args below meth c nL cells slots A D Q (wM cI a) (N, Z, E, G, T) n lv (.int v :: st)) : XW p l e R s m args below meth c nL cells slots A D Q (wM cI a) (N, Z, E, G, T) pc lv (.ref (a 0) :: st) := by
  subst hv
  exact hd_get n C hK d hn (0) rfl rfl inX3 15 (by decide) kf_X3_148 rfl rfl k
theorem pm_firstWrong {v : Int32} (n : Nat) (C : xC p s m args meth c RX3 cc nL ret) (hK : va_K D vwCl (ty4 cI cJ cD cS) s) (d : decode cc pc = .ok (.putfield 148, 3)) (hn : pc + 3 = n) (k : XW p l e R s m args below meth c nL cells slots A D Q (wM cI a) (N, uZ Z 0 6 v, E, G, T) n lv st) : XW p l e R s m args below meth c nL cells slots A D Q (wM cI a) (N, Z, E, G, T) pc lv (.int v :: .ref (a 0) :: st) := hd_put (ty := .int) n C hK d hn (0) rfl rfl inX3 tyX3_ok nmX3 15 (by decide) kf_X3_148 rfl rfl (by decide +kernel) rfl rfl (Nat.le_of_ble_eq_true rfl) rfl k
theorem gm_endsAt (n : Nat) (C : xC p s m args meth c RX3 cc nL ret) (hK : va_K D vwCl (ty4 cI cJ cD cS) s) (d : decode cc pc = .ok (.getfield 151, 3)) (hn : pc + 3 = n) (v : Int32) (hv : Z 0 7 = v) (k : XW p l e R s m args below meth c nL cells slots A D Q (wM cI a) (N, Z, E, G, T) n lv (.int v :: st)) : XW p l e R s m args below meth c nL cells slots A D Q (wM cI a) (N, Z, E, G, T) pc lv (.ref (a 0) :: st) := by
  subst hv
  exact hd_get n C hK d hn (0) rfl rfl inX3 16 (by decide) kf_X3_151 rfl rfl k
theorem pm_endsAt {v : Int32} (n : Nat) (C : xC p s m args meth c RX3 cc nL ret) (hK : va_K D vwCl (ty4 cI cJ cD cS) s) (d : decode cc pc = .ok (.putfield 151, 3)) (hn : pc + 3 = n) (k : XW p l e R s m args below meth c nL cells slots A D Q (wM cI a) (N, uZ Z 0 7 v, E, G, T) n lv st) : XW p l e R s m args below meth c nL cells slots A D Q (wM cI a) (N, Z, E, G, T) pc lv (.int v :: .ref (a 0) :: st) := hd_put (ty := .int) n C hK d hn (0) rfl rfl inX3 tyX3_ok nmX3 16 (by decide) kf_X3_151 rfl rfl (by decide +kernel) rfl rfl (Nat.le_of_ble_eq_true rfl) rfl k
theorem gm_seen (n : Nat) (C : xC p s m args meth c RX3 cc nL ret) (hK : va_K D vwCl (ty4 cI cJ cD cS) s) (d : decode cc pc = .ok (.getfield 154, 3)) (hn : pc + 3 = n) (v : Int32) (hv : Z 0 8 = v) (k : XW p l e R s m args below meth c nL cells slots A D Q (wM cI a) (N, Z, E, G, T) n lv (.int v :: st)) : XW p l e R s m args below meth c nL cells slots A D Q (wM cI a) (N, Z, E, G, T) pc lv (.ref (a 0) :: st) := by
  subst hv
  exact hd_get n C hK d hn (0) rfl rfl inX3 17 (by decide) kf_X3_154 rfl rfl k
theorem pm_seen {v : Int32} (n : Nat) (C : xC p s m args meth c RX3 cc nL ret) (hK : va_K D vwCl (ty4 cI cJ cD cS) s) (d : decode cc pc = .ok (.putfield 154, 3)) (hn : pc + 3 = n) (k : XW p l e R s m args below meth c nL cells slots A D Q (wM cI a) (N, uZ Z 0 8 v, E, G, T) n lv st) : XW p l e R s m args below meth c nL cells slots A D Q (wM cI a) (N, Z, E, G, T) pc lv (.int v :: .ref (a 0) :: st) := hd_put (ty := .int) n C hK d hn (0) rfl rfl inX3 tyX3_ok nmX3 17 (by decide) kf_X3_154 rfl rfl (by decide +kernel) rfl rfl (Nat.le_of_ble_eq_true rfl) rfl k
theorem gm_goings (n : Nat) (C : xC p s m args meth c RX3 cc nL ret) (hK : va_K D vwCl (ty4 cI cJ cD cS) s) (d : decode cc pc = .ok (.getfield 157, 3)) (hn : pc + 3 = n) (v : Int32) (hv : Z 0 9 = v) (k : XW p l e R s m args below meth c nL cells slots A D Q (wM cI a) (N, Z, E, G, T) n lv (.int v :: st)) : XW p l e R s m args below meth c nL cells slots A D Q (wM cI a) (N, Z, E, G, T) pc lv (.ref (a 0) :: st) := by
  subst hv
  exact hd_get n C hK d hn (0) rfl rfl inX3 18 (by decide) kf_X3_157 rfl rfl k
theorem pm_goings {v : Int32} (n : Nat) (C : xC p s m args meth c RX3 cc nL ret) (hK : va_K D vwCl (ty4 cI cJ cD cS) s) (d : decode cc pc = .ok (.putfield 157, 3)) (hn : pc + 3 = n) (k : XW p l e R s m args below meth c nL cells slots A D Q (wM cI a) (N, uZ Z 0 9 v, E, G, T) n lv st) : XW p l e R s m args below meth c nL cells slots A D Q (wM cI a) (N, Z, E, G, T) pc lv (.int v :: .ref (a 0) :: st) := hd_put (ty := .int) n C hK d hn (0) rfl rfl inX3 tyX3_ok nmX3 18 (by decide) kf_X3_157 rfl rfl (by decide +kernel) rfl rfl (Nat.le_of_ble_eq_true rfl) rfl k
theorem gm_beenIn (n : Nat) (C : xC p s m args meth c RX3 cc nL ret) (hK : va_K D vwCl (ty4 cI cJ cD cS) s) (d : decode cc pc = .ok (.getfield 38, 3)) (hn : pc + 3 = n) (k : XW p l e R s m args below meth c nL cells slots A D Q (wM cI a) (N, Z, E, G, T) n lv (.ref (a 9) :: st)) : XW p l e R s m args below meth c nL cells slots A D Q (wM cI a) (N, Z, E, G, T) pc lv (.ref (a 0) :: st) := hd_get n C hK d hn (0) rfl rfl inX3 19 (by decide) kf_X3_38 rfl rfl k
theorem gm_thenIn (n : Nat) (C : xC p s m args meth c RX3 cc nL ret) (hK : va_K D vwCl (ty4 cI cJ cD cS) s) (d : decode cc pc = .ok (.getfield 41, 3)) (hn : pc + 3 = n) (k : XW p l e R s m args below meth c nL cells slots A D Q (wM cI a) (N, Z, E, G, T) n lv (.ref (a 10) :: st)) : XW p l e R s m args below meth c nL cells slots A D Q (wM cI a) (N, Z, E, G, T) pc lv (.ref (a 0) :: st) := hd_get n C hK d hn (0) rfl rfl inX3 20 (by decide) kf_X3_41 rfl rfl k
theorem gm_readings (n : Nat) (C : xC p s m args meth c RX3 cc nL ret) (hK : va_K D vwCl (ty4 cI cJ cD cS) s) (d : decode cc pc = .ok (.getfield 131, 3)) (hn : pc + 3 = n) (v : Int32) (hv : nI (N 0 2) = v) (k : XW p l e R s m args below meth c nL cells slots A D Q (wM cI a) (N, Z, E, G, T) n lv (.int v :: st)) : XW p l e R s m args below meth c nL cells slots A D Q (wM cI a) (N, Z, E, G, T) pc lv (.ref (a 0) :: st) := by
  subst hv
  exact hd_get n C hK d hn (0) rfl rfl inX3 21 (by decide) kf_X3_131 rfl rfl k
theorem pm_readings {v : Nat} (n : Nat) (C : xC p s m args meth c RX3 cc nL ret) (hK : va_K D vwCl (ty4 cI cJ cD cS) s) (d : decode cc pc = .ok (.putfield 131, 3)) (hn : pc + 3 = n) (k : XW p l e R s m args below meth c nL cells slots A D Q (wM cI a) (uN N 0 2 v, Z, E, G, T) n lv st) : XW p l e R s m args below meth c nL cells slots A D Q (wM cI a) (N, Z, E, G, T) pc lv (.int (nI v) :: .ref (a 0) :: st) := hd_put (ty := .int) n C hK d hn (0) rfl rfl inX3 tyX3_ok nmX3 21 (by decide) kf_X3_131 rfl rfl (by decide +kernel) rfl rfl (Nat.le_of_ble_eq_true rfl) rfl k
theorem gm_readingOf (n : Nat) (C : xC p s m args meth c RX3 cc nL ret) (hK : va_K D vwCl (ty4 cI cJ cD cS) s) (d : decode cc pc = .ok (.getfield 44, 3)) (hn : pc + 3 = n) (k : XW p l e R s m args below meth c nL cells slots A D Q (wM cI a) (N, Z, E, G, T) n lv (.ref (a 11) :: st)) : XW p l e R s m args below meth c nL cells slots A D Q (wM cI a) (N, Z, E, G, T) pc lv (.ref (a 0) :: st) := hd_get n C hK d hn (0) rfl rfl inX3 22 (by decide) kf_X3_44 rfl rfl k
theorem gm_readingBy (n : Nat) (C : xC p s m args meth c RX3 cc nL ret) (hK : va_K D vwCl (ty4 cI cJ cD cS) s) (d : decode cc pc = .ok (.getfield 47, 3)) (hn : pc + 3 = n) (k : XW p l e R s m args below meth c nL cells slots A D Q (wM cI a) (N, Z, E, G, T) n lv (.ref (a 12) :: st)) : XW p l e R s m args below meth c nL cells slots A D Q (wM cI a) (N, Z, E, G, T) pc lv (.ref (a 0) :: st) := hd_get n C hK d hn (0) rfl rfl inX3 23 (by decide) kf_X3_47 rfl rfl k
theorem gm_readingAt (n : Nat) (C : xC p s m args meth c RX3 cc nL ret) (hK : va_K D vwCl (ty4 cI cJ cD cS) s) (d : decode cc pc = .ok (.getfield 50, 3)) (hn : pc + 3 = n) (k : XW p l e R s m args below meth c nL cells slots A D Q (wM cI a) (N, Z, E, G, T) n lv (.ref (a 13) :: st)) : XW p l e R s m args below meth c nL cells slots A D Q (wM cI a) (N, Z, E, G, T) pc lv (.ref (a 0) :: st) := hd_get n C hK d hn (0) rfl rfl inX3 24 (by decide) kf_X3_50 rfl rfl k
theorem gm_sheetSize (n : Nat) (C : xC p s m args meth c RX3 cc nL ret) (hK : va_K D vwCl (ty4 cI cJ cD cS) s) (d : decode cc pc = .ok (.getfield 53, 3)) (hn : pc + 3 = n) (k : XW p l e R s m args below meth c nL cells slots A D Q (wM cI a) (N, Z, E, G, T) n lv (.ref (a 14) :: st)) : XW p l e R s m args below meth c nL cells slots A D Q (wM cI a) (N, Z, E, G, T) pc lv (.ref (a 0) :: st) := hd_get n C hK d hn (0) rfl rfl inX3 25 (by decide) kf_X3_53 rfl rfl k
theorem gm_sheetLane (n : Nat) (C : xC p s m args meth c RX3 cc nL ret) (hK : va_K D vwCl (ty4 cI cJ cD cS) s) (d : decode cc pc = .ok (.getfield 56, 3)) (hn : pc + 3 = n) (k : XW p l e R s m args below meth c nL cells slots A D Q (wM cI a) (N, Z, E, G, T) n lv (.ref (a 15) :: st)) : XW p l e R s m args below meth c nL cells slots A D Q (wM cI a) (N, Z, E, G, T) pc lv (.ref (a 0) :: st) := hd_get n C hK d hn (0) rfl rfl inX3 26 (by decide) kf_X3_56 rfl rfl k
theorem gm_sheet (n : Nat) (C : xC p s m args meth c RX3 cc nL ret) (hK : va_K D vwCl (ty4 cI cJ cD cS) s) (d : decode cc pc = .ok (.getfield 59, 3)) (hn : pc + 3 = n) (k : XW p l e R s m args below meth c nL cells slots A D Q (wM cI a) (N, Z, E, G, T) n lv (.ref (a 16) :: st)) : XW p l e R s m args below meth c nL cells slots A D Q (wM cI a) (N, Z, E, G, T) pc lv (.ref (a 0) :: st) := hd_get n C hK d hn (0) rfl rfl inX3 27 (by decide) kf_X3_59 rfl rfl k
theorem gm_hands (n : Nat) (C : xC p s m args meth c RX3 cc nL ret) (hK : va_K D vwCl (ty4 cI cJ cD cS) s) (d : decode cc pc = .ok (.getfield 62, 3)) (hn : pc + 3 = n) (k : XW p l e R s m args below meth c nL cells slots A D Q (wM cI a) (N, Z, E, G, T) n lv (.ref (a 17) :: st)) : XW p l e R s m args below meth c nL cells slots A D Q (wM cI a) (N, Z, E, G, T) pc lv (.ref (a 0) :: st) := hd_get n C hK d hn (0) rfl rfl inX3 28 (by decide) kf_X3_62 rfl rfl k
theorem gm_traceNow (n : Nat) (C : xC p s m args meth c RX3 cc nL ret) (hK : va_K D vwCl (ty4 cI cJ cD cS) s) (d : decode cc pc = .ok (.getfield 217, 3)) (hn : pc + 3 = n) (v : Int32) (hv : Z 0 0 = v) (k : XW p l e R s m args below meth c nL cells slots A D Q (wM cI a) (N, Z, E, G, T) n lv (.int v :: st)) : XW p l e R s m args below meth c nL cells slots A D Q (wM cI a) (N, Z, E, G, T) pc lv (.ref (a 0) :: st) := by
  subst hv
  exact hd_get n C hK d hn (0) rfl rfl inX3 29 (by decide) kf_X3_217 rfl rfl k
theorem pm_traceNow {v : Int32} (n : Nat) (C : xC p s m args meth c RX3 cc nL ret) (hK : va_K D vwCl (ty4 cI cJ cD cS) s) (d : decode cc pc = .ok (.putfield 217, 3)) (hn : pc + 3 = n) (k : XW p l e R s m args below meth c nL cells slots A D Q (wM cI a) (N, uZ Z 0 0 v, E, G, T) n lv st) : XW p l e R s m args below meth c nL cells slots A D Q (wM cI a) (N, Z, E, G, T) pc lv (.int v :: .ref (a 0) :: st) := hd_put (ty := .int) n C hK d hn (0) rfl rfl inX3 tyX3_ok nmX3 29 (by decide) kf_X3_217 rfl rfl (by decide +kernel) rfl rfl (Nat.le_of_ble_eq_true rfl) rfl k
theorem gx_rooms (n : Nat) (C : xC p s m args meth c RX2 cc nL ret) (hK : va_K D vwCl (ty4 cI cJ cD cS) s) (d : decode cc pc = .ok (.getfield 97, 3)) (hn : pc + 3 = n) (v : Int32) (hv : nI (N 0 0) = v) (k : XW p l e R s m args below meth c nL cells slots A D Q (wX cI cJ cD cS a) (N, Z, E, G, T) n lv (.int v :: st)) : XW p l e R s m args below meth c nL cells slots A D Q (wX cI cJ cD cS a) (N, Z, E, G, T) pc lv (.ref (a 0) :: st) := by
  subst hv
  exact hd_get n C hK d hn (0) rfl rfl inX2 0 (by decide) kf_X2_97 rfl rfl k
theorem px_rooms {v : Nat} (n : Nat) (C : xC p s m args meth c RX2 cc nL ret) (hK : va_K D vwCl (ty4 cI cJ cD cS) s) (d : decode cc pc = .ok (.putfield 97, 3)) (hn : pc + 3 = n) (k : XW p l e R s m args below meth c nL cells slots A D Q (wX cI cJ cD cS a) (uN N 0 0 v, Z, E, G, T) n lv st) : XW p l e R s m args below meth c nL cells slots A D Q (wX cI cJ cD cS a) (N, Z, E, G, T) pc lv (.int (nI v) :: .ref (a 0) :: st) := hd_put (ty := .int) n C hK d hn (0) rfl rfl inX2 tyX2_ok nmX2 0 (by decide) kf_X2_97 rfl rfl (by decide +kernel) rfl rfl (Nat.le_of_ble_eq_true rfl) rfl k
theorem gx_doorCount (n : Nat) (C : xC p s m args meth c RX2 cc nL ret) (hK : va_K D vwCl (ty4 cI cJ cD cS) s) (d : decode cc pc = .ok (.getfield 76, 3)) (hn : pc + 3 = n) (v : Int32) (hv : nI (N 0 1) = v) (k : XW p l e R s m args below meth c nL cells slots A D Q (wX cI cJ cD cS a) (N, Z, E, G, T) n lv (.int v :: st)) : XW p l e R s m args below meth c nL cells slots A D Q (wX cI cJ cD cS a) (N, Z, E, G, T) pc lv (.ref (a 0) :: st) := by
  subst hv
  exact hd_get n C hK d hn (0) rfl rfl inX2 1 (by decide) kf_X2_76 rfl rfl k
theorem px_doorCount {v : Nat} (n : Nat) (C : xC p s m args meth c RX2 cc nL ret) (hK : va_K D vwCl (ty4 cI cJ cD cS) s) (d : decode cc pc = .ok (.putfield 76, 3)) (hn : pc + 3 = n) (k : XW p l e R s m args below meth c nL cells slots A D Q (wX cI cJ cD cS a) (uN N 0 1 v, Z, E, G, T) n lv st) : XW p l e R s m args below meth c nL cells slots A D Q (wX cI cJ cD cS a) (N, Z, E, G, T) pc lv (.int (nI v) :: .ref (a 0) :: st) := hd_put (ty := .int) n C hK d hn (0) rfl rfl inX2 tyX2_ok nmX2 1 (by decide) kf_X2_76 rfl rfl (by decide +kernel) rfl rfl (Nat.le_of_ble_eq_true rfl) rfl k
theorem gx_doors (n : Nat) (C : xC p s m args meth c RX2 cc nL ret) (hK : va_K D vwCl (ty4 cI cJ cD cS) s) (d : decode cc pc = .ok (.getfield 13, 3)) (hn : pc + 3 = n) (k : XW p l e R s m args below meth c nL cells slots A D Q (wX cI cJ cD cS a) (N, Z, E, G, T) n lv (.ref (a 1) :: st)) : XW p l e R s m args below meth c nL cells slots A D Q (wX cI cJ cD cS a) (N, Z, E, G, T) pc lv (.ref (a 0) :: st) := hd_get n C hK d hn (0) rfl rfl inX2 2 (by decide) kf_X2_13 rfl rfl k
theorem gx_trial (n : Nat) (C : xC p s m args meth c RX2 cc nL ret) (hK : va_K D vwCl (ty4 cI cJ cD cS) s) (d : decode cc pc = .ok (.getfield 18, 3)) (hn : pc + 3 = n) (k : XW p l e R s m args below meth c nL cells slots A D Q (wX cI cJ cD cS a) (N, Z, E, G, T) n lv (.ref (a 2) :: st)) : XW p l e R s m args below meth c nL cells slots A D Q (wX cI cJ cD cS a) (N, Z, E, G, T) pc lv (.ref (a 0) :: st) := hd_get n C hK d hn (0) rfl rfl inX2 3 (by decide) kf_X2_18 rfl rfl k
theorem gx_readingCount (n : Nat) (C : xC p s m args meth c RX2 cc nL ret) (hK : va_K D vwCl (ty4 cI cJ cD cS) s) (d : decode cc pc = .ok (.getfield 136, 3)) (hn : pc + 3 = n) (v : Int32) (hv : nI (N 0 2) = v) (k : XW p l e R s m args below meth c nL cells slots A D Q (wX cI cJ cD cS a) (N, Z, E, G, T) n lv (.int v :: st)) : XW p l e R s m args below meth c nL cells slots A D Q (wX cI cJ cD cS a) (N, Z, E, G, T) pc lv (.ref (a 0) :: st) := by
  subst hv
  exact hd_get n C hK d hn (0) rfl rfl inX2 4 (by decide) kf_X2_136 rfl rfl k
theorem px_readingCount {v : Nat} (n : Nat) (C : xC p s m args meth c RX2 cc nL ret) (hK : va_K D vwCl (ty4 cI cJ cD cS) s) (d : decode cc pc = .ok (.putfield 136, 3)) (hn : pc + 3 = n) (k : XW p l e R s m args below meth c nL cells slots A D Q (wX cI cJ cD cS a) (uN N 0 2 v, Z, E, G, T) n lv st) : XW p l e R s m args below meth c nL cells slots A D Q (wX cI cJ cD cS a) (N, Z, E, G, T) pc lv (.int (nI v) :: .ref (a 0) :: st) := hd_put (ty := .int) n C hK d hn (0) rfl rfl inX2 tyX2_ok nmX2 4 (by decide) kf_X2_136 rfl rfl (by decide +kernel) rfl rfl (Nat.le_of_ble_eq_true rfl) rfl k
theorem gx_readDoor (n : Nat) (C : xC p s m args meth c RX2 cc nL ret) (hK : va_K D vwCl (ty4 cI cJ cD cS) s) (d : decode cc pc = .ok (.getfield 22, 3)) (hn : pc + 3 = n) (k : XW p l e R s m args below meth c nL cells slots A D Q (wX cI cJ cD cS a) (N, Z, E, G, T) n lv (.ref (a 3) :: st)) : XW p l e R s m args below meth c nL cells slots A D Q (wX cI cJ cD cS a) (N, Z, E, G, T) pc lv (.ref (a 0) :: st) := hd_get n C hK d hn (0) rfl rfl inX2 5 (by decide) kf_X2_22 rfl rfl k
theorem gx_readHour (n : Nat) (C : xC p s m args meth c RX2 cc nL ret) (hK : va_K D vwCl (ty4 cI cJ cD cS) s) (d : decode cc pc = .ok (.getfield 26, 3)) (hn : pc + 3 = n) (k : XW p l e R s m args below meth c nL cells slots A D Q (wX cI cJ cD cS a) (N, Z, E, G, T) n lv (.ref (a 4) :: st)) : XW p l e R s m args below meth c nL cells slots A D Q (wX cI cJ cD cS a) (N, Z, E, G, T) pc lv (.ref (a 0) :: st) := hd_get n C hK d hn (0) rfl rfl inX2 6 (by decide) kf_X2_26 rfl rfl k
theorem gx_readRoom (n : Nat) (C : xC p s m args meth c RX2 cc nL ret) (hK : va_K D vwCl (ty4 cI cJ cD cS) s) (d : decode cc pc = .ok (.getfield 29, 3)) (hn : pc + 3 = n) (k : XW p l e R s m args below meth c nL cells slots A D Q (wX cI cJ cD cS a) (N, Z, E, G, T) n lv (.ref (a 5) :: st)) : XW p l e R s m args below meth c nL cells slots A D Q (wX cI cJ cD cS a) (N, Z, E, G, T) pc lv (.ref (a 0) :: st) := hd_get n C hK d hn (0) rfl rfl inX2 7 (by decide) kf_X2_29 rfl rfl k
theorem gx_sheets (n : Nat) (C : xC p s m args meth c RX2 cc nL ret) (hK : va_K D vwCl (ty4 cI cJ cD cS) s) (d : decode cc pc = .ok (.getfield 34, 3)) (hn : pc + 3 = n) (k : XW p l e R s m args below meth c nL cells slots A D Q (wX cI cJ cD cS a) (N, Z, E, G, T) n lv (.ref (a 6) :: st)) : XW p l e R s m args below meth c nL cells slots A D Q (wX cI cJ cD cS a) (N, Z, E, G, T) pc lv (.ref (a 0) :: st) := hd_get n C hK d hn (0) rfl rfl inX2 8 (by decide) kf_X2_34 rfl rfl k
theorem gx_left (n : Nat) (C : xC p s m args meth c RX2 cc nL ret) (hK : va_K D vwCl (ty4 cI cJ cD cS) s) (d : decode cc pc = .ok (.getfield 195, 3)) (hn : pc + 3 = n) (v : Int32) (hv : Z 0 0 = v) (k : XW p l e R s m args below meth c nL cells slots A D Q (wX cI cJ cD cS a) (N, Z, E, G, T) n lv (.int v :: st)) : XW p l e R s m args below meth c nL cells slots A D Q (wX cI cJ cD cS a) (N, Z, E, G, T) pc lv (.ref (a 0) :: st) := by
  subst hv
  exact hd_get n C hK d hn (0) rfl rfl inX2 9 (by decide) kf_X2_195 rfl rfl k
theorem px_left {v : Int32} (n : Nat) (C : xC p s m args meth c RX2 cc nL ret) (hK : va_K D vwCl (ty4 cI cJ cD cS) s) (d : decode cc pc = .ok (.putfield 195, 3)) (hn : pc + 3 = n) (k : XW p l e R s m args below meth c nL cells slots A D Q (wX cI cJ cD cS a) (N, uZ Z 0 0 v, E, G, T) n lv st) : XW p l e R s m args below meth c nL cells slots A D Q (wX cI cJ cD cS a) (N, Z, E, G, T) pc lv (.int v :: .ref (a 0) :: st) := hd_put (ty := .int) n C hK d hn (0) rfl rfl inX2 tyX2_ok nmX2 9 (by decide) kf_X2_195 rfl rfl (by decide +kernel) rfl rfl (Nat.le_of_ble_eq_true rfl) rfl k
theorem gx_latestFault (n : Nat) (C : xC p s m args meth c RX2 cc nL ret) (hK : va_K D vwCl (ty4 cI cJ cD cS) s) (d : decode cc pc = .ok (.getfield 49, 3)) (hn : pc + 3 = n) (v : Int32) (hv : Z 0 1 = v) (k : XW p l e R s m args below meth c nL cells slots A D Q (wX cI cJ cD cS a) (N, Z, E, G, T) n lv (.int v :: st)) : XW p l e R s m args below meth c nL cells slots A D Q (wX cI cJ cD cS a) (N, Z, E, G, T) pc lv (.ref (a 0) :: st) := by
  subst hv
  exact hd_get n C hK d hn (0) rfl rfl inX2 10 (by decide) kf_X2_49 rfl rfl k
theorem px_latestFault {v : Int32} (n : Nat) (C : xC p s m args meth c RX2 cc nL ret) (hK : va_K D vwCl (ty4 cI cJ cD cS) s) (d : decode cc pc = .ok (.putfield 49, 3)) (hn : pc + 3 = n) (k : XW p l e R s m args below meth c nL cells slots A D Q (wX cI cJ cD cS a) (N, uZ Z 0 1 v, E, G, T) n lv st) : XW p l e R s m args below meth c nL cells slots A D Q (wX cI cJ cD cS a) (N, Z, E, G, T) pc lv (.int v :: .ref (a 0) :: st) := hd_put (ty := .int) n C hK d hn (0) rfl rfl inX2 tyX2_ok nmX2 10 (by decide) kf_X2_49 rfl rfl (by decide +kernel) rfl rfl (Nat.le_of_ble_eq_true rfl) rfl k
theorem gx_hopeful (n : Nat) (C : xC p s m args meth c RX2 cc nL ret) (hK : va_K D vwCl (ty4 cI cJ cD cS) s) (d : decode cc pc = .ok (.getfield 39, 3)) (hn : pc + 3 = n) (k : XW p l e R s m args below meth c nL cells slots A D Q (wX cI cJ cD cS a) (N, Z, E, G, T) n lv (.ref (a 7) :: st)) : XW p l e R s m args below meth c nL cells slots A D Q (wX cI cJ cD cS a) (N, Z, E, G, T) pc lv (.ref (a 0) :: st) := hd_get n C hK d hn (0) rfl rfl inX2 11 (by decide) kf_X2_39 rfl rfl k
theorem gx_seen (n : Nat) (C : xC p s m args meth c RX2 cc nL ret) (hK : va_K D vwCl (ty4 cI cJ cD cS) s) (d : decode cc pc = .ok (.getfield 42, 3)) (hn : pc + 3 = n) (k : XW p l e R s m args below meth c nL cells slots A D Q (wX cI cJ cD cS a) (N, Z, E, G, T) n lv (.ref (a 8) :: st)) : XW p l e R s m args below meth c nL cells slots A D Q (wX cI cJ cD cS a) (N, Z, E, G, T) pc lv (.ref (a 0) :: st) := hd_get n C hK d hn (0) rfl rfl inX2 12 (by decide) kf_X2_42 rfl rfl k
theorem gx_seenNext (n : Nat) (C : xC p s m args meth c RX2 cc nL ret) (hK : va_K D vwCl (ty4 cI cJ cD cS) s) (d : decode cc pc = .ok (.getfield 46, 3)) (hn : pc + 3 = n) (k : XW p l e R s m args below meth c nL cells slots A D Q (wX cI cJ cD cS a) (N, Z, E, G, T) n lv (.ref (a 9) :: st)) : XW p l e R s m args below meth c nL cells slots A D Q (wX cI cJ cD cS a) (N, Z, E, G, T) pc lv (.ref (a 0) :: st) := hd_get n C hK d hn (0) rfl rfl inX2 13 (by decide) kf_X2_46 rfl rfl k
theorem gd0_kind {i : Nat} (hi : i < 8) (n : Nat) (C : xC p s m args meth c RX0 cc nL ret) (hK : va_K D vwCl (ty4 cI cJ cD cS) s) (d : decode cc pc = .ok (.getfield 9, 3)) (hn : pc + 3 = n) (v : Int32) (hv : nI (N 1 i) = v) (k : XW p l e R s m args below meth c nL cells slots A D Q (wX cI cJ cD cS a) (N, Z, E, G, T) n lv (.int v :: st)) : XW p l e R s m args below meth c nL cells slots A D Q (wX cI cJ cD cS a) (N, Z, E, G, T) pc lv (.ref (a (20 + i)) :: st) := by
  subst hv
  exact hd_get n C hK d hn (10 + i) (wX_door i hi) rfl inX0 0 (by decide) kf_X0_9 rfl rfl k
theorem pd0_kind {v : Nat} {i : Nat} (hi : i < 8) (n : Nat) (C : xC p s m args meth c RX0 cc nL ret) (hK : va_K D vwCl (ty4 cI cJ cD cS) s) (d : decode cc pc = .ok (.putfield 9, 3)) (hn : pc + 3 = n) (k : XW p l e R s m args below meth c nL cells slots A D Q (wX cI cJ cD cS a) (uN N 1 i v, Z, E, G, T) n lv st) : XW p l e R s m args below meth c nL cells slots A D Q (wX cI cJ cD cS a) (N, Z, E, G, T) pc lv (.int (nI v) :: .ref (a (20 + i)) :: st) := hd_put (ty := .int) n C hK d hn (10 + i) (wX_door i hi) rfl inX0 tyX0_ok nmX0 0 (by decide) kf_X0_9 rfl rfl (by decide +kernel) rfl rfl (Nat.le_of_ble_eq_true rfl) (wX_pd0 i v hi) k
theorem gt0_kind (n : Nat) (C : xC p s m args meth c RX0 cc nL ret) (hK : va_K D vwCl (ty4 cI cJ cD cS) s) (d : decode cc pc = .ok (.getfield 9, 3)) (hn : pc + 3 = n) (v : Int32) (hv : nI (T 0) = v) (k : XW p l e R s m args below meth c nL cells slots A D Q (wX cI cJ cD cS a) (N, Z, E, G, T) n lv (.int v :: st)) : XW p l e R s m args below meth c nL cells slots A D Q (wX cI cJ cD cS a) (N, Z, E, G, T) pc lv (.ref (a 2) :: st) := by
  subst hv
  exact hd_get n C hK d hn (2) rfl rfl inX0 0 (by decide) kf_X0_9 rfl rfl k
theorem pt0_kind {v : Nat} (n : Nat) (C : xC p s m args meth c RX0 cc nL ret) (hK : va_K D vwCl (ty4 cI cJ cD cS) s) (d : decode cc pc = .ok (.putfield 9, 3)) (hn : pc + 3 = n) (k : XW p l e R s m args below meth c nL cells slots A D Q (wX cI cJ cD cS a) (N, Z, E, G, uT T 0 v) n lv st) : XW p l e R s m args below meth c nL cells slots A D Q (wX cI cJ cD cS a) (N, Z, E, G, T) pc lv (.int (nI v) :: .ref (a 2) :: st) := hd_put (ty := .int) n C hK d hn (2) rfl rfl inX0 tyX0_ok nmX0 0 (by decide) kf_X0_9 rfl rfl (by decide +kernel) rfl rfl (Nat.le_of_ble_eq_true rfl) rfl k
theorem gd0_room {i : Nat} (hi : i < 8) (n : Nat) (C : xC p s m args meth c RX0 cc nL ret) (hK : va_K D vwCl (ty4 cI cJ cD cS) s) (d : decode cc pc = .ok (.getfield 15, 3)) (hn : pc + 3 = n) (v : Int32) (hv : nI (N 2 i) = v) (k : XW p l e R s m args below meth c nL cells slots A D Q (wX cI cJ cD cS a) (N, Z, E, G, T) n lv (.int v :: st)) : XW p l e R s m args below meth c nL cells slots A D Q (wX cI cJ cD cS a) (N, Z, E, G, T) pc lv (.ref (a (20 + i)) :: st) := by
  subst hv
  exact hd_get n C hK d hn (10 + i) (wX_door i hi) rfl inX0 1 (by decide) kf_X0_15 rfl rfl k
theorem pd0_room {v : Nat} {i : Nat} (hi : i < 8) (n : Nat) (C : xC p s m args meth c RX0 cc nL ret) (hK : va_K D vwCl (ty4 cI cJ cD cS) s) (d : decode cc pc = .ok (.putfield 15, 3)) (hn : pc + 3 = n) (k : XW p l e R s m args below meth c nL cells slots A D Q (wX cI cJ cD cS a) (uN N 2 i v, Z, E, G, T) n lv st) : XW p l e R s m args below meth c nL cells slots A D Q (wX cI cJ cD cS a) (N, Z, E, G, T) pc lv (.int (nI v) :: .ref (a (20 + i)) :: st) := hd_put (ty := .int) n C hK d hn (10 + i) (wX_door i hi) rfl inX0 tyX0_ok nmX0 1 (by decide) kf_X0_15 rfl rfl (by decide +kernel) rfl rfl (Nat.le_of_ble_eq_true rfl) (wX_pd1 i v hi) k
theorem gt0_room (n : Nat) (C : xC p s m args meth c RX0 cc nL ret) (hK : va_K D vwCl (ty4 cI cJ cD cS) s) (d : decode cc pc = .ok (.getfield 15, 3)) (hn : pc + 3 = n) (v : Int32) (hv : nI (T 1) = v) (k : XW p l e R s m args below meth c nL cells slots A D Q (wX cI cJ cD cS a) (N, Z, E, G, T) n lv (.int v :: st)) : XW p l e R s m args below meth c nL cells slots A D Q (wX cI cJ cD cS a) (N, Z, E, G, T) pc lv (.ref (a 2) :: st) := by
  subst hv
  exact hd_get n C hK d hn (2) rfl rfl inX0 1 (by decide) kf_X0_15 rfl rfl k
theorem pt0_room {v : Nat} (n : Nat) (C : xC p s m args meth c RX0 cc nL ret) (hK : va_K D vwCl (ty4 cI cJ cD cS) s) (d : decode cc pc = .ok (.putfield 15, 3)) (hn : pc + 3 = n) (k : XW p l e R s m args below meth c nL cells slots A D Q (wX cI cJ cD cS a) (N, Z, E, G, uT T 1 v) n lv st) : XW p l e R s m args below meth c nL cells slots A D Q (wX cI cJ cD cS a) (N, Z, E, G, T) pc lv (.int (nI v) :: .ref (a 2) :: st) := hd_put (ty := .int) n C hK d hn (2) rfl rfl inX0 tyX0_ok nmX0 1 (by decide) kf_X0_15 rfl rfl (by decide +kernel) rfl rfl (Nat.le_of_ble_eq_true rfl) rfl k
theorem gd0_to {i : Nat} (hi : i < 8) (n : Nat) (C : xC p s m args meth c RX0 cc nL ret) (hK : va_K D vwCl (ty4 cI cJ cD cS) s) (d : decode cc pc = .ok (.getfield 18, 3)) (hn : pc + 3 = n) (v : Int32) (hv : nI (N 3 i) = v) (k : XW p l e R s m args below meth c nL cells slots A D Q (wX cI cJ cD cS a) (N, Z, E, G, T) n lv (.int v :: st)) : XW p l e R s m args below meth c nL cells slots A D Q (wX cI cJ cD cS a) (N, Z, E, G, T) pc lv (.ref (a (20 + i)) :: st) := by
  subst hv
  exact hd_get n C hK d hn (10 + i) (wX_door i hi) rfl inX0 2 (by decide) kf_X0_18 rfl rfl k
theorem pd0_to {v : Nat} {i : Nat} (hi : i < 8) (n : Nat) (C : xC p s m args meth c RX0 cc nL ret) (hK : va_K D vwCl (ty4 cI cJ cD cS) s) (d : decode cc pc = .ok (.putfield 18, 3)) (hn : pc + 3 = n) (k : XW p l e R s m args below meth c nL cells slots A D Q (wX cI cJ cD cS a) (uN N 3 i v, Z, E, G, T) n lv st) : XW p l e R s m args below meth c nL cells slots A D Q (wX cI cJ cD cS a) (N, Z, E, G, T) pc lv (.int (nI v) :: .ref (a (20 + i)) :: st) := hd_put (ty := .int) n C hK d hn (10 + i) (wX_door i hi) rfl inX0 tyX0_ok nmX0 2 (by decide) kf_X0_18 rfl rfl (by decide +kernel) rfl rfl (Nat.le_of_ble_eq_true rfl) (wX_pd2 i v hi) k
theorem gt0_to (n : Nat) (C : xC p s m args meth c RX0 cc nL ret) (hK : va_K D vwCl (ty4 cI cJ cD cS) s) (d : decode cc pc = .ok (.getfield 18, 3)) (hn : pc + 3 = n) (v : Int32) (hv : nI (T 2) = v) (k : XW p l e R s m args below meth c nL cells slots A D Q (wX cI cJ cD cS a) (N, Z, E, G, T) n lv (.int v :: st)) : XW p l e R s m args below meth c nL cells slots A D Q (wX cI cJ cD cS a) (N, Z, E, G, T) pc lv (.ref (a 2) :: st) := by
  subst hv
  exact hd_get n C hK d hn (2) rfl rfl inX0 2 (by decide) kf_X0_18 rfl rfl k
theorem pt0_to {v : Nat} (n : Nat) (C : xC p s m args meth c RX0 cc nL ret) (hK : va_K D vwCl (ty4 cI cJ cD cS) s) (d : decode cc pc = .ok (.putfield 18, 3)) (hn : pc + 3 = n) (k : XW p l e R s m args below meth c nL cells slots A D Q (wX cI cJ cD cS a) (N, Z, E, G, uT T 2 v) n lv st) : XW p l e R s m args below meth c nL cells slots A D Q (wX cI cJ cD cS a) (N, Z, E, G, T) pc lv (.int (nI v) :: .ref (a 2) :: st) := hd_put (ty := .int) n C hK d hn (2) rfl rfl inX0 tyX0_ok nmX0 2 (by decide) kf_X0_18 rfl rfl (by decide +kernel) rfl rfl (Nat.le_of_ble_eq_true rfl) rfl k
theorem gd0_step {i : Nat} (hi : i < 8) (n : Nat) (C : xC p s m args meth c RX0 cc nL ret) (hK : va_K D vwCl (ty4 cI cJ cD cS) s) (d : decode cc pc = .ok (.getfield 21, 3)) (hn : pc + 3 = n) (v : Int32) (hv : nI (N 4 i) = v) (k : XW p l e R s m args below meth c nL cells slots A D Q (wX cI cJ cD cS a) (N, Z, E, G, T) n lv (.int v :: st)) : XW p l e R s m args below meth c nL cells slots A D Q (wX cI cJ cD cS a) (N, Z, E, G, T) pc lv (.ref (a (20 + i)) :: st) := by
  subst hv
  exact hd_get n C hK d hn (10 + i) (wX_door i hi) rfl inX0 3 (by decide) kf_X0_21 rfl rfl k
theorem pd0_step {v : Nat} {i : Nat} (hi : i < 8) (n : Nat) (C : xC p s m args meth c RX0 cc nL ret) (hK : va_K D vwCl (ty4 cI cJ cD cS) s) (d : decode cc pc = .ok (.putfield 21, 3)) (hn : pc + 3 = n) (k : XW p l e R s m args below meth c nL cells slots A D Q (wX cI cJ cD cS a) (uN N 4 i v, Z, E, G, T) n lv st) : XW p l e R s m args below meth c nL cells slots A D Q (wX cI cJ cD cS a) (N, Z, E, G, T) pc lv (.int (nI v) :: .ref (a (20 + i)) :: st) := hd_put (ty := .int) n C hK d hn (10 + i) (wX_door i hi) rfl inX0 tyX0_ok nmX0 3 (by decide) kf_X0_21 rfl rfl (by decide +kernel) rfl rfl (Nat.le_of_ble_eq_true rfl) (wX_pd3 i v hi) k
theorem gt0_step (n : Nat) (C : xC p s m args meth c RX0 cc nL ret) (hK : va_K D vwCl (ty4 cI cJ cD cS) s) (d : decode cc pc = .ok (.getfield 21, 3)) (hn : pc + 3 = n) (v : Int32) (hv : nI (T 3) = v) (k : XW p l e R s m args below meth c nL cells slots A D Q (wX cI cJ cD cS a) (N, Z, E, G, T) n lv (.int v :: st)) : XW p l e R s m args below meth c nL cells slots A D Q (wX cI cJ cD cS a) (N, Z, E, G, T) pc lv (.ref (a 2) :: st) := by
  subst hv
  exact hd_get n C hK d hn (2) rfl rfl inX0 3 (by decide) kf_X0_21 rfl rfl k
theorem pt0_step {v : Nat} (n : Nat) (C : xC p s m args meth c RX0 cc nL ret) (hK : va_K D vwCl (ty4 cI cJ cD cS) s) (d : decode cc pc = .ok (.putfield 21, 3)) (hn : pc + 3 = n) (k : XW p l e R s m args below meth c nL cells slots A D Q (wX cI cJ cD cS a) (N, Z, E, G, uT T 3 v) n lv st) : XW p l e R s m args below meth c nL cells slots A D Q (wX cI cJ cD cS a) (N, Z, E, G, T) pc lv (.int (nI v) :: .ref (a 2) :: st) := hd_put (ty := .int) n C hK d hn (2) rfl rfl inX0 tyX0_ok nmX0 3 (by decide) kf_X0_21 rfl rfl (by decide +kernel) rfl rfl (Nat.le_of_ble_eq_true rfl) rfl k
theorem gd2_kind {i : Nat} (hi : i < 8) (n : Nat) (C : xC p s m args meth c RX2 cc nL ret) (hK : va_K D vwCl (ty4 cI cJ cD cS) s) (d : decode cc pc = .ok (.getfield 82, 3)) (hn : pc + 3 = n) (v : Int32) (hv : nI (N 1 i) = v) (k : XW p l e R s m args below meth c nL cells slots A D Q (wX cI cJ cD cS a) (N, Z, E, G, T) n lv (.int v :: st)) : XW p l e R s m args below meth c nL cells slots A D Q (wX cI cJ cD cS a) (N, Z, E, G, T) pc lv (.ref (a (20 + i)) :: st) := by
  subst hv
  exact hd_get n C hK d hn (10 + i) (wX_door i hi) rfl inX0 0 (by decide) kf_X2_82 rfl rfl k
theorem pd2_kind {v : Nat} {i : Nat} (hi : i < 8) (n : Nat) (C : xC p s m args meth c RX2 cc nL ret) (hK : va_K D vwCl (ty4 cI cJ cD cS) s) (d : decode cc pc = .ok (.putfield 82, 3)) (hn : pc + 3 = n) (k : XW p l e R s m args below meth c nL cells slots A D Q (wX cI cJ cD cS a) (uN N 1 i v, Z, E, G, T) n lv st) : XW p l e R s m args below meth c nL cells slots A D Q (wX cI cJ cD cS a) (N, Z, E, G, T) pc lv (.int (nI v) :: .ref (a (20 + i)) :: st) := hd_put (ty := .int) n C hK d hn (10 + i) (wX_door i hi) rfl inX0 tyX0_ok nmX0 0 (by decide) kf_X2_82 rfl rfl (by decide +kernel) rfl rfl (Nat.le_of_ble_eq_true rfl) (wX_pd0 i v hi) k
theorem gt2_kind (n : Nat) (C : xC p s m args meth c RX2 cc nL ret) (hK : va_K D vwCl (ty4 cI cJ cD cS) s) (d : decode cc pc = .ok (.getfield 82, 3)) (hn : pc + 3 = n) (v : Int32) (hv : nI (T 0) = v) (k : XW p l e R s m args below meth c nL cells slots A D Q (wX cI cJ cD cS a) (N, Z, E, G, T) n lv (.int v :: st)) : XW p l e R s m args below meth c nL cells slots A D Q (wX cI cJ cD cS a) (N, Z, E, G, T) pc lv (.ref (a 2) :: st) := by
  subst hv
  exact hd_get n C hK d hn (2) rfl rfl inX0 0 (by decide) kf_X2_82 rfl rfl k
theorem pt2_kind {v : Nat} (n : Nat) (C : xC p s m args meth c RX2 cc nL ret) (hK : va_K D vwCl (ty4 cI cJ cD cS) s) (d : decode cc pc = .ok (.putfield 82, 3)) (hn : pc + 3 = n) (k : XW p l e R s m args below meth c nL cells slots A D Q (wX cI cJ cD cS a) (N, Z, E, G, uT T 0 v) n lv st) : XW p l e R s m args below meth c nL cells slots A D Q (wX cI cJ cD cS a) (N, Z, E, G, T) pc lv (.int (nI v) :: .ref (a 2) :: st) := hd_put (ty := .int) n C hK d hn (2) rfl rfl inX0 tyX0_ok nmX0 0 (by decide) kf_X2_82 rfl rfl (by decide +kernel) rfl rfl (Nat.le_of_ble_eq_true rfl) rfl k
theorem gd2_room {i : Nat} (hi : i < 8) (n : Nat) (C : xC p s m args meth c RX2 cc nL ret) (hK : va_K D vwCl (ty4 cI cJ cD cS) s) (d : decode cc pc = .ok (.getfield 85, 3)) (hn : pc + 3 = n) (v : Int32) (hv : nI (N 2 i) = v) (k : XW p l e R s m args below meth c nL cells slots A D Q (wX cI cJ cD cS a) (N, Z, E, G, T) n lv (.int v :: st)) : XW p l e R s m args below meth c nL cells slots A D Q (wX cI cJ cD cS a) (N, Z, E, G, T) pc lv (.ref (a (20 + i)) :: st) := by
  subst hv
  exact hd_get n C hK d hn (10 + i) (wX_door i hi) rfl inX0 1 (by decide) kf_X2_85 rfl rfl k
theorem pd2_room {v : Nat} {i : Nat} (hi : i < 8) (n : Nat) (C : xC p s m args meth c RX2 cc nL ret) (hK : va_K D vwCl (ty4 cI cJ cD cS) s) (d : decode cc pc = .ok (.putfield 85, 3)) (hn : pc + 3 = n) (k : XW p l e R s m args below meth c nL cells slots A D Q (wX cI cJ cD cS a) (uN N 2 i v, Z, E, G, T) n lv st) : XW p l e R s m args below meth c nL cells slots A D Q (wX cI cJ cD cS a) (N, Z, E, G, T) pc lv (.int (nI v) :: .ref (a (20 + i)) :: st) := hd_put (ty := .int) n C hK d hn (10 + i) (wX_door i hi) rfl inX0 tyX0_ok nmX0 1 (by decide) kf_X2_85 rfl rfl (by decide +kernel) rfl rfl (Nat.le_of_ble_eq_true rfl) (wX_pd1 i v hi) k
theorem gt2_room (n : Nat) (C : xC p s m args meth c RX2 cc nL ret) (hK : va_K D vwCl (ty4 cI cJ cD cS) s) (d : decode cc pc = .ok (.getfield 85, 3)) (hn : pc + 3 = n) (v : Int32) (hv : nI (T 1) = v) (k : XW p l e R s m args below meth c nL cells slots A D Q (wX cI cJ cD cS a) (N, Z, E, G, T) n lv (.int v :: st)) : XW p l e R s m args below meth c nL cells slots A D Q (wX cI cJ cD cS a) (N, Z, E, G, T) pc lv (.ref (a 2) :: st) := by
  subst hv
  exact hd_get n C hK d hn (2) rfl rfl inX0 1 (by decide) kf_X2_85 rfl rfl k
theorem pt2_room {v : Nat} (n : Nat) (C : xC p s m args meth c RX2 cc nL ret) (hK : va_K D vwCl (ty4 cI cJ cD cS) s) (d : decode cc pc = .ok (.putfield 85, 3)) (hn : pc + 3 = n) (k : XW p l e R s m args below meth c nL cells slots A D Q (wX cI cJ cD cS a) (N, Z, E, G, uT T 1 v) n lv st) : XW p l e R s m args below meth c nL cells slots A D Q (wX cI cJ cD cS a) (N, Z, E, G, T) pc lv (.int (nI v) :: .ref (a 2) :: st) := hd_put (ty := .int) n C hK d hn (2) rfl rfl inX0 tyX0_ok nmX0 1 (by decide) kf_X2_85 rfl rfl (by decide +kernel) rfl rfl (Nat.le_of_ble_eq_true rfl) rfl k
theorem gd2_to {i : Nat} (hi : i < 8) (n : Nat) (C : xC p s m args meth c RX2 cc nL ret) (hK : va_K D vwCl (ty4 cI cJ cD cS) s) (d : decode cc pc = .ok (.getfield 88, 3)) (hn : pc + 3 = n) (v : Int32) (hv : nI (N 3 i) = v) (k : XW p l e R s m args below meth c nL cells slots A D Q (wX cI cJ cD cS a) (N, Z, E, G, T) n lv (.int v :: st)) : XW p l e R s m args below meth c nL cells slots A D Q (wX cI cJ cD cS a) (N, Z, E, G, T) pc lv (.ref (a (20 + i)) :: st) := by
  subst hv
  exact hd_get n C hK d hn (10 + i) (wX_door i hi) rfl inX0 2 (by decide) kf_X2_88 rfl rfl k
theorem pd2_to {v : Nat} {i : Nat} (hi : i < 8) (n : Nat) (C : xC p s m args meth c RX2 cc nL ret) (hK : va_K D vwCl (ty4 cI cJ cD cS) s) (d : decode cc pc = .ok (.putfield 88, 3)) (hn : pc + 3 = n) (k : XW p l e R s m args below meth c nL cells slots A D Q (wX cI cJ cD cS a) (uN N 3 i v, Z, E, G, T) n lv st) : XW p l e R s m args below meth c nL cells slots A D Q (wX cI cJ cD cS a) (N, Z, E, G, T) pc lv (.int (nI v) :: .ref (a (20 + i)) :: st) := hd_put (ty := .int) n C hK d hn (10 + i) (wX_door i hi) rfl inX0 tyX0_ok nmX0 2 (by decide) kf_X2_88 rfl rfl (by decide +kernel) rfl rfl (Nat.le_of_ble_eq_true rfl) (wX_pd2 i v hi) k
theorem gt2_to (n : Nat) (C : xC p s m args meth c RX2 cc nL ret) (hK : va_K D vwCl (ty4 cI cJ cD cS) s) (d : decode cc pc = .ok (.getfield 88, 3)) (hn : pc + 3 = n) (v : Int32) (hv : nI (T 2) = v) (k : XW p l e R s m args below meth c nL cells slots A D Q (wX cI cJ cD cS a) (N, Z, E, G, T) n lv (.int v :: st)) : XW p l e R s m args below meth c nL cells slots A D Q (wX cI cJ cD cS a) (N, Z, E, G, T) pc lv (.ref (a 2) :: st) := by
  subst hv
  exact hd_get n C hK d hn (2) rfl rfl inX0 2 (by decide) kf_X2_88 rfl rfl k
theorem pt2_to {v : Nat} (n : Nat) (C : xC p s m args meth c RX2 cc nL ret) (hK : va_K D vwCl (ty4 cI cJ cD cS) s) (d : decode cc pc = .ok (.putfield 88, 3)) (hn : pc + 3 = n) (k : XW p l e R s m args below meth c nL cells slots A D Q (wX cI cJ cD cS a) (N, Z, E, G, uT T 2 v) n lv st) : XW p l e R s m args below meth c nL cells slots A D Q (wX cI cJ cD cS a) (N, Z, E, G, T) pc lv (.int (nI v) :: .ref (a 2) :: st) := hd_put (ty := .int) n C hK d hn (2) rfl rfl inX0 tyX0_ok nmX0 2 (by decide) kf_X2_88 rfl rfl (by decide +kernel) rfl rfl (Nat.le_of_ble_eq_true rfl) rfl k
theorem gd2_step {i : Nat} (hi : i < 8) (n : Nat) (C : xC p s m args meth c RX2 cc nL ret) (hK : va_K D vwCl (ty4 cI cJ cD cS) s) (d : decode cc pc = .ok (.getfield 91, 3)) (hn : pc + 3 = n) (v : Int32) (hv : nI (N 4 i) = v) (k : XW p l e R s m args below meth c nL cells slots A D Q (wX cI cJ cD cS a) (N, Z, E, G, T) n lv (.int v :: st)) : XW p l e R s m args below meth c nL cells slots A D Q (wX cI cJ cD cS a) (N, Z, E, G, T) pc lv (.ref (a (20 + i)) :: st) := by
  subst hv
  exact hd_get n C hK d hn (10 + i) (wX_door i hi) rfl inX0 3 (by decide) kf_X2_91 rfl rfl k
theorem pd2_step {v : Nat} {i : Nat} (hi : i < 8) (n : Nat) (C : xC p s m args meth c RX2 cc nL ret) (hK : va_K D vwCl (ty4 cI cJ cD cS) s) (d : decode cc pc = .ok (.putfield 91, 3)) (hn : pc + 3 = n) (k : XW p l e R s m args below meth c nL cells slots A D Q (wX cI cJ cD cS a) (uN N 4 i v, Z, E, G, T) n lv st) : XW p l e R s m args below meth c nL cells slots A D Q (wX cI cJ cD cS a) (N, Z, E, G, T) pc lv (.int (nI v) :: .ref (a (20 + i)) :: st) := hd_put (ty := .int) n C hK d hn (10 + i) (wX_door i hi) rfl inX0 tyX0_ok nmX0 3 (by decide) kf_X2_91 rfl rfl (by decide +kernel) rfl rfl (Nat.le_of_ble_eq_true rfl) (wX_pd3 i v hi) k
theorem gt2_step (n : Nat) (C : xC p s m args meth c RX2 cc nL ret) (hK : va_K D vwCl (ty4 cI cJ cD cS) s) (d : decode cc pc = .ok (.getfield 91, 3)) (hn : pc + 3 = n) (v : Int32) (hv : nI (T 3) = v) (k : XW p l e R s m args below meth c nL cells slots A D Q (wX cI cJ cD cS a) (N, Z, E, G, T) n lv (.int v :: st)) : XW p l e R s m args below meth c nL cells slots A D Q (wX cI cJ cD cS a) (N, Z, E, G, T) pc lv (.ref (a 2) :: st) := by
  subst hv
  exact hd_get n C hK d hn (2) rfl rfl inX0 3 (by decide) kf_X2_91 rfl rfl k
theorem pt2_step {v : Nat} (n : Nat) (C : xC p s m args meth c RX2 cc nL ret) (hK : va_K D vwCl (ty4 cI cJ cD cS) s) (d : decode cc pc = .ok (.putfield 91, 3)) (hn : pc + 3 = n) (k : XW p l e R s m args below meth c nL cells slots A D Q (wX cI cJ cD cS a) (N, Z, E, G, uT T 3 v) n lv st) : XW p l e R s m args below meth c nL cells slots A D Q (wX cI cJ cD cS a) (N, Z, E, G, T) pc lv (.int (nI v) :: .ref (a 2) :: st) := hd_put (ty := .int) n C hK d hn (2) rfl rfl inX0 tyX0_ok nmX0 3 (by decide) kf_X2_91 rfl rfl (by decide +kernel) rfl rfl (Nat.le_of_ble_eq_true rfl) rfl k
theorem gs1_cells {i : Nat} (hi : i < 4) (n : Nat) (C : xC p s m args meth c RX1 cc nL ret) (hK : va_K D vwCl (ty4 cI cJ cD cS) s) (d : decode cc pc = .ok (.getfield 9, 3)) (hn : pc + 3 = n) (k : XW p l e R s m args below meth c nL cells slots A D Q (wX cI cJ cD cS a) (N, Z, E, G, T) n lv (.ref (a (40 + i)) :: st)) : XW p l e R s m args below meth c nL cells slots A D Q (wX cI cJ cD cS a) (N, Z, E, G, T) pc lv (.ref (a (30 + i)) :: st) := hd_get n C hK d hn (18 + i) (wX_sheet i hi) rfl inX1 0 (by decide) kf_X1_9 rfl rfl k
theorem gs1_lane {i : Nat} (hi : i < 4) (n : Nat) (C : xC p s m args meth c RX1 cc nL ret) (hK : va_K D vwCl (ty4 cI cJ cD cS) s) (d : decode cc pc = .ok (.getfield 25, 3)) (hn : pc + 3 = n) (v : Int32) (hv : Z 3 i = v) (k : XW p l e R s m args below meth c nL cells slots A D Q (wX cI cJ cD cS a) (N, Z, E, G, T) n lv (.int v :: st)) : XW p l e R s m args below meth c nL cells slots A D Q (wX cI cJ cD cS a) (N, Z, E, G, T) pc lv (.ref (a (30 + i)) :: st) := by
  subst hv
  exact hd_get n C hK d hn (18 + i) (wX_sheet i hi) rfl inX1 1 (by decide) kf_X1_25 rfl rfl k
theorem ps1_lane {v : Int32} {i : Nat} (hi : i < 4) (n : Nat) (C : xC p s m args meth c RX1 cc nL ret) (hK : va_K D vwCl (ty4 cI cJ cD cS) s) (d : decode cc pc = .ok (.putfield 25, 3)) (hn : pc + 3 = n) (k : XW p l e R s m args below meth c nL cells slots A D Q (wX cI cJ cD cS a) (N, uZ Z 3 i v, E, G, T) n lv st) : XW p l e R s m args below meth c nL cells slots A D Q (wX cI cJ cD cS a) (N, Z, E, G, T) pc lv (.int v :: .ref (a (30 + i)) :: st) := hd_put (ty := .int) n C hK d hn (18 + i) (wX_sheet i hi) rfl inX1 tyX1_ok nmX1 1 (by decide) kf_X1_25 rfl rfl (by decide +kernel) rfl rfl (Nat.le_of_ble_eq_true rfl) (wX_ps1 i v hi) k
theorem gs1_size {i : Nat} (hi : i < 4) (n : Nat) (C : xC p s m args meth c RX1 cc nL ret) (hK : va_K D vwCl (ty4 cI cJ cD cS) s) (d : decode cc pc = .ok (.getfield 15, 3)) (hn : pc + 3 = n) (v : Int32) (hv : Z 2 i = v) (k : XW p l e R s m args below meth c nL cells slots A D Q (wX cI cJ cD cS a) (N, Z, E, G, T) n lv (.int v :: st)) : XW p l e R s m args below meth c nL cells slots A D Q (wX cI cJ cD cS a) (N, Z, E, G, T) pc lv (.ref (a (30 + i)) :: st) := by
  subst hv
  exact hd_get n C hK d hn (18 + i) (wX_sheet i hi) rfl inX1 2 (by decide) kf_X1_15 rfl rfl k
theorem ps1_size {v : Int32} {i : Nat} (hi : i < 4) (n : Nat) (C : xC p s m args meth c RX1 cc nL ret) (hK : va_K D vwCl (ty4 cI cJ cD cS) s) (d : decode cc pc = .ok (.putfield 15, 3)) (hn : pc + 3 = n) (k : XW p l e R s m args below meth c nL cells slots A D Q (wX cI cJ cD cS a) (N, uZ Z 2 i v, E, G, T) n lv st) : XW p l e R s m args below meth c nL cells slots A D Q (wX cI cJ cD cS a) (N, Z, E, G, T) pc lv (.int v :: .ref (a (30 + i)) :: st) := hd_put (ty := .int) n C hK d hn (18 + i) (wX_sheet i hi) rfl inX1 tyX1_ok nmX1 2 (by decide) kf_X1_15 rfl rfl (by decide +kernel) rfl rfl (Nat.le_of_ble_eq_true rfl) (wX_ps2 i v hi) k
theorem gs2_cells {i : Nat} (hi : i < 4) (n : Nat) (C : xC p s m args meth c RX2 cc nL ret) (hK : va_K D vwCl (ty4 cI cJ cD cS) s) (d : decode cc pc = .ok (.getfield 165, 3)) (hn : pc + 3 = n) (k : XW p l e R s m args below meth c nL cells slots A D Q (wX cI cJ cD cS a) (N, Z, E, G, T) n lv (.ref (a (40 + i)) :: st)) : XW p l e R s m args below meth c nL cells slots A D Q (wX cI cJ cD cS a) (N, Z, E, G, T) pc lv (.ref (a (30 + i)) :: st) := hd_get n C hK d hn (18 + i) (wX_sheet i hi) rfl inX1 0 (by decide) kf_X2_165 rfl rfl k
theorem gs2_lane {i : Nat} (hi : i < 4) (n : Nat) (C : xC p s m args meth c RX2 cc nL ret) (hK : va_K D vwCl (ty4 cI cJ cD cS) s) (d : decode cc pc = .ok (.getfield 162, 3)) (hn : pc + 3 = n) (v : Int32) (hv : Z 3 i = v) (k : XW p l e R s m args below meth c nL cells slots A D Q (wX cI cJ cD cS a) (N, Z, E, G, T) n lv (.int v :: st)) : XW p l e R s m args below meth c nL cells slots A D Q (wX cI cJ cD cS a) (N, Z, E, G, T) pc lv (.ref (a (30 + i)) :: st) := by
  subst hv
  exact hd_get n C hK d hn (18 + i) (wX_sheet i hi) rfl inX1 1 (by decide) kf_X2_162 rfl rfl k
theorem ps2_lane {v : Int32} {i : Nat} (hi : i < 4) (n : Nat) (C : xC p s m args meth c RX2 cc nL ret) (hK : va_K D vwCl (ty4 cI cJ cD cS) s) (d : decode cc pc = .ok (.putfield 162, 3)) (hn : pc + 3 = n) (k : XW p l e R s m args below meth c nL cells slots A D Q (wX cI cJ cD cS a) (N, uZ Z 3 i v, E, G, T) n lv st) : XW p l e R s m args below meth c nL cells slots A D Q (wX cI cJ cD cS a) (N, Z, E, G, T) pc lv (.int v :: .ref (a (30 + i)) :: st) := hd_put (ty := .int) n C hK d hn (18 + i) (wX_sheet i hi) rfl inX1 tyX1_ok nmX1 1 (by decide) kf_X2_162 rfl rfl (by decide +kernel) rfl rfl (Nat.le_of_ble_eq_true rfl) (wX_ps1 i v hi) k
theorem alm_kindOf {i : Nat} (n : Nat) (C : xC p s m args meth c own cc nL ret) (hK : va_K D vwCl (ty4 cI cJ cD cS) s) (d : decode cc pc = .ok (.iaload, 1)) (hn : pc + 1 = n) (hi : i < 8) (v : Int32) (hv : nI (N 1 i) = v) (k : XW p l e R s m args below meth c nL cells slots A D Q (wM cI a) (N, Z, E, G, T) n lv (.int v :: st)) : XW p l e R s m args below meth c nL cells slots A D Q (wM cI a) (N, Z, E, G, T) pc lv (.int (nI i) :: .ref (a 1) :: st) := hd_iald n C hK d hn 1 0 rfl rfl (vp_in_nI hi (by decide)) v (by rw [nI_clamp (Nat.lt_trans hi (by decide))]; exact hv) k
theorem asm_kindOf {i : Nat} {v : Nat} (n : Nat) (C : xC p s m args meth c own cc nL ret) (hK : va_K D vwCl (ty4 cI cJ cD cS) s) (d : decode cc pc = .ok (.iastore, 1)) (hn : pc + 1 = n) (hi : i < 8) (k : XW p l e R s m args below meth c nL cells slots A D Q (wM cI a) (uN N 1 i v, Z, E, G, T) n lv st) : XW p l e R s m args below meth c nL cells slots A D Q (wM cI a) (N, Z, E, G, T) pc lv (.int (nI v) :: .int (nI i) :: .ref (a 1) :: st) := hd_iast n C hK d hn 1 0 rfl rfl (vp_in_nI hi (by decide)) (by rw [nI_clamp (Nat.lt_trans hi (by decide)), upd_uN]; rfl) k
theorem alm_roomOf {i : Nat} (n : Nat) (C : xC p s m args meth c own cc nL ret) (hK : va_K D vwCl (ty4 cI cJ cD cS) s) (d : decode cc pc = .ok (.iaload, 1)) (hn : pc + 1 = n) (hi : i < 8) (v : Int32) (hv : nI (N 2 i) = v) (k : XW p l e R s m args below meth c nL cells slots A D Q (wM cI a) (N, Z, E, G, T) n lv (.int v :: st)) : XW p l e R s m args below meth c nL cells slots A D Q (wM cI a) (N, Z, E, G, T) pc lv (.int (nI i) :: .ref (a 2) :: st) := hd_iald n C hK d hn 2 0 rfl rfl (vp_in_nI hi (by decide)) v (by rw [nI_clamp (Nat.lt_trans hi (by decide))]; exact hv) k
theorem asm_roomOf {i : Nat} {v : Nat} (n : Nat) (C : xC p s m args meth c own cc nL ret) (hK : va_K D vwCl (ty4 cI cJ cD cS) s) (d : decode cc pc = .ok (.iastore, 1)) (hn : pc + 1 = n) (hi : i < 8) (k : XW p l e R s m args below meth c nL cells slots A D Q (wM cI a) (uN N 2 i v, Z, E, G, T) n lv st) : XW p l e R s m args below meth c nL cells slots A D Q (wM cI a) (N, Z, E, G, T) pc lv (.int (nI v) :: .int (nI i) :: .ref (a 2) :: st) := hd_iast n C hK d hn 2 0 rfl rfl (vp_in_nI hi (by decide)) (by rw [nI_clamp (Nat.lt_trans hi (by decide)), upd_uN]; rfl) k
theorem alm_toOf {i : Nat} (n : Nat) (C : xC p s m args meth c own cc nL ret) (hK : va_K D vwCl (ty4 cI cJ cD cS) s) (d : decode cc pc = .ok (.iaload, 1)) (hn : pc + 1 = n) (hi : i < 8) (v : Int32) (hv : nI (N 3 i) = v) (k : XW p l e R s m args below meth c nL cells slots A D Q (wM cI a) (N, Z, E, G, T) n lv (.int v :: st)) : XW p l e R s m args below meth c nL cells slots A D Q (wM cI a) (N, Z, E, G, T) pc lv (.int (nI i) :: .ref (a 3) :: st) := hd_iald n C hK d hn 3 0 rfl rfl (vp_in_nI hi (by decide)) v (by rw [nI_clamp (Nat.lt_trans hi (by decide))]; exact hv) k
theorem asm_toOf {i : Nat} {v : Nat} (n : Nat) (C : xC p s m args meth c own cc nL ret) (hK : va_K D vwCl (ty4 cI cJ cD cS) s) (d : decode cc pc = .ok (.iastore, 1)) (hn : pc + 1 = n) (hi : i < 8) (k : XW p l e R s m args below meth c nL cells slots A D Q (wM cI a) (uN N 3 i v, Z, E, G, T) n lv st) : XW p l e R s m args below meth c nL cells slots A D Q (wM cI a) (N, Z, E, G, T) pc lv (.int (nI v) :: .int (nI i) :: .ref (a 3) :: st) := hd_iast n C hK d hn 3 0 rfl rfl (vp_in_nI hi (by decide)) (by rw [nI_clamp (Nat.lt_trans hi (by decide)), upd_uN]; rfl) k
theorem alm_stepOf {i : Nat} (n : Nat) (C : xC p s m args meth c own cc nL ret) (hK : va_K D vwCl (ty4 cI cJ cD cS) s) (d : decode cc pc = .ok (.iaload, 1)) (hn : pc + 1 = n) (hi : i < 8) (v : Int32) (hv : nI (N 4 i) = v) (k : XW p l e R s m args below meth c nL cells slots A D Q (wM cI a) (N, Z, E, G, T) n lv (.int v :: st)) : XW p l e R s m args below meth c nL cells slots A D Q (wM cI a) (N, Z, E, G, T) pc lv (.int (nI i) :: .ref (a 4) :: st) := hd_iald n C hK d hn 4 0 rfl rfl (vp_in_nI hi (by decide)) v (by rw [nI_clamp (Nat.lt_trans hi (by decide))]; exact hv) k
theorem asm_stepOf {i : Nat} {v : Nat} (n : Nat) (C : xC p s m args meth c own cc nL ret) (hK : va_K D vwCl (ty4 cI cJ cD cS) s) (d : decode cc pc = .ok (.iastore, 1)) (hn : pc + 1 = n) (hi : i < 8) (k : XW p l e R s m args below meth c nL cells slots A D Q (wM cI a) (uN N 4 i v, Z, E, G, T) n lv st) : XW p l e R s m args below meth c nL cells slots A D Q (wM cI a) (N, Z, E, G, T) pc lv (.int (nI v) :: .int (nI i) :: .ref (a 4) :: st) := hd_iast n C hK d hn 4 0 rfl rfl (vp_in_nI hi (by decide)) (by rw [nI_clamp (Nat.lt_trans hi (by decide)), upd_uN]; rfl) k
theorem alm_readKind {i : Nat} (n : Nat) (C : xC p s m args meth c own cc nL ret) (hK : va_K D vwCl (ty4 cI cJ cD cS) s) (d : decode cc pc = .ok (.iaload, 1)) (hn : pc + 1 = n) (hi : i < 8) (v : Int32) (hv : Z 21 i = v) (k : XW p l e R s m args below meth c nL cells slots A D Q (wM cI a) (N, Z, E, G, T) n lv (.int v :: st)) : XW p l e R s m args below meth c nL cells slots A D Q (wM cI a) (N, Z, E, G, T) pc lv (.int (nI i) :: .ref (a 5) :: st) := hd_iald n C hK d hn 5 0 rfl rfl (vp_in_nI hi (by decide)) v (by rw [nI_clamp (Nat.lt_trans hi (by decide))]; exact hv) k
theorem asm_readKind {i : Nat} {v : Int32} (n : Nat) (C : xC p s m args meth c own cc nL ret) (hK : va_K D vwCl (ty4 cI cJ cD cS) s) (d : decode cc pc = .ok (.iastore, 1)) (hn : pc + 1 = n) (hi : i < 8) (k : XW p l e R s m args below meth c nL cells slots A D Q (wM cI a) (N, uZ Z 21 i v, E, G, T) n lv st) : XW p l e R s m args below meth c nL cells slots A D Q (wM cI a) (N, Z, E, G, T) pc lv (.int v :: .int (nI i) :: .ref (a 5) :: st) := hd_iast n C hK d hn 5 0 rfl rfl (vp_in_nI hi (by decide)) (by rw [nI_clamp (Nat.lt_trans hi (by decide)), upd_uZ]; rfl) k
theorem alm_readRoom {i : Nat} (n : Nat) (C : xC p s m args meth c own cc nL ret) (hK : va_K D vwCl (ty4 cI cJ cD cS) s) (d : decode cc pc = .ok (.iaload, 1)) (hn : pc + 1 = n) (hi : i < 8) (v : Int32) (hv : Z 22 i = v) (k : XW p l e R s m args below meth c nL cells slots A D Q (wM cI a) (N, Z, E, G, T) n lv (.int v :: st)) : XW p l e R s m args below meth c nL cells slots A D Q (wM cI a) (N, Z, E, G, T) pc lv (.int (nI i) :: .ref (a 6) :: st) := hd_iald n C hK d hn 6 0 rfl rfl (vp_in_nI hi (by decide)) v (by rw [nI_clamp (Nat.lt_trans hi (by decide))]; exact hv) k
theorem asm_readRoom {i : Nat} {v : Int32} (n : Nat) (C : xC p s m args meth c own cc nL ret) (hK : va_K D vwCl (ty4 cI cJ cD cS) s) (d : decode cc pc = .ok (.iastore, 1)) (hn : pc + 1 = n) (hi : i < 8) (k : XW p l e R s m args below meth c nL cells slots A D Q (wM cI a) (N, uZ Z 22 i v, E, G, T) n lv st) : XW p l e R s m args below meth c nL cells slots A D Q (wM cI a) (N, Z, E, G, T) pc lv (.int v :: .int (nI i) :: .ref (a 6) :: st) := hd_iast n C hK d hn 6 0 rfl rfl (vp_in_nI hi (by decide)) (by rw [nI_clamp (Nat.lt_trans hi (by decide)), upd_uZ]; rfl) k
theorem alm_readTo {i : Nat} (n : Nat) (C : xC p s m args meth c own cc nL ret) (hK : va_K D vwCl (ty4 cI cJ cD cS) s) (d : decode cc pc = .ok (.iaload, 1)) (hn : pc + 1 = n) (hi : i < 8) (v : Int32) (hv : Z 23 i = v) (k : XW p l e R s m args below meth c nL cells slots A D Q (wM cI a) (N, Z, E, G, T) n lv (.int v :: st)) : XW p l e R s m args below meth c nL cells slots A D Q (wM cI a) (N, Z, E, G, T) pc lv (.int (nI i) :: .ref (a 7) :: st) := hd_iald n C hK d hn 7 0 rfl rfl (vp_in_nI hi (by decide)) v (by rw [nI_clamp (Nat.lt_trans hi (by decide))]; exact hv) k
theorem asm_readTo {i : Nat} {v : Int32} (n : Nat) (C : xC p s m args meth c own cc nL ret) (hK : va_K D vwCl (ty4 cI cJ cD cS) s) (d : decode cc pc = .ok (.iastore, 1)) (hn : pc + 1 = n) (hi : i < 8) (k : XW p l e R s m args below meth c nL cells slots A D Q (wM cI a) (N, uZ Z 23 i v, E, G, T) n lv st) : XW p l e R s m args below meth c nL cells slots A D Q (wM cI a) (N, Z, E, G, T) pc lv (.int v :: .int (nI i) :: .ref (a 7) :: st) := hd_iast n C hK d hn 7 0 rfl rfl (vp_in_nI hi (by decide)) (by rw [nI_clamp (Nat.lt_trans hi (by decide)), upd_uZ]; rfl) k
theorem alm_readStep {i : Nat} (n : Nat) (C : xC p s m args meth c own cc nL ret) (hK : va_K D vwCl (ty4 cI cJ cD cS) s) (d : decode cc pc = .ok (.iaload, 1)) (hn : pc + 1 = n) (hi : i < 8) (v : Int32) (hv : Z 24 i = v) (k : XW p l e R s m args below meth c nL cells slots A D Q (wM cI a) (N, Z, E, G, T) n lv (.int v :: st)) : XW p l e R s m args below meth c nL cells slots A D Q (wM cI a) (N, Z, E, G, T) pc lv (.int (nI i) :: .ref (a 8) :: st) := hd_iald n C hK d hn 8 0 rfl rfl (vp_in_nI hi (by decide)) v (by rw [nI_clamp (Nat.lt_trans hi (by decide))]; exact hv) k
theorem asm_readStep {i : Nat} {v : Int32} (n : Nat) (C : xC p s m args meth c own cc nL ret) (hK : va_K D vwCl (ty4 cI cJ cD cS) s) (d : decode cc pc = .ok (.iastore, 1)) (hn : pc + 1 = n) (hi : i < 8) (k : XW p l e R s m args below meth c nL cells slots A D Q (wM cI a) (N, uZ Z 24 i v, E, G, T) n lv st) : XW p l e R s m args below meth c nL cells slots A D Q (wM cI a) (N, Z, E, G, T) pc lv (.int v :: .int (nI i) :: .ref (a 8) :: st) := hd_iast n C hK d hn 8 0 rfl rfl (vp_in_nI hi (by decide)) (by rw [nI_clamp (Nat.lt_trans hi (by decide)), upd_uZ]; rfl) k
theorem alm_beenIn {i : Nat} (n : Nat) (C : xC p s m args meth c own cc nL ret) (hK : va_K D vwCl (ty4 cI cJ cD cS) s) (d : decode cc pc = .ok (.iaload, 1)) (hn : pc + 1 = n) (hi : i < 64) (v : Int32) (hv : Z 25 i = v) (k : XW p l e R s m args below meth c nL cells slots A D Q (wM cI a) (N, Z, E, G, T) n lv (.int v :: st)) : XW p l e R s m args below meth c nL cells slots A D Q (wM cI a) (N, Z, E, G, T) pc lv (.int (nI i) :: .ref (a 9) :: st) := hd_iald n C hK d hn 9 0 rfl rfl (vp_in_nI hi (by decide)) v (by rw [nI_clamp (Nat.lt_trans hi (by decide))]; exact hv) k
theorem asm_beenIn {i : Nat} {v : Int32} (n : Nat) (C : xC p s m args meth c own cc nL ret) (hK : va_K D vwCl (ty4 cI cJ cD cS) s) (d : decode cc pc = .ok (.iastore, 1)) (hn : pc + 1 = n) (hi : i < 64) (k : XW p l e R s m args below meth c nL cells slots A D Q (wM cI a) (N, uZ Z 25 i v, E, G, T) n lv st) : XW p l e R s m args below meth c nL cells slots A D Q (wM cI a) (N, Z, E, G, T) pc lv (.int v :: .int (nI i) :: .ref (a 9) :: st) := hd_iast n C hK d hn 9 0 rfl rfl (vp_in_nI hi (by decide)) (by rw [nI_clamp (Nat.lt_trans hi (by decide)), upd_uZ]; rfl) k
theorem alm_thenIn {i : Nat} (n : Nat) (C : xC p s m args meth c own cc nL ret) (hK : va_K D vwCl (ty4 cI cJ cD cS) s) (d : decode cc pc = .ok (.iaload, 1)) (hn : pc + 1 = n) (hi : i < 64) (v : Int32) (hv : Z 26 i = v) (k : XW p l e R s m args below meth c nL cells slots A D Q (wM cI a) (N, Z, E, G, T) n lv (.int v :: st)) : XW p l e R s m args below meth c nL cells slots A D Q (wM cI a) (N, Z, E, G, T) pc lv (.int (nI i) :: .ref (a 10) :: st) := hd_iald n C hK d hn 10 0 rfl rfl (vp_in_nI hi (by decide)) v (by rw [nI_clamp (Nat.lt_trans hi (by decide))]; exact hv) k
theorem asm_thenIn {i : Nat} {v : Int32} (n : Nat) (C : xC p s m args meth c own cc nL ret) (hK : va_K D vwCl (ty4 cI cJ cD cS) s) (d : decode cc pc = .ok (.iastore, 1)) (hn : pc + 1 = n) (hi : i < 64) (k : XW p l e R s m args below meth c nL cells slots A D Q (wM cI a) (N, uZ Z 26 i v, E, G, T) n lv st) : XW p l e R s m args below meth c nL cells slots A D Q (wM cI a) (N, Z, E, G, T) pc lv (.int v :: .int (nI i) :: .ref (a 10) :: st) := hd_iast n C hK d hn 10 0 rfl rfl (vp_in_nI hi (by decide)) (by rw [nI_clamp (Nat.lt_trans hi (by decide)), upd_uZ]; rfl) k
theorem alm_readingOf {i : Nat} (n : Nat) (C : xC p s m args meth c own cc nL ret) (hK : va_K D vwCl (ty4 cI cJ cD cS) s) (d : decode cc pc = .ok (.iaload, 1)) (hn : pc + 1 = n) (hi : i < 8) (v : Int32) (hv : nI (N 5 i) = v) (k : XW p l e R s m args below meth c nL cells slots A D Q (wM cI a) (N, Z, E, G, T) n lv (.int v :: st)) : XW p l e R s m args below meth c nL cells slots A D Q (wM cI a) (N, Z, E, G, T) pc lv (.int (nI i) :: .ref (a 11) :: st) := hd_iald n C hK d hn 11 0 rfl rfl (vp_in_nI hi (by decide)) v (by rw [nI_clamp (Nat.lt_trans hi (by decide))]; exact hv) k
theorem asm_readingOf {i : Nat} {v : Nat} (n : Nat) (C : xC p s m args meth c own cc nL ret) (hK : va_K D vwCl (ty4 cI cJ cD cS) s) (d : decode cc pc = .ok (.iastore, 1)) (hn : pc + 1 = n) (hi : i < 8) (k : XW p l e R s m args below meth c nL cells slots A D Q (wM cI a) (uN N 5 i v, Z, E, G, T) n lv st) : XW p l e R s m args below meth c nL cells slots A D Q (wM cI a) (N, Z, E, G, T) pc lv (.int (nI v) :: .int (nI i) :: .ref (a 11) :: st) := hd_iast n C hK d hn 11 0 rfl rfl (vp_in_nI hi (by decide)) (by rw [nI_clamp (Nat.lt_trans hi (by decide)), upd_uN]; rfl) k
theorem alm_readingBy {i : Nat} (n : Nat) (C : xC p s m args meth c own cc nL ret) (hK : va_K D vwCl (ty4 cI cJ cD cS) s) (d : decode cc pc = .ok (.iaload, 1)) (hn : pc + 1 = n) (hi : i < 8) (v : Int32) (hv : nI (N 6 i) = v) (k : XW p l e R s m args below meth c nL cells slots A D Q (wM cI a) (N, Z, E, G, T) n lv (.int v :: st)) : XW p l e R s m args below meth c nL cells slots A D Q (wM cI a) (N, Z, E, G, T) pc lv (.int (nI i) :: .ref (a 12) :: st) := hd_iald n C hK d hn 12 0 rfl rfl (vp_in_nI hi (by decide)) v (by rw [nI_clamp (Nat.lt_trans hi (by decide))]; exact hv) k
theorem asm_readingBy {i : Nat} {v : Nat} (n : Nat) (C : xC p s m args meth c own cc nL ret) (hK : va_K D vwCl (ty4 cI cJ cD cS) s) (d : decode cc pc = .ok (.iastore, 1)) (hn : pc + 1 = n) (hi : i < 8) (k : XW p l e R s m args below meth c nL cells slots A D Q (wM cI a) (uN N 6 i v, Z, E, G, T) n lv st) : XW p l e R s m args below meth c nL cells slots A D Q (wM cI a) (N, Z, E, G, T) pc lv (.int (nI v) :: .int (nI i) :: .ref (a 12) :: st) := hd_iast n C hK d hn 12 0 rfl rfl (vp_in_nI hi (by decide)) (by rw [nI_clamp (Nat.lt_trans hi (by decide)), upd_uN]; rfl) k
theorem alm_readingAt {i : Nat} (n : Nat) (C : xC p s m args meth c own cc nL ret) (hK : va_K D vwCl (ty4 cI cJ cD cS) s) (d : decode cc pc = .ok (.iaload, 1)) (hn : pc + 1 = n) (hi : i < 8) (v : Int32) (hv : Z 1 i = v) (k : XW p l e R s m args below meth c nL cells slots A D Q (wM cI a) (N, Z, E, G, T) n lv (.int v :: st)) : XW p l e R s m args below meth c nL cells slots A D Q (wM cI a) (N, Z, E, G, T) pc lv (.int (nI i) :: .ref (a 13) :: st) := hd_iald n C hK d hn 13 0 rfl rfl (vp_in_nI hi (by decide)) v (by rw [nI_clamp (Nat.lt_trans hi (by decide))]; exact hv) k
theorem asm_readingAt {i : Nat} {v : Int32} (n : Nat) (C : xC p s m args meth c own cc nL ret) (hK : va_K D vwCl (ty4 cI cJ cD cS) s) (d : decode cc pc = .ok (.iastore, 1)) (hn : pc + 1 = n) (hi : i < 8) (k : XW p l e R s m args below meth c nL cells slots A D Q (wM cI a) (N, uZ Z 1 i v, E, G, T) n lv st) : XW p l e R s m args below meth c nL cells slots A D Q (wM cI a) (N, Z, E, G, T) pc lv (.int v :: .int (nI i) :: .ref (a 13) :: st) := hd_iast n C hK d hn 13 0 rfl rfl (vp_in_nI hi (by decide)) (by rw [nI_clamp (Nat.lt_trans hi (by decide)), upd_uZ]; rfl) k
theorem alm_sheetSize {i : Nat} (n : Nat) (C : xC p s m args meth c own cc nL ret) (hK : va_K D vwCl (ty4 cI cJ cD cS) s) (d : decode cc pc = .ok (.iaload, 1)) (hn : pc + 1 = n) (hi : i < 4) (v : Int32) (hv : Z 2 i = v) (k : XW p l e R s m args below meth c nL cells slots A D Q (wM cI a) (N, Z, E, G, T) n lv (.int v :: st)) : XW p l e R s m args below meth c nL cells slots A D Q (wM cI a) (N, Z, E, G, T) pc lv (.int (nI i) :: .ref (a 14) :: st) := hd_iald n C hK d hn 14 0 rfl rfl (vp_in_nI hi (by decide)) v (by rw [nI_clamp (Nat.lt_trans hi (by decide))]; exact hv) k
theorem asm_sheetSize {i : Nat} {v : Int32} (n : Nat) (C : xC p s m args meth c own cc nL ret) (hK : va_K D vwCl (ty4 cI cJ cD cS) s) (d : decode cc pc = .ok (.iastore, 1)) (hn : pc + 1 = n) (hi : i < 4) (k : XW p l e R s m args below meth c nL cells slots A D Q (wM cI a) (N, uZ Z 2 i v, E, G, T) n lv st) : XW p l e R s m args below meth c nL cells slots A D Q (wM cI a) (N, Z, E, G, T) pc lv (.int v :: .int (nI i) :: .ref (a 14) :: st) := hd_iast n C hK d hn 14 0 rfl rfl (vp_in_nI hi (by decide)) (by rw [nI_clamp (Nat.lt_trans hi (by decide)), upd_uZ]; rfl) k
theorem alm_sheetLane {i : Nat} (n : Nat) (C : xC p s m args meth c own cc nL ret) (hK : va_K D vwCl (ty4 cI cJ cD cS) s) (d : decode cc pc = .ok (.iaload, 1)) (hn : pc + 1 = n) (hi : i < 4) (v : Int32) (hv : Z 3 i = v) (k : XW p l e R s m args below meth c nL cells slots A D Q (wM cI a) (N, Z, E, G, T) n lv (.int v :: st)) : XW p l e R s m args below meth c nL cells slots A D Q (wM cI a) (N, Z, E, G, T) pc lv (.int (nI i) :: .ref (a 15) :: st) := hd_iald n C hK d hn 15 0 rfl rfl (vp_in_nI hi (by decide)) v (by rw [nI_clamp (Nat.lt_trans hi (by decide))]; exact hv) k
theorem asm_sheetLane {i : Nat} {v : Int32} (n : Nat) (C : xC p s m args meth c own cc nL ret) (hK : va_K D vwCl (ty4 cI cJ cD cS) s) (d : decode cc pc = .ok (.iastore, 1)) (hn : pc + 1 = n) (hi : i < 4) (k : XW p l e R s m args below meth c nL cells slots A D Q (wM cI a) (N, uZ Z 3 i v, E, G, T) n lv st) : XW p l e R s m args below meth c nL cells slots A D Q (wM cI a) (N, Z, E, G, T) pc lv (.int v :: .int (nI i) :: .ref (a 15) :: st) := hd_iast n C hK d hn 15 0 rfl rfl (vp_in_nI hi (by decide)) (by rw [nI_clamp (Nat.lt_trans hi (by decide)), upd_uZ]; rfl) k
theorem alm_sheet {i : Nat} (n : Nat) (C : xC p s m args meth c own cc nL ret) (hK : va_K D vwCl (ty4 cI cJ cD cS) s) (d : decode cc pc = .ok (.iaload, 1)) (hn : pc + 1 = n) (k0 i0 : Nat) (h0 : i = 60 * k0 + i0) (hk : k0 < 4) (hi : i0 < 60) (v : Int32) (hv : E k0 i0 = v) (k : XW p l e R s m args below meth c nL cells slots A D Q (wM cI a) (N, Z, E, G, T) n lv (.int v :: st)) : XW p l e R s m args below meth c nL cells slots A D Q (wM cI a) (N, Z, E, G, T) pc lv (.int (nI i) :: .ref (a 16) :: st) := hd_iald n C hK d hn 16 0 rfl rfl (vp_in_nI (by omega) (by decide)) v (by rw [nI_clamp (by omega)]; show E (i / 60) (i % 60) = v; rw [show i / 60 = k0 by omega, show i % 60 = i0 by omega]; exact hv) k
theorem asm_sheet {i : Nat} {v : Int32} (n : Nat) (C : xC p s m args meth c own cc nL ret) (hK : va_K D vwCl (ty4 cI cJ cD cS) s) (d : decode cc pc = .ok (.iastore, 1)) (hn : pc + 1 = n) (k0 i0 : Nat) (h0 : i = 60 * k0 + i0) (hk : k0 < 4) (hi : i0 < 60) (k : XW p l e R s m args below meth c nL cells slots A D Q (wM cI a) (N, Z, uZ E k0 i0 v, G, T) n lv st) : XW p l e R s m args below meth c nL cells slots A D Q (wM cI a) (N, Z, E, G, T) pc lv (.int v :: .int (nI i) :: .ref (a 16) :: st) := hd_iast n C hK d hn 16 0 rfl rfl (vp_in_nI (by omega) (by decide)) (by rw [nI_clamp (by omega), h0]; show (wM cI a (N, Z, E, G, T)).set 16 (a 16, .inl (cI, 240, .inl (upd (fun j => E (j / 60) (j % 60)) (60 * k0 + i0) v))) = _; rw [upd_uE _ _ _ hi]; rfl) k
theorem alm_hands {i : Nat} (n : Nat) (C : xC p s m args meth c own cc nL ret) (hK : va_K D vwCl (ty4 cI cJ cD cS) s) (d : decode cc pc = .ok (.iaload, 1)) (hn : pc + 1 = n) (hi : i < 60) (v : Int32) (hv : Z 27 i = v) (k : XW p l e R s m args below meth c nL cells slots A D Q (wM cI a) (N, Z, E, G, T) n lv (.int v :: st)) : XW p l e R s m args below meth c nL cells slots A D Q (wM cI a) (N, Z, E, G, T) pc lv (.int (nI i) :: .ref (a 17) :: st) := hd_iald n C hK d hn 17 0 rfl rfl (vp_in_nI hi (by decide)) v (by rw [nI_clamp (Nat.lt_trans hi (by decide))]; exact hv) k
theorem asm_hands {i : Nat} {v : Int32} (n : Nat) (C : xC p s m args meth c own cc nL ret) (hK : va_K D vwCl (ty4 cI cJ cD cS) s) (d : decode cc pc = .ok (.iastore, 1)) (hn : pc + 1 = n) (hi : i < 60) (k : XW p l e R s m args below meth c nL cells slots A D Q (wM cI a) (N, uZ Z 27 i v, E, G, T) n lv st) : XW p l e R s m args below meth c nL cells slots A D Q (wM cI a) (N, Z, E, G, T) pc lv (.int v :: .int (nI i) :: .ref (a 17) :: st) := hd_iast n C hK d hn 17 0 rfl rfl (vp_in_nI hi (by decide)) (by rw [nI_clamp (Nat.lt_trans hi (by decide)), upd_uZ]; rfl) k
theorem alx_readDoor {i : Nat} (n : Nat) (C : xC p s m args meth c own cc nL ret) (hK : va_K D vwCl (ty4 cI cJ cD cS) s) (d : decode cc pc = .ok (.iaload, 1)) (hn : pc + 1 = n) (hi : i < 8) (v : Int32) (hv : nI (N 5 i) = v) (k : XW p l e R s m args below meth c nL cells slots A D Q (wX cI cJ cD cS a) (N, Z, E, G, T) n lv (.int v :: st)) : XW p l e R s m args below meth c nL cells slots A D Q (wX cI cJ cD cS a) (N, Z, E, G, T) pc lv (.int (nI i) :: .ref (a 3) :: st) := hd_iald n C hK d hn 3 0 rfl rfl (vp_in_nI hi (by decide)) v (by rw [nI_clamp (Nat.lt_trans hi (by decide))]; exact hv) k
theorem asx_readDoor {i : Nat} {v : Nat} (n : Nat) (C : xC p s m args meth c own cc nL ret) (hK : va_K D vwCl (ty4 cI cJ cD cS) s) (d : decode cc pc = .ok (.iastore, 1)) (hn : pc + 1 = n) (hi : i < 8) (k : XW p l e R s m args below meth c nL cells slots A D Q (wX cI cJ cD cS a) (uN N 5 i v, Z, E, G, T) n lv st) : XW p l e R s m args below meth c nL cells slots A D Q (wX cI cJ cD cS a) (N, Z, E, G, T) pc lv (.int (nI v) :: .int (nI i) :: .ref (a 3) :: st) := hd_iast n C hK d hn 3 0 rfl rfl (vp_in_nI hi (by decide)) (by rw [nI_clamp (Nat.lt_trans hi (by decide)), upd_uN]; rfl) k
theorem alx_readHour {i : Nat} (n : Nat) (C : xC p s m args meth c own cc nL ret) (hK : va_K D vwCl (ty4 cI cJ cD cS) s) (d : decode cc pc = .ok (.iaload, 1)) (hn : pc + 1 = n) (hi : i < 8) (v : Int32) (hv : nI (N 6 i) = v) (k : XW p l e R s m args below meth c nL cells slots A D Q (wX cI cJ cD cS a) (N, Z, E, G, T) n lv (.int v :: st)) : XW p l e R s m args below meth c nL cells slots A D Q (wX cI cJ cD cS a) (N, Z, E, G, T) pc lv (.int (nI i) :: .ref (a 4) :: st) := hd_iald n C hK d hn 4 0 rfl rfl (vp_in_nI hi (by decide)) v (by rw [nI_clamp (Nat.lt_trans hi (by decide))]; exact hv) k
theorem asx_readHour {i : Nat} {v : Nat} (n : Nat) (C : xC p s m args meth c own cc nL ret) (hK : va_K D vwCl (ty4 cI cJ cD cS) s) (d : decode cc pc = .ok (.iastore, 1)) (hn : pc + 1 = n) (hi : i < 8) (k : XW p l e R s m args below meth c nL cells slots A D Q (wX cI cJ cD cS a) (uN N 6 i v, Z, E, G, T) n lv st) : XW p l e R s m args below meth c nL cells slots A D Q (wX cI cJ cD cS a) (N, Z, E, G, T) pc lv (.int (nI v) :: .int (nI i) :: .ref (a 4) :: st) := hd_iast n C hK d hn 4 0 rfl rfl (vp_in_nI hi (by decide)) (by rw [nI_clamp (Nat.lt_trans hi (by decide)), upd_uN]; rfl) k
theorem alx_readRoom {i : Nat} (n : Nat) (C : xC p s m args meth c own cc nL ret) (hK : va_K D vwCl (ty4 cI cJ cD cS) s) (d : decode cc pc = .ok (.iaload, 1)) (hn : pc + 1 = n) (hi : i < 8) (v : Int32) (hv : Z 1 i = v) (k : XW p l e R s m args below meth c nL cells slots A D Q (wX cI cJ cD cS a) (N, Z, E, G, T) n lv (.int v :: st)) : XW p l e R s m args below meth c nL cells slots A D Q (wX cI cJ cD cS a) (N, Z, E, G, T) pc lv (.int (nI i) :: .ref (a 5) :: st) := hd_iald n C hK d hn 5 0 rfl rfl (vp_in_nI hi (by decide)) v (by rw [nI_clamp (Nat.lt_trans hi (by decide))]; exact hv) k
theorem asx_readRoom {i : Nat} {v : Int32} (n : Nat) (C : xC p s m args meth c own cc nL ret) (hK : va_K D vwCl (ty4 cI cJ cD cS) s) (d : decode cc pc = .ok (.iastore, 1)) (hn : pc + 1 = n) (hi : i < 8) (k : XW p l e R s m args below meth c nL cells slots A D Q (wX cI cJ cD cS a) (N, uZ Z 1 i v, E, G, T) n lv st) : XW p l e R s m args below meth c nL cells slots A D Q (wX cI cJ cD cS a) (N, Z, E, G, T) pc lv (.int v :: .int (nI i) :: .ref (a 5) :: st) := hd_iast n C hK d hn 5 0 rfl rfl (vp_in_nI hi (by decide)) (by rw [nI_clamp (Nat.lt_trans hi (by decide)), upd_uZ]; rfl) k
theorem alx_hopeful {i : Nat} (n : Nat) (C : xC p s m args meth c own cc nL ret) (hK : va_K D vwCl (ty4 cI cJ cD cS) s) (d : decode cc pc = .ok (.iaload, 1)) (hn : pc + 1 = n) (hi : i < 25) (v : Int32) (hv : Z 28 i = v) (k : XW p l e R s m args below meth c nL cells slots A D Q (wX cI cJ cD cS a) (N, Z, E, G, T) n lv (.int v :: st)) : XW p l e R s m args below meth c nL cells slots A D Q (wX cI cJ cD cS a) (N, Z, E, G, T) pc lv (.int (nI i) :: .ref (a 7) :: st) := hd_iald n C hK d hn 7 0 rfl rfl (vp_in_nI hi (by decide)) v (by rw [nI_clamp (Nat.lt_trans hi (by decide))]; exact hv) k
theorem asx_hopeful {i : Nat} {v : Int32} (n : Nat) (C : xC p s m args meth c own cc nL ret) (hK : va_K D vwCl (ty4 cI cJ cD cS) s) (d : decode cc pc = .ok (.iastore, 1)) (hn : pc + 1 = n) (hi : i < 25) (k : XW p l e R s m args below meth c nL cells slots A D Q (wX cI cJ cD cS a) (N, uZ Z 28 i v, E, G, T) n lv st) : XW p l e R s m args below meth c nL cells slots A D Q (wX cI cJ cD cS a) (N, Z, E, G, T) pc lv (.int v :: .int (nI i) :: .ref (a 7) :: st) := hd_iast n C hK d hn 7 0 rfl rfl (vp_in_nI hi (by decide)) (by rw [nI_clamp (Nat.lt_trans hi (by decide)), upd_uZ]; rfl) k
theorem alx_seen {i : Nat} (n : Nat) (C : xC p s m args meth c own cc nL ret) (hK : va_K D vwCl (ty4 cI cJ cD cS) s) (d : decode cc pc = .ok (.laload, 1)) (hn : pc + 1 = n) (hi : i < 6) (v : Int64) (hv : G 0 i = v) (k : XW p l e R s m args below meth c nL cells slots A D Q (wX cI cJ cD cS a) (N, Z, E, G, T) n lv (.long v :: st)) : XW p l e R s m args below meth c nL cells slots A D Q (wX cI cJ cD cS a) (N, Z, E, G, T) pc lv (.int (nI i) :: .ref (a 8) :: st) := hd_lald n C hK d hn 8 1 rfl rfl (vp_in_nI hi (by decide)) v (by rw [nI_clamp (Nat.lt_trans hi (by decide))]; exact hv) k
theorem asx_seen {i : Nat} {v : Int64} (n : Nat) (C : xC p s m args meth c own cc nL ret) (hK : va_K D vwCl (ty4 cI cJ cD cS) s) (d : decode cc pc = .ok (.lastore, 1)) (hn : pc + 1 = n) (hi : i < 6) (k : XW p l e R s m args below meth c nL cells slots A D Q (wX cI cJ cD cS a) (N, Z, E, uG G 0 i v, T) n lv st) : XW p l e R s m args below meth c nL cells slots A D Q (wX cI cJ cD cS a) (N, Z, E, G, T) pc lv (.long v :: .int (nI i) :: .ref (a 8) :: st) := hd_last n C hK d hn 8 1 rfl rfl (vp_in_nI hi (by decide)) (by rw [nI_clamp (Nat.lt_trans hi (by decide)), upd_uG]; rfl) k
theorem alx_seenNext {i : Nat} (n : Nat) (C : xC p s m args meth c own cc nL ret) (hK : va_K D vwCl (ty4 cI cJ cD cS) s) (d : decode cc pc = .ok (.laload, 1)) (hn : pc + 1 = n) (hi : i < 6) (v : Int64) (hv : G 1 i = v) (k : XW p l e R s m args below meth c nL cells slots A D Q (wX cI cJ cD cS a) (N, Z, E, G, T) n lv (.long v :: st)) : XW p l e R s m args below meth c nL cells slots A D Q (wX cI cJ cD cS a) (N, Z, E, G, T) pc lv (.int (nI i) :: .ref (a 9) :: st) := hd_lald n C hK d hn 9 1 rfl rfl (vp_in_nI hi (by decide)) v (by rw [nI_clamp (Nat.lt_trans hi (by decide))]; exact hv) k
theorem asx_seenNext {i : Nat} {v : Int64} (n : Nat) (C : xC p s m args meth c own cc nL ret) (hK : va_K D vwCl (ty4 cI cJ cD cS) s) (d : decode cc pc = .ok (.lastore, 1)) (hn : pc + 1 = n) (hi : i < 6) (k : XW p l e R s m args below meth c nL cells slots A D Q (wX cI cJ cD cS a) (N, Z, E, uG G 1 i v, T) n lv st) : XW p l e R s m args below meth c nL cells slots A D Q (wX cI cJ cD cS a) (N, Z, E, G, T) pc lv (.long v :: .int (nI i) :: .ref (a 9) :: st) := hd_last n C hK d hn 9 1 rfl rfl (vp_in_nI hi (by decide)) (by rw [nI_clamp (Nat.lt_trans hi (by decide)), upd_uG]; rfl) k
theorem alx_doors {i : Nat} (n : Nat) (C : xC p s m args meth c own cc nL ret) (hK : va_K D vwCl (ty4 cI cJ cD cS) s) (d : decode cc pc = .ok (.aaload, 1)) (hn : pc + 1 = n) (hi : i < 8) (k : XW p l e R s m args below meth c nL cells slots A D Q (wX cI cJ cD cS a) (N, Z, E, G, T) n lv (.ref (a (20 + i)) :: st)) : XW p l e R s m args below meth c nL cells slots A D Q (wX cI cJ cD cS a) (N, Z, E, G, T) pc lv (.int (nI i) :: .ref (a 1) :: st) := hd_aald n C hK d hn 1 2 rfl rfl (vp_in_nI hi (by decide)) (by rw [nI_clamp (Nat.lt_trans hi (by decide))]) k
theorem alx_sheets {i : Nat} (n : Nat) (C : xC p s m args meth c own cc nL ret) (hK : va_K D vwCl (ty4 cI cJ cD cS) s) (d : decode cc pc = .ok (.aaload, 1)) (hn : pc + 1 = n) (hi : i < 4) (k : XW p l e R s m args below meth c nL cells slots A D Q (wX cI cJ cD cS a) (N, Z, E, G, T) n lv (.ref (a (30 + i)) :: st)) : XW p l e R s m args below meth c nL cells slots A D Q (wX cI cJ cD cS a) (N, Z, E, G, T) pc lv (.int (nI i) :: .ref (a 6) :: st) := hd_aald n C hK d hn 6 3 rfl rfl (vp_in_nI hi (by decide)) (by rw [nI_clamp (Nat.lt_trans hi (by decide))]) k
theorem alx_cells {i k0 : Nat} (hk : k0 < 4) (n : Nat) (C : xC p s m args meth c own cc nL ret) (hK : va_K D vwCl (ty4 cI cJ cD cS) s) (d : decode cc pc = .ok (.iaload, 1)) (hn : pc + 1 = n) (hi : i < 60) (v : Int32) (hv : E k0 i = v) (k : XW p l e R s m args below meth c nL cells slots A D Q (wX cI cJ cD cS a) (N, Z, E, G, T) n lv (.int v :: st)) : XW p l e R s m args below meth c nL cells slots A D Q (wX cI cJ cD cS a) (N, Z, E, G, T) pc lv (.int (nI i) :: .ref (a (40 + k0)) :: st) := hd_iald n C hK d hn (22 + k0) 0 (wX_cells k0 hk) rfl (vp_in_nI hi (by decide)) v (by rw [nI_clamp (Nat.lt_trans hi (by decide))]; exact hv) k
theorem rZ_upd (f : Nat → Nat → Int32) (r i : Nat) (v : Int32) : rZ f r (upd (f r) i v) = uZ f r i v := by
  funext r' j; by_cases h : r' = r
  · subst h; by_cases h2 : j = i <;> simp [rZ, upd, uZ, h2]
  · simp [rZ, uZ, h]
theorem asx_cells {i k0 : Nat} {v : Int32} (hk : k0 < 4) (n : Nat) (C : xC p s m args meth c own cc nL ret) (hK : va_K D vwCl (ty4 cI cJ cD cS) s) (d : decode cc pc = .ok (.iastore, 1)) (hn : pc + 1 = n) (hi : i < 60) (k : XW p l e R s m args below meth c nL cells slots A D Q (wX cI cJ cD cS a) (N, Z, uZ E k0 i v, G, T) n lv st) : XW p l e R s m args below meth c nL cells slots A D Q (wX cI cJ cD cS a) (N, Z, E, G, T) pc lv (.int v :: .int (nI i) :: .ref (a (40 + k0)) :: st) := hd_iast n C hK d hn (22 + k0) 0 (wX_cells k0 hk) rfl (vp_in_nI hi (by decide)) (by rw [nI_clamp (Nat.lt_trans hi (by decide)), wX_pc k0 _ hk, rZ_upd]) k
end HDW
end
section
/-! plain facts on numbers and arrays, to paste: each family by itself; over the kit's rows on nI and upd -/
/-! ===== order of ints, in all its forms, and through longs ===== -/
theorem fa_lt (a b : Int32) : a < b ↔ a.toInt < b.toInt := Int32.lt_iff_toInt_lt
theorem fa_le (a b : Int32) : a ≤ b ↔ a.toInt ≤ b.toInt := Int32.le_iff_toInt_le
theorem fa_eq (a b : Int32) : a = b ↔ a.toInt = b.toInt := Int32.toInt_inj.symm
theorem fa_lt64 (a b : Int64) : a < b ↔ a.toInt < b.toInt := Int64.lt_iff_toInt_lt
theorem fa_le64 (a b : Int64) : a ≤ b ↔ a.toInt ≤ b.toInt := Int64.le_iff_toInt_le
theorem fa_eq64 (a b : Int64) : a = b ↔ a.toInt = b.toInt := Int64.toInt_inj.symm
/-- a comparison of two ints taken as longs -/
theorem fa_wide_lt (a b : Int32) : a.toInt64 < b.toInt64 ↔ a < b := by rw [fa_lt64, fa_lt, Int32.toInt_toInt64, Int32.toInt_toInt64]
theorem fa_wide_le (a b : Int32) : a.toInt64 ≤ b.toInt64 ↔ a ≤ b := by rw [fa_le64, fa_le, Int32.toInt_toInt64, Int32.toInt_toInt64]
theorem fa_wide_eq (a b : Int32) : a.toInt64 = b.toInt64 ↔ a = b := by rw [fa_eq64, fa_eq, Int32.toInt_toInt64, Int32.toInt_toInt64]
/-- one strict comparison gives all the others -/
theorem fa_of_lt {a b : Int32} (h : a < b) : a ≤ b ∧ ¬ b ≤ a ∧ ¬ b < a ∧ a ≠ b ∧ b ≠ a := by
  rw [fa_lt] at h
  refine ⟨?_, ?_, ?_, ?_, ?_⟩
  · rw [fa_le]; omega
  · rw [fa_le]; omega
  · rw [fa_lt]; omega
  · intro e; rw [fa_eq] at e; omega
  · intro e; rw [fa_eq] at e; omega
theorem fa_of_nlt {a b : Int32} (h : ¬ a < b) : b ≤ a := by
  rw [fa_lt] at h
  rw [fa_le]
  omega
theorem fa_of_nle {a b : Int32} (h : ¬ a ≤ b) : b < a := by
  rw [fa_le] at h
  rw [fa_lt]
  omega
theorem fa_le_ne {a b : Int32} (h : a ≤ b) (h2 : a ≠ b) : a < b := by
  rw [fa_le] at h
  rw [fa_lt]
  have h3 : a.toInt ≠ b.toInt := fun e => h2 ((fa_eq a b).mpr e)
  omega
theorem fa_three (a b : Int32) : a < b ∨ a = b ∨ b < a := by
  rw [fa_lt, fa_lt, fa_eq]
  omega
theorem fa_trans {a b c : Int32} (h : a < b) (h2 : b ≤ c) : a < c := by
  rw [fa_lt] at *
  rw [fa_le] at h2
  omega
/-! ===== small literals as numbers ===== -/
theorem fa_lit (n : Nat) : (OfNat.ofNat n : Int32) = nI n := rfl
theorem fa_litL (n : Nat) : (OfNat.ofNat n : Int64) = lN n := rfl
/-! ===== bits of a number: 'or', masks, one bit ===== -/
theorem fa_and (a b : Nat) : nI a &&& nI b = nI (a &&& b) := by
  apply Int32.toBitVec_inj.1
  show BitVec.ofNat 32 a &&& BitVec.ofNat 32 b = BitVec.ofNat 32 (a &&& b)
  apply BitVec.eq_of_getLsbD_eq
  intro i hi
  simp [hi]
theorem fa_or (a b : Nat) : nI a ||| nI b = nI (a ||| b) := by
  apply Int32.toBitVec_inj.1
  show BitVec.ofNat 32 a ||| BitVec.ofNat 32 b = BitVec.ofNat 32 (a ||| b)
  apply BitVec.eq_of_getLsbD_eq
  intro i hi
  simp [hi]
/-- a remainder by a power of two, as a mask -/
theorem fa_mask (n k : Nat) : nI n &&& nI (2 ^ k - 1) = nI (n % 2 ^ k) := by rw [fa_and, Nat.and_two_pow_sub_one_eq_mod]
/-- 'or' of a high part and a low one that don't meet is their sum -/
theorem fa_or_sum {a k : Nat} (b : Nat) (h : a < 2 ^ k) : nI (2 ^ k * b) ||| nI a = nI (2 ^ k * b + a) := by rw [fa_or, Nat.two_pow_add_eq_or_of_lt h]
/-- one bit, by 'and' with a power of two -/
theorem fa_bit {n j : Nat} (hj : j < 31) : nI n &&& nI (2 ^ j) = 0 ↔ n.testBit j = false := by
  have h2 : (2 : Nat) ^ j < 2 ^ 31 := Nat.pow_lt_pow_right (by decide) hj
  have hle : n &&& 2 ^ j ≤ 2 ^ j := Nat.and_le_right
  have e : n &&& 2 ^ j = 0 ↔ n.testBit j = false := by
    constructor
    · intro h
      have h1 : (n &&& 2 ^ j).testBit j = false := by rw [h]; simp
      rw [Nat.testBit_and] at h1
      first | simpa using h1 | simpa [Nat.testBit_two_pow_self] using h1 | simpa [Nat.testBit_two_pow] using h1
    · intro h
      apply Nat.eq_of_testBit_eq
      intro i
      rw [Nat.testBit_and]
      by_cases hi : j = i
      · subst hi; simp [h]
      · first | (simp [Nat.testBit_two_pow, hi]; done) | (simp [Nat.testBit_two_pow_of_ne hi]; done)
  rw [fa_and]
  constructor
  · intro h
    apply e.mp
    rcases Nat.eq_zero_or_pos (n &&& 2 ^ j) with z | z
    · exact z
    · exact absurd h (nI_ne0 z (Nat.lt_of_le_of_lt hle h2))
  · intro h
    rw [e.mpr h]; exact nI_0
/-- a remainder by a power of two of a number that isn't negative, as Java divides -/
theorem fa_rem {a k : Nat} (ha : a < 2 ^ 31) (hk : k < 31) : nI a - nI a / nI (2 ^ k) * nI (2 ^ k) = nI (a % 2 ^ k) := pk_rem ha (Nat.two_pow_pos k) (Nat.pow_lt_pow_right (by decide) hk)
/-! ===== cuts to a byte, a short ===== -/
theorem fa_byte_xor (x y : Int32) : (x ^^^ y).toInt8 = x.toInt8 ^^^ y.toInt8 := by
  apply Int8.toBitVec_inj.1
  apply BitVec.eq_of_getLsbD_eq
  intro i hi
  first | (simp [hi]; done) | (simp [hi, BitVec.getLsbD_setWidth, BitVec.getLsbD_signExtend]; done)
theorem fa_short_xor (x y : Int32) : (x ^^^ y).toInt16 = x.toInt16 ^^^ y.toInt16 := by
  apply Int16.toBitVec_inj.1
  apply BitVec.eq_of_getLsbD_eq
  intro i hi
  first | (simp [hi]; done) | (simp [hi, BitVec.getLsbD_setWidth, BitVec.getLsbD_signExtend]; done)
/-- the cut to a byte sees the low byte alone -/
theorem fa_byte_low (x : Int32) : (x &&& 255).toInt8 = x.toInt8 := by
  apply Int8.toBitVec_inj.1
  apply BitVec.eq_of_getLsbD_eq
  intro i hi
  have h2 : (255 : Int32).toBitVec.getLsbD i = true := by
    have : ∀ j : Fin 8, (255 : Int32).toBitVec.getLsbD j.val = true := by decide +kernel
    exact this ⟨i, hi⟩
  have h4 : (x &&& 255).toBitVec.getLsbD i = x.toBitVec.getLsbD i := by
    show (x.toBitVec &&& (255 : Int32).toBitVec).getLsbD i = _
    rw [BitVec.getLsbD_and, h2, Bool.and_true]
  have h3 : i < 32 := by omega
  first
    | (show (((x &&& 255).toBitVec).signExtend 8).getLsbD i = (x.toBitVec.signExtend 8).getLsbD i; rw [BitVec.getLsbD_signExtend, BitVec.getLsbD_signExtend, if_pos h3, if_pos h3, h4])
    | (show (((x &&& 255).toBitVec).setWidth 8).getLsbD i = (x.toBitVec.setWidth 8).getLsbD i; rw [BitVec.getLsbD_setWidth, BitVec.getLsbD_setWidth, h4])
    | (simp [hi, h3, h4]; done)
theorem fa_short_low (x : Int32) : (x &&& 65535).toInt16 = x.toInt16 := by
  apply Int16.toBitVec_inj.1
  apply BitVec.eq_of_getLsbD_eq
  intro i hi
  have h2 : (65535 : Int32).toBitVec.getLsbD i = true := by
    have : ∀ j : Fin 16, (65535 : Int32).toBitVec.getLsbD j.val = true := by decide +kernel
    exact this ⟨i, hi⟩
  have h4 : (x &&& 65535).toBitVec.getLsbD i = x.toBitVec.getLsbD i := by
    show (x.toBitVec &&& (65535 : Int32).toBitVec).getLsbD i = _
    rw [BitVec.getLsbD_and, h2, Bool.and_true]
  have h3 : i < 32 := by omega
  first
    | (show (((x &&& 65535).toBitVec).signExtend 16).getLsbD i = (x.toBitVec.signExtend 16).getLsbD i; rw [BitVec.getLsbD_signExtend, BitVec.getLsbD_signExtend, if_pos h3, if_pos h3, h4])
    | (show (((x &&& 65535).toBitVec).setWidth 16).getLsbD i = (x.toBitVec.setWidth 16).getLsbD i; rw [BitVec.getLsbD_setWidth, BitVec.getLsbD_setWidth, h4])
    | (simp [hi, h3, h4]; done)
/-- a small number is its own byte, its own short -/
theorem fa_byte_small {n : Nat} (h : n < 128) : (nI n).toInt8.toInt32 = nI n := by
  have : ∀ j : Fin 128, (nI j.val).toInt8.toInt32 = nI j.val := by decide +kernel
  exact this ⟨n, h⟩
/-! ===== absolute difference ===== -/
theorem fa_absdiff {a b : Nat} (ha : a < 2 ^ 31) (hb : b < 2 ^ 31) : (if nI a < nI b then nI b - nI a else nI a - nI b) = nI (if a < b then b - a else a - b) := by
  by_cases h : a < b
  · rw [if_pos (nI_lt h hb), if_pos h]
    exact pk_sub (Nat.le_of_lt h)
  · rw [if_neg (nI_nlt (Nat.le_of_not_lt h) ha), if_neg h]
    exact pk_sub (Nat.le_of_not_lt h)
/-! ===== an array behind i stores, a conditional store, a row copied ===== -/
/-- f where k < i, what stood there else -/
def fa_fill {α : Type} (f g : Nat → α) (i : Nat) : Nat → α := fun k => if k < i then f k else g k
theorem fa_fill_0 {α : Type} (f g : Nat → α) : fa_fill f g 0 = g := funext fun k => if_neg (Nat.not_lt_zero k)
theorem fa_fill_in {α : Type} {f g : Nat → α} {i k : Nat} (h : k < i) : fa_fill f g i k = f k := if_pos h
theorem fa_fill_out {α : Type} {f g : Nat → α} {i k : Nat} (h : i ≤ k) : fa_fill f g i k = g k := if_neg (Nat.not_lt.mpr h)
theorem fa_fill_succ (f g : Nat → Int32) (i : Nat) : upd (fa_fill f g i) i (f i) = fa_fill f g (i + 1) := by
  funext k
  by_cases e : k = i
  · subst e
    rw [pk_us]
    exact (if_pos (Nat.lt_succ_self k)).symm
  · rw [pk_un e]
    by_cases h : k < i
    · rw [fa_fill_in h, fa_fill_in (Nat.lt_succ_of_lt h)]
    · rw [fa_fill_out (Nat.le_of_not_lt h), fa_fill_out (by omega)]
/-- a store that changes nothing -/
theorem fa_upd_same {f : Nat → Int32} {i : Nat} {x : Int32} (h : f i = x) : upd f i x = f := by
  funext k
  by_cases e : k = i
  · subst e
    rw [pk_us, h]
  · rw [pk_un e]
/-- a store under a condition, told as one -/
theorem fa_upd_if (c : Prop) [Decidable c] (f : Nat → Int32) (i : Nat) (x : Int32) : (if c then upd f i x else f) = upd f i (if c then x else f i) := by
  by_cases h : c
  · rw [if_pos h, if_pos h]
  · rw [if_neg h, if_neg h, fa_upd_same rfl]
/-- two stores at one place, at two -/
theorem fa_upd_twice (f : Nat → Int32) (i : Nat) (x y : Int32) : upd (upd f i x) i y = upd f i y := by
  funext k
  by_cases e : k = i
  · subst e
    rw [pk_us, pk_us]
  · rw [pk_un e, pk_un e, pk_un e]
theorem fa_upd_swap (f : Nat → Int32) {i j : Nat} (h : i ≠ j) (x y : Int32) : upd (upd f i x) j y = upd (upd f j y) i x := by
  funext k
  by_cases e : k = i
  · subst e
    rw [pk_un h, pk_us, pk_us]
  · by_cases e2 : k = j
    · subst e2
      rw [pk_us, pk_un e, pk_us]
    · rw [pk_un e2, pk_un e, pk_un e, pk_un e2]
/-! ===== the first index with a property; a count ===== -/
/-- the first k < n with p k, n if there is none -/
def fa_first (p : Nat → Bool) : Nat → Nat
  | 0 => 0
  | n + 1 => if fa_first p n < n then fa_first p n else if p n then n else n + 1
theorem fa_first_le (p : Nat → Bool) : ∀ n, fa_first p n ≤ n
  | 0 => Nat.le_refl 0
  | n + 1 => by
    have ih := fa_first_le p n
    unfold fa_first
    split
    · omega
    · split
      · omega
      · omega
theorem fa_first_no (p : Nat → Bool) : ∀ n k, k < fa_first p n → p k = false
  | 0, k, h => absurd h (Nat.not_lt_zero k)
  | n + 1, k, h => by
    have ih := fa_first_no p n
    have hl := fa_first_le p n
    unfold fa_first at h
    split at h
    · exact ih k h
    · rename_i h1
      split at h
      · exact ih k (by omega)
      · rename_i h2
        by_cases e : k = n
        · subst e
          exact Bool.eq_false_iff.mpr h2
        · exact ih k (by omega)
theorem fa_first_yes (p : Nat → Bool) : ∀ n, fa_first p n < n → p (fa_first p n) = true
  | 0, h => absurd h (Nat.not_lt_zero _)
  | n + 1, h => by
    have ih := fa_first_yes p n
    have hl := fa_first_le p n
    unfold fa_first at h ⊢
    split at h
    · rename_i h1
      rw [if_pos h1]
      exact ih h1
    · rename_i h1
      rw [if_neg h1]
      split at h
      · rename_i h2
        rw [if_pos h2]
        exact h2
      · omega
/-- how many k < n have p k -/
def fa_cnt (p : Nat → Bool) : Nat → Nat
  | 0 => 0
  | n + 1 => fa_cnt p n + if p n then 1 else 0
theorem fa_cnt_le (p : Nat → Bool) : ∀ n, fa_cnt p n ≤ n
  | 0 => Nat.le_refl 0
  | n + 1 => by
    have ih := fa_cnt_le p n
    unfold fa_cnt
    split
    · omega
    · omega
theorem fa_cnt_yes {p : Nat → Bool} {n : Nat} (h : p n = true) : fa_cnt p (n + 1) = fa_cnt p n + 1 := by rw [fa_cnt, if_pos h]
theorem fa_cnt_no {p : Nat → Bool} {n : Nat} (h : p n = false) : fa_cnt p (n + 1) = fa_cnt p n := by rw [fa_cnt, if_neg (by rw [h]; decide)]; rfl
theorem fa_cnt_cong {p q : Nat → Bool} : ∀ {n : Nat}, (∀ k, k < n → p k = q k) → fa_cnt p n = fa_cnt q n
  | 0, _ => rfl
  | n + 1, h => by rw [fa_cnt, fa_cnt, fa_cnt_cong (fun k hk => h k (Nat.lt_succ_of_lt hk)), h n (Nat.lt_succ_self n)]
/-! ===== an answer carried into a post; a branch on a boolean answer ===== -/
theorem fa_post {α : Type} {P : α → Prop} {x y : α} (h : x = y) (hp : P y) : P x := h ▸ hp
theorem fa_post2 {α β : Type} {P : α → β → Prop} {x y : α} {u v : β} (h : x = y) (h2 : u = v) (hp : P y v) : P x u := h ▸ h2 ▸ hp
theorem fa_bool {r : Int32} {b : Bool} (h : r = if b then 1 else 0) : (r = 0 ↔ b = false) ∧ (¬ r = 0 ↔ b = true) := by
  subst h
  cases b
  · exact ⟨⟨fun _ => rfl, fun _ => rfl⟩, ⟨fun h => absurd rfl h, fun h => absurd h (by decide)⟩⟩
  · exact ⟨⟨fun h => absurd h (by decide), fun h => absurd h (by decide)⟩, ⟨fun _ => rfl, fun _ => by decide⟩⟩
/-- a boolean's narrowing changes nothing -/
theorem fa_bool_and {r : Int32} (h : r = 0 ∨ r = 1) : r &&& 1 = r := by
  rcases h with rfl | rfl
  · decide
  · decide
theorem fa_bool_prop {c : Prop} [Decidable c] {r : Int32} (h : r = if c then 1 else 0) : (r = 0 ↔ ¬ c) ∧ (¬ r = 0 ↔ c) := by
  subst h
  by_cases hc : c
  · rw [if_pos hc]
    exact ⟨⟨fun h => absurd h (by decide), fun h => absurd hc h⟩, ⟨fun _ => hc, fun _ => by decide⟩⟩
  · rw [if_neg hc]
    exact ⟨⟨fun _ => hc, fun _ => rfl⟩, ⟨fun h => absurd rfl h, fun h => absurd h hc⟩⟩
end
section
/-! plain facts to paste, each family by itself; over the kit's nI, lN and upd -/
/-! ===== drawers: more things than places ===== -/
theorem fb_holes : ∀ (m n : Nat) (f : Nat → Nat), (∀ i, i < n → f i < m) → (∀ i j, i < j → j < n → f i ≠ f j) → n ≤ m := by
  intro m
  induction m with
  | zero =>
    intro n f h1 _
    rcases Nat.eq_zero_or_pos n with h | h
    · omega
    · exact absurd (h1 0 h) (Nat.not_lt_zero _)
  | succ m ih =>
    intro n f h1 h2
    by_cases hx : ∃ i, i < n ∧ f i = m
    · obtain ⟨a, ha, hfa⟩ := hx
      have hg := ih (n - 1) (fun i => if i < a then f i else f (i + 1)) (by
        intro i hi
        by_cases q : i < a
        · simp only [if_pos q]
          have b1 := h1 i (by omega)
          have b2 := h2 i a q ha
          omega
        · simp only [if_neg q]
          have b1 := h1 (i + 1) (by omega)
          have b2 := h2 a (i + 1) (by omega) (by omega)
          omega) (by
        intro i j hij hj
        by_cases q : i < a
        · by_cases r : j < a
          · simp only [if_pos q, if_pos r]
            exact h2 i j hij (by omega)
          · simp only [if_pos q, if_neg r]
            exact h2 i (j + 1) (by omega) (by omega)
        · have r : ¬ j < a := by omega
          simp only [if_neg q, if_neg r]
          exact h2 (i + 1) (j + 1) (by omega) (by omega))
      omega
    · have hg := ih n f (fun i hi => by
        have b1 := h1 i hi
        have b2 : f i ≠ m := fun e => hx ⟨i, hi, e⟩
        omega) h2
      omega
/-- two of them in one place -/
theorem fb_twice {m n : Nat} {f : Nat → Nat} (h : ∀ i, i < n → f i < m) (hm : m < n) : ∃ i j, i < j ∧ j < n ∧ f i = f j := by
  refine Classical.byContradiction fun hx => ?_
  have := fb_holes m n f h (fun i j hij hj e => hx ⟨i, j, hij, hj, e⟩)
  omega
/-- as many as places, none twice: each place is taken -/
theorem fb_onto {n : Nat} {f : Nat → Nat} (h : ∀ i, i < n → f i < n) (h2 : ∀ i j, i < j → j < n → f i ≠ f j) {y : Nat} (hy : y < n) : ∃ i, i < n ∧ f i = y := by
  refine Classical.byContradiction fun hx => ?_
  have hne : ∀ i, i < n → f i ≠ y := fun i hi e => hx ⟨i, hi, e⟩
  have := fb_holes (n - 1) n (fun i => if f i < y then f i else f i - 1) (by
    intro i hi
    have b1 := h i hi
    have b2 := hne i hi
    by_cases q : f i < y
    · simp only [if_pos q]; omega
    · simp only [if_neg q]; omega) (by
    intro i j hij hj
    have b1 := hne i (by omega)
    have b2 := hne j hj
    have b3 := h2 i j hij hj
    by_cases q : f i < y
    · by_cases r : f j < y
      · simp only [if_pos q, if_pos r]; exact b3
      · simp only [if_pos q, if_neg r]; omega
    · by_cases r : f j < y
      · simp only [if_neg q, if_pos r]; omega
      · simp only [if_neg q, if_neg r]; omega)
  omega
/-! ===== how many places have a property ===== -/
def fb_ct (p : Nat → Bool) : Nat → Nat
  | 0 => 0
  | n + 1 => fb_ct p n + (if p n then 1 else 0)
theorem fb_ct_succ (p : Nat → Bool) (n : Nat) : fb_ct p (n + 1) = fb_ct p n + (if p n then 1 else 0) := rfl
theorem fb_ct_le (p : Nat → Bool) : ∀ n, fb_ct p n ≤ n
  | 0 => Nat.le_refl _
  | n + 1 => by
    have h := fb_ct_le p n
    rw [fb_ct_succ]
    split <;> omega
theorem fb_ct_step (p : Nat → Bool) (m : Nat) : ∀ n, fb_ct p m ≤ fb_ct p (m + n)
  | 0 => Nat.le_refl _
  | n + 1 => by
    have h := fb_ct_step p m n
    show fb_ct p m ≤ fb_ct p (m + n + 1)
    rw [fb_ct_succ]
    omega
theorem fb_ct_mono (p : Nat → Bool) {m n : Nat} (h : m ≤ n) : fb_ct p m ≤ fb_ct p n := by
  have := fb_ct_step p m (n - m)
  rwa [Nat.add_sub_cancel' h] at this
theorem fb_ct_cong {p q : Nat → Bool} : ∀ {n : Nat}, (∀ k, k < n → p k = q k) → fb_ct p n = fb_ct q n
  | 0, _ => rfl
  | n + 1, h => by
    rw [fb_ct_succ, fb_ct_succ, fb_ct_cong (fun k hk => h k (by omega)), h n (by omega)]
/-- one place changed -/
theorem fb_ct_out (p : Nat → Bool) (b : Bool) {i n : Nat} (h : n ≤ i) : fb_ct (fun k => if k = i then b else p k) n = fb_ct p n :=
  fb_ct_cong fun k hk => if_neg (by omega)
theorem fb_ct_upd (p : Nat → Bool) (b : Bool) {i : Nat} : ∀ {n : Nat}, i < n → fb_ct (fun k => if k = i then b else p k) n + (if p i then 1 else 0) = fb_ct p n + (if b then 1 else 0)
  | 0, h => absurd h (Nat.not_lt_zero i)
  | n + 1, h => by
    rw [fb_ct_succ, fb_ct_succ]
    rcases Nat.lt_or_ge i n with q | q
    · have := fb_ct_upd p b q
      have e : (if n = i then b else p n) = p n := if_neg (by omega)
      rw [e]
      omega
    · have e : i = n := by omega
      subst e
      rw [fb_ct_out p b (Nat.le_refl _)]
      simp only [if_true]
      omega
theorem fb_ct_sub {p q : Nat → Bool} : ∀ {n : Nat}, (∀ k, k < n → p k = true → q k = true) → fb_ct p n ≤ fb_ct q n
  | 0, _ => Nat.le_refl _
  | n + 1, h => by
    have h1 := fb_ct_sub (n := n) (p := p) (q := q) (fun k hk => h k (by omega))
    have h2 := h n (by omega)
    rw [fb_ct_succ, fb_ct_succ]
    cases hp : p n <;> cases hq : q n <;> simp_all <;> omega
theorem fb_ct_or {p q : Nat → Bool} : ∀ {n : Nat}, (∀ k, k < n → ¬ (p k = true ∧ q k = true)) → fb_ct (fun k => p k || q k) n = fb_ct p n + fb_ct q n
  | 0, _ => rfl
  | n + 1, h => by
    have h1 := fb_ct_or (n := n) (p := p) (q := q) (fun k hk => h k (by omega))
    have h2 := h n (by omega)
    rw [fb_ct_succ, fb_ct_succ, fb_ct_succ, h1]
    cases hp : p n <;> cases hq : q n <;> simp_all <;> omega
theorem fb_ct_not (p : Nat → Bool) : ∀ n, fb_ct p n + fb_ct (fun k => !p k) n = n
  | 0 => rfl
  | n + 1 => by
    have h := fb_ct_not p n
    rw [fb_ct_succ, fb_ct_succ]
    cases p n <;> simp <;> omega
theorem fb_ct_split (p : Nat → Bool) (m : Nat) : ∀ n, fb_ct p (m + n) = fb_ct p m + fb_ct (fun k => p (m + k)) n
  | 0 => rfl
  | n + 1 => by
    have h := fb_ct_split p m n
    show fb_ct p (m + n + 1) = _
    rw [fb_ct_succ, fb_ct_succ, h, Nat.add_assoc]
theorem fb_ct_zero {p : Nat → Bool} : ∀ {n : Nat}, fb_ct p n = 0 ↔ ∀ k, k < n → p k = false
  | 0 => ⟨fun _ k hk => absurd hk (Nat.not_lt_zero k), fun _ => rfl⟩
  | n + 1 => by
    have h := fb_ct_zero (p := p) (n := n)
    rw [fb_ct_succ]
    constructor
    · intro e k hk
      have e1 : fb_ct p n = 0 := by omega
      rcases Nat.lt_or_ge k n with q | q
      · exact h.mp e1 k q
      · have ek : k = n := by omega
        subst ek
        cases hp : p k
        · rfl
        · simp [hp] at e
    · intro a
      rw [h.mpr (fun k hk => a k (by omega)), a n (by omega)]
      rfl
theorem fb_ct_pos {p : Nat → Bool} {n : Nat} : 0 < fb_ct p n ↔ ∃ k, k < n ∧ p k = true := by
  constructor
  · intro h
    refine Classical.byContradiction fun hx => ?_
    have := fb_ct_zero.mpr (fun k hk => by
      cases hp : p k
      · rfl
      · exact absurd ⟨k, hk, hp⟩ hx : ∀ k, k < n → p k = false)
    omega
  · rintro ⟨k, hk, hp⟩
    rcases Nat.eq_zero_or_pos (fb_ct p n) with e | e
    · have := fb_ct_zero.mp e k hk
      rw [this] at hp
      cases hp
    · exact e
theorem fb_ct_all {p : Nat → Bool} {n : Nat} : fb_ct p n = n ↔ ∀ k, k < n → p k = true := by
  have h := fb_ct_not p n
  constructor
  · intro e k hk
    have z : fb_ct (fun k => !p k) n = 0 := by omega
    have := fb_ct_zero.mp z k hk
    cases hp : p k
    · simp [hp] at this
    · rfl
  · intro a
    have z : fb_ct (fun k => !p k) n = 0 := fb_ct_zero.mpr (fun k hk => by simp [a k hk])
    omega
/-- the k-th place with the property -/
theorem fb_ct_kth {p : Nat → Bool} {k : Nat} : ∀ {n : Nat}, k < fb_ct p n → ∃ i, i < n ∧ p i = true ∧ fb_ct p i = k
  | 0, h => absurd h (Nat.not_lt_zero k)
  | n + 1, h => by
    rcases Nat.lt_or_ge k (fb_ct p n) with q | q
    · obtain ⟨i, h1, h2⟩ := fb_ct_kth q
      exact ⟨i, by omega, h2⟩
    · rw [fb_ct_succ] at h
      cases hp : p n
      · simp [hp] at h; omega
      · simp [hp] at h
        exact ⟨n, by omega, hp, by omega⟩
theorem fb_ct_kth_one {p : Nat → Bool} {i j : Nat} (hi : p i = true) (hj : p j = true) (e : fb_ct p i = fb_ct p j) : i = j := by
  have key : ∀ a b : Nat, a < b → p a = true → fb_ct p a < fb_ct p b := by
    intro a b hab ha
    have h := fb_ct_mono p (show a + 1 ≤ b from hab)
    rw [fb_ct_succ, ha] at h
    simp at h
    omega
  rcases Nat.lt_trichotomy i j with q | q | q
  · have := key i j q hi; omega
  · exact q
  · have := key j i q hj; omega
/-! ===== sums over a range: one place changed, parts, bounds ===== -/
def fb_sm (f : Nat → Nat) : Nat → Nat
  | 0 => 0
  | n + 1 => fb_sm f n + f n
theorem fb_sm_succ (f : Nat → Nat) (n : Nat) : fb_sm f (n + 1) = fb_sm f n + f n := rfl
theorem fb_sm_cong {f g : Nat → Nat} : ∀ {n : Nat}, (∀ k, k < n → f k = g k) → fb_sm f n = fb_sm g n
  | 0, _ => rfl
  | n + 1, h => by rw [fb_sm_succ, fb_sm_succ, fb_sm_cong (fun k hk => h k (by omega)), h n (by omega)]
theorem fb_sm_out (f : Nat → Nat) (v : Nat) {i n : Nat} (h : n ≤ i) : fb_sm (fun k => if k = i then v else f k) n = fb_sm f n :=
  fb_sm_cong fun k hk => if_neg (by omega)
theorem fb_sm_upd (f : Nat → Nat) (v : Nat) {i : Nat} : ∀ {n : Nat}, i < n → fb_sm (fun k => if k = i then v else f k) n + f i = fb_sm f n + v
  | 0, h => absurd h (Nat.not_lt_zero i)
  | n + 1, h => by
    rw [fb_sm_succ, fb_sm_succ]
    rcases Nat.lt_or_ge i n with q | q
    · have := fb_sm_upd f v q
      have e : (if n = i then v else f n) = f n := if_neg (by omega)
      rw [e]
      omega
    · have e : i = n := by omega
      subst e
      rw [fb_sm_out f v (Nat.le_refl _)]
      simp only [if_true]
      omega
theorem fb_sm_add (f g : Nat → Nat) : ∀ n, fb_sm (fun k => f k + g k) n = fb_sm f n + fb_sm g n
  | 0 => rfl
  | n + 1 => by
    have h := fb_sm_add f g n
    rw [fb_sm_succ, fb_sm_succ, fb_sm_succ, h]
    omega
theorem fb_sm_le {f g : Nat → Nat} : ∀ {n : Nat}, (∀ k, k < n → f k ≤ g k) → fb_sm f n ≤ fb_sm g n
  | 0, _ => Nat.le_refl _
  | n + 1, h => by
    have h1 := fb_sm_le (n := n) (f := f) (g := g) (fun k hk => h k (by omega))
    have h2 := h n (by omega)
    rw [fb_sm_succ, fb_sm_succ]
    omega
theorem fb_sm_const (c : Nat) : ∀ n, fb_sm (fun _ => c) n = n * c
  | 0 => by rw [Nat.zero_mul]; rfl
  | n + 1 => by rw [fb_sm_succ, fb_sm_const c n, Nat.succ_mul]
theorem fb_sm_bound {f : Nat → Nat} {c n : Nat} (h : ∀ k, k < n → f k ≤ c) : fb_sm f n ≤ n * c := by
  rw [← fb_sm_const c n]
  exact fb_sm_le h
theorem fb_sm_mono (f : Nat → Nat) (m : Nat) : ∀ n, fb_sm f m ≤ fb_sm f (m + n)
  | 0 => Nat.le_refl _
  | n + 1 => by
    have h := fb_sm_mono f m n
    show fb_sm f m ≤ fb_sm f (m + n + 1)
    rw [fb_sm_succ]
    omega
theorem fb_sm_part (f : Nat → Nat) {i n : Nat} (h : i < n) : fb_sm f i + f i ≤ fb_sm f n := by
  have := fb_sm_mono f (i + 1) (n - (i + 1))
  rw [fb_sm_succ, show i + 1 + (n - (i + 1)) = n by omega] at this
  exact this
theorem fb_sm_split (f : Nat → Nat) (m : Nat) : ∀ n, fb_sm f (m + n) = fb_sm f m + fb_sm (fun k => f (m + k)) n
  | 0 => rfl
  | n + 1 => by
    have h := fb_sm_split f m n
    show fb_sm f (m + n + 1) = _
    rw [fb_sm_succ, fb_sm_succ, h, Nat.add_assoc]
theorem fb_sm_zero {f : Nat → Nat} {n : Nat} (h : fb_sm f n = 0) : ∀ k, k < n → f k = 0 := fun k hk => by
  have := fb_sm_part f hk
  omega
/-- the same over whole numbers -/
def fb_si (f : Nat → Int) : Nat → Int
  | 0 => 0
  | n + 1 => fb_si f n + f n
theorem fb_si_succ (f : Nat → Int) (n : Nat) : fb_si f (n + 1) = fb_si f n + f n := rfl
theorem fb_si_cong {f g : Nat → Int} : ∀ {n : Nat}, (∀ k, k < n → f k = g k) → fb_si f n = fb_si g n
  | 0, _ => rfl
  | n + 1, h => by rw [fb_si_succ, fb_si_succ, fb_si_cong (fun k hk => h k (by omega)), h n (by omega)]
theorem fb_si_out (f : Nat → Int) (v : Int) {i n : Nat} (h : n ≤ i) : fb_si (fun k => if k = i then v else f k) n = fb_si f n :=
  fb_si_cong fun k hk => if_neg (by omega)
theorem fb_si_upd (f : Nat → Int) (v : Int) {i : Nat} : ∀ {n : Nat}, i < n → fb_si (fun k => if k = i then v else f k) n = fb_si f n - f i + v
  | 0, h => absurd h (Nat.not_lt_zero i)
  | n + 1, h => by
    rw [fb_si_succ, fb_si_succ]
    rcases Nat.lt_or_ge i n with q | q
    · have := fb_si_upd f v q
      have e : (if n = i then v else f n) = f n := if_neg (by omega)
      rw [e]
      omega
    · have e : i = n := by omega
      subst e
      rw [fb_si_out f v (Nat.le_refl _)]
      simp only [if_true]
      omega
theorem fb_si_add (f g : Nat → Int) : ∀ n, fb_si (fun k => f k + g k) n = fb_si f n + fb_si g n
  | 0 => rfl
  | n + 1 => by
    have h := fb_si_add f g n
    rw [fb_si_succ, fb_si_succ, fb_si_succ, h]
    omega
theorem fb_si_sub (f g : Nat → Int) : ∀ n, fb_si (fun k => f k - g k) n = fb_si f n - fb_si g n
  | 0 => rfl
  | n + 1 => by
    have h := fb_si_sub f g n
    rw [fb_si_succ, fb_si_succ, fb_si_succ, h]
    omega
theorem fb_si_mul (c : Int) (f : Nat → Int) : ∀ n, fb_si (fun k => c * f k) n = c * fb_si f n
  | 0 => (Int.mul_zero c).symm
  | n + 1 => by
    have h := fb_si_mul c f n
    rw [fb_si_succ, fb_si_succ, h, Int.mul_add]
theorem fb_si_split (f : Nat → Int) (m : Nat) : ∀ n, fb_si f (m + n) = fb_si f m + fb_si (fun k => f (m + k)) n
  | 0 => (Int.add_zero _).symm
  | n + 1 => by
    have h := fb_si_split f m n
    show fb_si f (m + n + 1) = _
    rw [fb_si_succ, fb_si_succ, h, Int.add_assoc]
theorem fb_si_nat (f : Nat → Nat) : ∀ n, fb_si (fun k => (f k : Int)) n = (fb_sm f n : Int)
  | 0 => rfl
  | n + 1 => by
    have h := fb_si_nat f n
    rw [fb_si_succ, fb_sm_succ, h]
    omega
theorem fb_si_bound {f : Nat → Int} {c : Int} (hc : 0 ≤ c) : ∀ {n : Nat}, (∀ k, k < n → -c ≤ f k ∧ f k ≤ c) → -(n * c) ≤ fb_si f n ∧ fb_si f n ≤ n * c
  | 0, _ => by simp [fb_si]
  | n + 1, h => by
    have h1 := fb_si_bound (n := n) (f := f) hc (fun k hk => h k (by omega))
    have h2 := h n (by omega)
    have e : ((n + 1 : Nat) : Int) * c = n * c + c := by rw [Int.natCast_add, Int.add_mul]; simp
    rw [fb_si_succ, e]
    omega
/-! ===== bits of a long that isn't negative ===== -/
theorem fb_andL (a b : Nat) : lN a &&& lN b = lN (a &&& b) := by
  apply Int64.toBitVec_inj.1
  show BitVec.ofNat 64 a &&& BitVec.ofNat 64 b = BitVec.ofNat 64 (a &&& b)
  apply BitVec.eq_of_getLsbD_eq
  intro i hi
  simp [hi]
theorem fb_orL (a b : Nat) : lN a ||| lN b = lN (a ||| b) := by
  apply Int64.toBitVec_inj.1
  show BitVec.ofNat 64 a ||| BitVec.ofNat 64 b = BitVec.ofNat 64 (a ||| b)
  apply BitVec.eq_of_getLsbD_eq
  intro i hi
  simp [hi]
theorem fb_xorL (a b : Nat) : lN a ^^^ lN b = lN (a ^^^ b) := by
  apply Int64.toBitVec_inj.1
  show BitVec.ofNat 64 a ^^^ BitVec.ofNat 64 b = BitVec.ofNat 64 (a ^^^ b)
  apply BitVec.eq_of_getLsbD_eq
  intro i hi
  simp [hi]
theorem fb_xorI (a b : Nat) : nI a ^^^ nI b = nI (a ^^^ b) := by
  apply Int32.toBitVec_inj.1
  show BitVec.ofNat 32 a ^^^ BitVec.ofNat 32 b = BitVec.ofNat 32 (a ^^^ b)
  apply BitVec.eq_of_getLsbD_eq
  intro i hi
  simp [hi]
theorem fb_maskL (n k : Nat) : lN n &&& lN (2 ^ k - 1) = lN (n % 2 ^ k) := by rw [fb_andL, Nat.and_two_pow_sub_one_eq_mod]
theorem fb_or_sumL {a k : Nat} (b : Nat) (h : a < 2 ^ k) : lN (2 ^ k * b) ||| lN a = lN (2 ^ k * b + a) := by rw [fb_orL, Nat.two_pow_add_eq_or_of_lt h]
theorem fb_lN_inj {a b : Nat} (ha : a < 2 ^ 63) (hb : b < 2 ^ 63) : lN a = lN b ↔ a = b := by
  constructor
  · intro h
    have h1 : (BitVec.ofNat 64 a).toNat = (BitVec.ofNat 64 b).toNat := congrArg (fun x : Int64 => x.toBitVec.toNat) h
    rw [BitVec.toNat_ofNat, BitVec.toNat_ofNat, Nat.mod_eq_of_lt (by omega), Nat.mod_eq_of_lt (by omega)] at h1
    exact h1
  · rintro rfl; rfl
theorem fb_bit_nat (n j : Nat) : n &&& 2 ^ j = 0 ↔ n.testBit j = false := by
  constructor
  · intro h
    have h1 : (n &&& 2 ^ j).testBit j = false := by rw [h]; simp
    rw [Nat.testBit_and] at h1
    simpa using h1
  · intro h
    apply Nat.eq_of_testBit_eq
    intro i
    rw [Nat.testBit_and]
    by_cases hi : j = i
    · subst hi; simp [h]
    · first | (simp [Nat.testBit_two_pow, hi]; done) | (simp [Nat.testBit_two_pow_of_ne hi]; done)
/-- one bit of a long -/
theorem fb_bitL {n j : Nat} (hj : j < 63) : lN n &&& lN (2 ^ j) = 0 ↔ n.testBit j = false := by
  have h2 : (2 : Nat) ^ j < 2 ^ 63 := Nat.pow_lt_pow_right (by decide) hj
  have hle : n &&& 2 ^ j ≤ 2 ^ j := Nat.and_le_right
  rw [fb_andL, ← fb_bit_nat, show (0 : Int64) = lN 0 from rfl]
  exact fb_lN_inj (by omega) (by decide)
/-- a bit set, a bit taken off -/
theorem fb_bit_set (n j i : Nat) : (n ||| 2 ^ j).testBit i = (n.testBit i || decide (i = j)) := by
  rw [Nat.testBit_or]
  by_cases h : j = i
  · subst h; simp
  · have h2 : ¬ i = j := fun e => h e.symm
    first | (simp [Nat.testBit_two_pow, h, h2]; done) | (simp [Nat.testBit_two_pow_of_ne h, h2]; done)
theorem fb_bit_flip (n j i : Nat) : (n ^^^ 2 ^ j).testBit i = (n.testBit i ^^ decide (i = j)) := by
  rw [Nat.testBit_xor]
  by_cases h : j = i
  · subst h; simp
  · have h2 : ¬ i = j := fun e => h e.symm
    first | (simp [Nat.testBit_two_pow, h, h2]; done) | (simp [Nat.testBit_two_pow_of_ne h, h2]; done)
/-! ===== a stretch of an array written over by a function ===== -/
def fb_put {α : Type} (f g : Nat → α) (a n : Nat) : Nat → α := fun k => if a ≤ k ∧ k < a + n then g (k - a) else f k
theorem fb_put_0 {α : Type} (f g : Nat → α) (a : Nat) : fb_put f g a 0 = f := funext fun k => if_neg (by omega)
theorem fb_put_in {α : Type} {f g : Nat → α} {a n k : Nat} (h1 : a ≤ k) (h2 : k < a + n) : fb_put f g a n k = g (k - a) := if_pos ⟨h1, h2⟩
theorem fb_put_out {α : Type} {f g : Nat → α} {a n k : Nat} (h : k < a ∨ a + n ≤ k) : fb_put f g a n k = f k := if_neg (by omega)
theorem fb_put_succ (f g : Nat → Int32) (a n : Nat) : upd (fb_put f g a n) (a + n) (g n) = fb_put f g a (n + 1) := by
  funext k
  by_cases h : k = a + n
  · subst h
    simp [upd, fb_put]
  · by_cases h1 : a ≤ k ∧ k < a + n
    · have h2 : a ≤ k ∧ k < a + (n + 1) := by omega
      simp only [upd, fb_put, if_neg h, if_pos h1, if_pos h2]
    · have h2 : ¬ (a ≤ k ∧ k < a + (n + 1)) := by omega
      simp only [upd, fb_put, if_neg h, if_neg h1, if_neg h2]
/-- .. from the far end down -/
theorem fb_put_down (f g : Nat → Int32) {a n m : Nat} (h : m < n) : upd (fb_put f (fun k => g (k + (m + 1))) (a + (m + 1)) (n - (m + 1))) (a + m) (g m) = fb_put f (fun k => g (k + m)) (a + m) (n - m) := by
  funext k
  by_cases h0 : k = a + m
  · subst h0
    simp only [upd, if_true]
    rw [fb_put_in (by omega) (by omega)]
    exact congrArg g (by omega)
  · simp only [upd, if_neg h0]
    by_cases h1 : a + (m + 1) ≤ k ∧ k < a + (m + 1) + (n - (m + 1))
    · rw [fb_put_in h1.1 h1.2, fb_put_in (by omega) (by omega)]
      exact congrArg g (by omega)
    · rw [fb_put_out (by omega), fb_put_out (by omega)]
theorem fb_put_cong {α : Type} {f f2 g g2 : Nat → α} {a n : Nat} (hf : ∀ k, (k < a ∨ a + n ≤ k) → f k = f2 k) (hg : ∀ k, k < n → g k = g2 k) : fb_put f g a n = fb_put f2 g2 a n := by
  funext k
  by_cases h : a ≤ k ∧ k < a + n
  · rw [fb_put_in h.1 h.2, fb_put_in h.1 h.2, hg _ (by omega)]
  · rw [fb_put_out (by omega), fb_put_out (by omega), hf _ (by omega)]
/-! ===== the least, the first, the best so far; that there is one alone ===== -/
theorem fb_first {p : Nat → Prop} [DecidablePred p] : ∀ {n : Nat}, (∃ i, i < n ∧ p i) → ∃ i, i < n ∧ p i ∧ ∀ j, j < i → ¬ p j
  | 0, h => by obtain ⟨i, hi, -⟩ := h; exact absurd hi (Nat.not_lt_zero i)
  | n + 1, h => by
    by_cases q : ∃ i, i < n ∧ p i
    · obtain ⟨i, h1, h2⟩ := fb_first q
      exact ⟨i, by omega, h2⟩
    · obtain ⟨i, h1, h2⟩ := h
      have e : i = n := by
        rcases Nat.lt_or_ge i n with r | r
        · exact absurd ⟨i, r, h2⟩ q
        · omega
      subst e
      exact ⟨i, by omega, h2, fun j hj hp => q ⟨j, hj, hp⟩⟩
theorem fb_first_one {p : Nat → Prop} {i j : Nat} (hi : p i) (hi2 : ∀ k, k < i → ¬ p k) (hj : p j) (hj2 : ∀ k, k < j → ¬ p k) : i = j := by
  rcases Nat.lt_trichotomy i j with q | q | q
  · exact absurd hi (hj2 i q)
  · exact q
  · exact absurd hj (hi2 j q)
theorem fb_last {p : Nat → Prop} [DecidablePred p] : ∀ {n : Nat}, (∃ i, i < n ∧ p i) → ∃ i, i < n ∧ p i ∧ ∀ j, i < j → j < n → ¬ p j
  | 0, h => by obtain ⟨i, hi, -⟩ := h; exact absurd hi (Nat.not_lt_zero i)
  | n + 1, h => by
    by_cases q : p n
    · exact ⟨n, by omega, q, fun j h1 h2 => by omega⟩
    · obtain ⟨i, h1, h2⟩ := h
      have hi : i < n := by
        rcases Nat.lt_or_ge i n with r | r
        · exact r
        · have e : i = n := by omega
          subst e
          exact absurd h2 q
      obtain ⟨i2, a1, a2, a3⟩ := fb_last (n := n) ⟨i, hi, h2⟩
      refine ⟨i2, by omega, a2, fun j b1 b2 => ?_⟩
      rcases Nat.lt_or_ge j n with r | r
      · exact a3 j b1 r
      · have e : j = n := by omega
        subst e
        exact q
/-- the first greatest -/
theorem fb_best (f : Nat → Int) : ∀ {n : Nat}, 0 < n → ∃ i, i < n ∧ (∀ j, j < n → f j ≤ f i) ∧ ∀ j, j < i → f j < f i
  | 0, h => absurd h (Nat.lt_irrefl 0)
  | 1, _ => ⟨0, by omega, fun j hj => by have e : j = 0 := by omega
                                         subst e; exact Int.le_refl _, fun j hj => absurd hj (Nat.not_lt_zero j)⟩
  | n + 2, _ => by
    obtain ⟨i, h1, h2, h3⟩ := fb_best f (n := n + 1) (by omega)
    by_cases q : f i < f (n + 1)
    · refine ⟨n + 1, by omega, fun j hj => ?_, fun j hj => ?_⟩
      · rcases Nat.lt_or_ge j (n + 1) with r | r
        · have := h2 j r; omega
        · have e : j = n + 1 := by omega
          subst e; exact Int.le_refl _
      · have := h2 j hj; omega
    · refine ⟨i, by omega, fun j hj => ?_, h3⟩
      rcases Nat.lt_or_ge j (n + 1) with r | r
      · exact h2 j r
      · have e : j = n + 1 := by omega
        subst e; omega
theorem fb_best_one {f : Nat → Int} {n i j : Nat} (hi : i < n) (hi2 : ∀ k, k < n → f k ≤ f i) (hi3 : ∀ k, k < i → f k < f i) (hj : j < n) (hj2 : ∀ k, k < n → f k ≤ f j) (hj3 : ∀ k, k < j → f k < f j) : i = j := by
  rcases Nat.lt_trichotomy i j with q | q | q
  · have a := hj3 i q
    have b := hi2 j hj
    omega
  · exact q
  · have a := hi3 j q
    have b := hj2 i hi
    omega
/-- the first least -/
theorem fb_low (f : Nat → Int) {n : Nat} (h : 0 < n) : ∃ i, i < n ∧ (∀ j, j < n → f i ≤ f j) ∧ ∀ j, j < i → f i < f j := by
  obtain ⟨i, h1, h2, h3⟩ := fb_best (fun k => -f k) h
  exact ⟨i, h1, fun j hj => by have := h2 j hj; omega, fun j hj => by have := h3 j hj; omega⟩
/-! ===== signed ints as whole numbers, within bounds ===== -/
theorem fb_rng (x : Int32) : -2147483648 ≤ x.toInt ∧ x.toInt < 2147483648 := by
  have h1 := Int32.le_toInt x
  have h2 := Int32.toInt_lt x
  omega
theorem fb_bmod {z : Int} (h1 : -2147483648 ≤ z) (h2 : z < 2147483648) : z.bmod (2 ^ 32) = z := by
  rw [Int.bmod_eq_of_le (by omega) (by omega)]
theorem fb_addI {x y : Int32} (h1 : -2147483648 ≤ x.toInt + y.toInt) (h2 : x.toInt + y.toInt < 2147483648) : (x + y).toInt = x.toInt + y.toInt := by
  rw [Int32.toInt_add, fb_bmod h1 h2]
theorem fb_subI {x y : Int32} (h1 : -2147483648 ≤ x.toInt - y.toInt) (h2 : x.toInt - y.toInt < 2147483648) : (x - y).toInt = x.toInt - y.toInt := by
  rw [Int32.toInt_sub, fb_bmod h1 h2]
theorem fb_mulI {x y : Int32} (h1 : -2147483648 ≤ x.toInt * y.toInt) (h2 : x.toInt * y.toInt < 2147483648) : (x * y).toInt = x.toInt * y.toInt := by
  rw [Int32.toInt_mul, fb_bmod h1 h2]
theorem fb_negI {x : Int32} (h : x.toInt ≠ -2147483648) : (-x).toInt = -x.toInt := by
  have := fb_rng x
  rw [Int32.toInt_neg, fb_bmod (by omega) (by omega)]
theorem fb_ofI {z : Int} (h1 : -2147483648 ≤ z) (h2 : z < 2147483648) : (Int32.ofInt z).toInt = z := by
  rw [Int32.toInt_ofInt, fb_bmod h1 h2]
theorem fb_asI (x : Int32) : Int32.ofInt x.toInt = x := Int32.ofInt_toInt x
theorem fb_rngL (x : Int64) : -9223372036854775808 ≤ x.toInt ∧ x.toInt < 9223372036854775808 := by
  have h1 := Int64.le_toInt x
  have h2 := Int64.toInt_lt x
  omega
theorem fb_bmodL {z : Int} (h1 : -9223372036854775808 ≤ z) (h2 : z < 9223372036854775808) : z.bmod (2 ^ 64) = z := by
  rw [Int.bmod_eq_of_le (by omega) (by omega)]
theorem fb_addL {x y : Int64} (h1 : -9223372036854775808 ≤ x.toInt + y.toInt) (h2 : x.toInt + y.toInt < 9223372036854775808) : (x + y).toInt = x.toInt + y.toInt := by
  rw [Int64.toInt_add, fb_bmodL h1 h2]
theorem fb_subL {x y : Int64} (h1 : -9223372036854775808 ≤ x.toInt - y.toInt) (h2 : x.toInt - y.toInt < 9223372036854775808) : (x - y).toInt = x.toInt - y.toInt := by
  rw [Int64.toInt_sub, fb_bmodL h1 h2]
theorem fb_mulL {x y : Int64} (h1 : -9223372036854775808 ≤ x.toInt * y.toInt) (h2 : x.toInt * y.toInt < 9223372036854775808) : (x * y).toInt = x.toInt * y.toInt := by
  rw [Int64.toInt_mul, fb_bmodL h1 h2]
/-! ===== cuts of what is narrow already ===== -/
theorem fb_byte {x : Int32} (h1 : -128 ≤ x.toInt) (h2 : x.toInt < 128) : x.toInt8.toInt32 = x := by
  apply Int32.toInt_inj.1
  rw [Int8.toInt_toInt32, Int32.toInt_toInt8, Int.bmod_eq_of_le (by omega) (by omega)]
theorem fb_short {x : Int32} (h1 : -32768 ≤ x.toInt) (h2 : x.toInt < 32768) : x.toInt16.toInt32 = x := by
  apply Int32.toInt_inj.1
  rw [Int16.toInt_toInt32, Int32.toInt_toInt16, Int.bmod_eq_of_le (by omega) (by omega)]
theorem fb_byte_rng (x : Int32) : -128 ≤ x.toInt8.toInt32.toInt ∧ x.toInt8.toInt32.toInt < 128 := by
  rw [Int8.toInt_toInt32]
  have h1 := Int8.le_toInt x.toInt8
  have h2 := Int8.toInt_lt x.toInt8
  omega
theorem fb_short_rng (x : Int32) : -32768 ≤ x.toInt16.toInt32.toInt ∧ x.toInt16.toInt32.toInt < 32768 := by
  rw [Int16.toInt_toInt32]
  have h1 := Int16.le_toInt x.toInt16
  have h2 := Int16.toInt_lt x.toInt16
  omega
theorem fb_byte_twice (x : Int32) : x.toInt8.toInt32.toInt8.toInt32 = x.toInt8.toInt32 := fb_byte (fb_byte_rng x).1 (fb_byte_rng x).2
theorem fb_short_twice (x : Int32) : x.toInt16.toInt32.toInt16.toInt32 = x.toInt16.toInt32 := fb_short (fb_short_rng x).1 (fb_short_rng x).2
theorem fb_char {n : Nat} (h : n < 65536) : (nI n).toUInt32.toUInt16.toUInt32.toInt32 = nI n := by
  apply Int32.toBitVec_inj.1
  apply BitVec.eq_of_toNat_eq
  have e1 : (nI n).toBitVec.toNat = n := by
    show (BitVec.ofNat 32 n).toNat = n
    rw [BitVec.toNat_ofNat, Nat.mod_eq_of_lt (by omega)]
  have e2 : ((nI n).toUInt32.toUInt16.toUInt32).toNat = n := by
    rw [UInt16.toNat_toUInt32, UInt32.toNat_toUInt16]
    show (nI n).toBitVec.toNat % 2 ^ 16 = n
    rw [e1, Nat.mod_eq_of_lt (by omega)]
  rw [e1]
  exact e2
end
section
/-! rows on bits, shifts and unsigned numbers, to paste: each family out of a closed proof of our own, whole with what it rests on; each by itself clean at Lean in its own claim (generation 39, form 5). Take a family whole -/
/-! ===== Int32 by its bits: bt x i ===== -/
def bt (x : Int32) (i : Nat) : Bool := x.toBitVec.getLsbD i
theorem b_ext {x y : Int32} (h : ∀ i, i < 32 → bt x i = bt y i) : x = y := Int32.toBitVec_inj.mp (BitVec.eq_of_getLsbD_eq (fun i hi => h i hi))
theorem b_or (x y : Int32) (i : Nat) : bt (x ||| y) i = (bt x i || bt y i) := by unfold bt; rw [Int32.toBitVec_or, BitVec.getLsbD_or]
theorem b_and (x y : Int32) (i : Nat) : bt (x &&& y) i = (bt x i && bt y i) := by unfold bt; rw [Int32.toBitVec_and, BitVec.getLsbD_and]
theorem b_xor (x y : Int32) (i : Nat) : bt (x ^^^ y) i = (bt x i ^^ bt y i) := by unfold bt; rw [Int32.toBitVec_xor, BitVec.getLsbD_xor]
theorem b_big {x : Int32} {i : Nat} (h : 32 ≤ i) : bt x i = false := BitVec.getLsbD_of_ge _ _ h
theorem b_255 (i : Nat) : bt 255 i = decide (i < 8) := by
  rcases Nat.lt_or_ge i 32 with h | h
  · exact (by decide +kernel : ∀ i, i < 32 → bt 255 i = decide (i < 8)) i h
  · rw [b_big h, decide_eq_false (by omega)]
theorem b_65535 (i : Nat) : bt 65535 i = decide (i < 16) := by
  rcases Nat.lt_or_ge i 32 with h | h
  · exact (by decide +kernel : ∀ i, i < 32 → bt 65535 i = decide (i < 16)) i h
  · rw [b_big h, decide_eq_false (by omega)]
theorem b_m1 : ∀ i, i < 32 → bt (-1) i = true := by decide +kernel
theorem b_0 (i : Nat) : bt 0 i = false := BitVec.getLsbD_zero
theorem s_l : ∀ n, n < 32 → ((nI n &&& 31).toBitVec.smod 32).toNat = n := by decide +kernel
theorem s_u : ∀ n, n < 32 → (((nI n).toUInt32 &&& Int32.toUInt32 31).toBitVec % 32).toNat = n := by decide +kernel
theorem b_shl (n : Nat) (hn : n < 32) (x : Int32) {i : Nat} (hi : i < 32) : bt (x <<< (nI n &&& 31)) i = (decide (n ≤ i) && bt x (i - n)) := by
  unfold bt
  rw [Int32.toBitVec_shiftLeft]
  show (x.toBitVec <<< ((nI n &&& 31).toBitVec.smod 32).toNat).getLsbD i = _
  rw [s_l n hn, BitVec.getLsbD_shiftLeft]
  rcases Nat.lt_or_ge i n with h | h
  · simp [h, Nat.not_le.mpr h]
  · simp [hi, h, Nat.not_lt.mpr h]
theorem b_ushr (n : Nat) (hn : n < 32) (x : Int32) (i : Nat) : bt ((x.toUInt32 >>> ((nI n).toUInt32 &&& Int32.toUInt32 31)).toInt32) i = bt x (n + i) := by
  show (x.toUInt32 >>> ((nI n).toUInt32 &&& Int32.toUInt32 31)).toBitVec.getLsbD i = x.toUInt32.toBitVec.getLsbD (n + i)
  rw [UInt32.toBitVec_shiftRight]
  show (x.toUInt32.toBitVec >>> (((nI n).toUInt32 &&& Int32.toUInt32 31).toBitVec % 32).toNat).getLsbD i = _
  rw [s_u n hn, BitVec.getLsbD_ushiftRight]
theorem b_sshr (n : Nat) (hn : n < 32) (x : Int32) {i : Nat} (hi : i < 32) : bt (x >>> (nI n &&& 31)) i = if n + i < 32 then bt x (n + i) else bt x 31 := by
  unfold bt
  rw [Int32.toBitVec_shiftRight]
  show (x.toBitVec.sshiftRight ((nI n &&& 31).toBitVec.smod 32).toNat).getLsbD i = _
  rw [s_l n hn, BitVec.getLsbD_sshiftRight, BitVec.msb_eq_getLsbD_last]
  simp [hi]
theorem b_shl8 (x : Int32) {i : Nat} (hi : i < 32) : bt (x <<< ((8 : Int32) &&& 31)) i = (decide (8 ≤ i) && bt x (i - 8)) := b_shl 8 (by omega) x hi
theorem b_shl16 (x : Int32) {i : Nat} (hi : i < 32) : bt (x <<< ((16 : Int32) &&& 31)) i = (decide (16 ≤ i) && bt x (i - 16)) := b_shl 16 (by omega) x hi
theorem b_shl24 (x : Int32) {i : Nat} (hi : i < 32) : bt (x <<< ((24 : Int32) &&& 31)) i = (decide (24 ≤ i) && bt x (i - 24)) := b_shl 24 (by omega) x hi
theorem b_sshr8 (x : Int32) {i : Nat} (hi : i < 32) : bt (x >>> ((8 : Int32) &&& 31)) i = if 8 + i < 32 then bt x (8 + i) else bt x 31 := b_sshr 8 (by omega) x hi
/-! ===== nI under and, xor, >>>, one bit, 65535 ===== -/
theorem nx_and (a b : Nat) : nI a &&& nI b = nI (a &&& b) := by
  apply Int32.toBitVec_inj.1
  show BitVec.ofNat 32 a &&& BitVec.ofNat 32 b = BitVec.ofNat 32 (a &&& b)
  apply BitVec.eq_of_getLsbD_eq
  intro i hi
  simp [hi]
theorem nx_xor (a b : Nat) : nI a ^^^ nI b = nI (a ^^^ b) := by
  apply Int32.toBitVec_inj.1
  show BitVec.ofNat 32 a ^^^ BitVec.ofNat 32 b = BitVec.ofNat 32 (a ^^^ b)
  apply BitVec.eq_of_getLsbD_eq
  intro i hi
  simp [hi]
theorem nx_cnt : ∀ j : Fin 32, (UInt32.ofNat j.val &&& Int32.toUInt32 31).toNat % 32 = j.val := by decide +kernel
theorem nx_ush {k j : Nat} (hk : k < 65536) (hj : j < 32) : ((nI k).toUInt32 >>> ((nI j).toUInt32 &&& Int32.toUInt32 31)).toInt32 = nI (k >>> j) := by
  have hs : k >>> j ≤ k := by
    rw [Nat.shiftRight_eq_div_pow]
    exact Nat.div_le_self _ _
  have e2 : UInt32.ofNat k >>> (UInt32.ofNat j &&& Int32.toUInt32 31) = UInt32.ofNat (k >>> j) := by
    apply UInt32.toNat_inj.1
    have h1 : (UInt32.ofNat k).toNat = k := Nat.mod_eq_of_lt (by omega)
    have h2 : (UInt32.ofNat (k >>> j)).toNat = k >>> j := Nat.mod_eq_of_lt (by omega)
    rw [UInt32.toNat_shiftRight, nx_cnt ⟨j, hj⟩, h1, h2]
  show (UInt32.ofNat k >>> (UInt32.ofNat j &&& Int32.toUInt32 31)).toInt32 = _
  rw [e2]
  rfl
theorem nx_bit {k j : Nat} (hk : k < 65536) (hj : j < 16) : (((nI k).toUInt32 >>> ((nI j).toUInt32 &&& Int32.toUInt32 31)).toInt32 &&& 1) = 0 ↔ k.testBit j = false := by
  rw [nx_ush hk (by omega)]
  show nI (k >>> j) &&& nI 1 = 0 ↔ _
  rw [nx_and, Nat.and_one_is_mod, ← nI_0, nI_eq (by omega) (by omega), Nat.testBit_eq_decide_div_mod_eq, Nat.shiftRight_eq_div_pow, decide_eq_false_iff_not]
  generalize k / 2 ^ j = z
  omega
theorem nx_mod (k : Nat) : nI k &&& 65535 = nI (k % 65536) := by
  show nI k &&& nI 65535 = _
  rw [nx_and, show (65535 : Nat) = 2 ^ 16 - 1 from rfl, Nat.and_two_pow_sub_one_eq_mod]
theorem nx_m16 {k : Nat} (h : k < 65536) : nI k &&& 65535 = nI k := by rw [nx_mod, Nat.mod_eq_of_lt h]
theorem nx_mask (x : Int32) : ∃ k, k < 65536 ∧ x &&& 65535 = nI k := by
  have e : x = nI x.toBitVec.toNat := by
    apply Int32.toBitVec_inj.1
    show x.toBitVec = BitVec.ofNat 32 x.toBitVec.toNat
    simp
  refine ⟨x.toBitVec.toNat % 65536, Nat.mod_lt _ (by omega), ?_⟩
  rw [← nx_mod, ← e]
/-! ===== Int64 as a set of bits: test, set, clear ===== -/
theorem ts_nf {x : Bool} (h : ¬ x = false) : x = true := by cases x <;> first | rfl | exact absurd rfl h
theorem ts_nt {x : Bool} (h : ¬ x = true) : x = false := by cases x <;> first | rfl | exact absurd rfl h
theorem ts_bit {w : Int64} {s : UInt64} {j : Nat} (hj : j < 64) (hs : s.toNat = j) : ((w.toUInt64 >>> s).toInt64 &&& 1) = 0 ↔ w.toBitVec.getLsbD j = false := by
  have e : (w.toUInt64 >>> s).toInt64.toBitVec = w.toBitVec >>> j := by
    apply BitVec.eq_of_toNat_eq
    show (w.toUInt64 >>> s).toNat = _
    rw [UInt64.toNat_shiftRight, hs, Nat.mod_eq_of_lt hj, BitVec.toNat_ushiftRight]
    rfl
  rw [← Int64.toBitVec_inj, Int64.toBitVec_and, e]
  show w.toBitVec >>> j &&& 1#64 = 0#64 ↔ _
  constructor
  · intro h
    have t := congrArg (fun x => x.getLsbD 0) h
    simpa using t
  · intro h
    apply BitVec.eq_of_getLsbD_eq
    intro i hi
    cases i with
    | zero => simp [h]
    | succ i => simp
theorem ts_or {w m : Int64} {j : Nat} (hj : j < 64) (hm : m.toBitVec = BitVec.twoPow 64 j) : (w ||| m) = w ↔ w.toBitVec.getLsbD j = true := by
  rw [← Int64.toBitVec_inj, Int64.toBitVec_or, hm]
  constructor
  · intro h
    have t := congrArg (fun x => x.getLsbD j) h
    simp only [BitVec.getLsbD_or, BitVec.getLsbD_twoPow] at t
    simpa [hj] using t.symm
  · intro h
    apply BitVec.eq_of_getLsbD_eq
    intro i hi
    rw [BitVec.getLsbD_or, BitVec.getLsbD_twoPow]
    by_cases e : j = i
    · subst e; rw [h, Bool.true_or]
    · simp [e]
theorem ts_and {w m : Int64} {j : Nat} (hj : j < 64) (hm : m.toBitVec = BitVec.twoPow 64 j) : (w &&& (m ^^^ (-1))) = w ↔ w.toBitVec.getLsbD j = false := by
  have ha : (-1 : Int64).toBitVec = BitVec.allOnes 64 := by decide
  rw [← Int64.toBitVec_inj, Int64.toBitVec_and, Int64.toBitVec_xor, hm, ha]
  constructor
  · intro h
    have t := congrArg (fun x => x.getLsbD j) h
    simp only [BitVec.getLsbD_and, BitVec.getLsbD_xor, BitVec.getLsbD_twoPow, BitVec.getLsbD_allOnes] at t
    simpa [hj] using t.symm
  · intro h
    apply BitVec.eq_of_getLsbD_eq
    intro i hi
    rw [BitVec.getLsbD_and, BitVec.getLsbD_xor, BitVec.getLsbD_twoPow, BitVec.getLsbD_allOnes]
    by_cases e : j = i
    · subst e; rw [h, Bool.false_and]
    · simp [e, hi]
/-! ===== lN n to 2^64: shifts, and, or, masks, one bit ===== -/
theorem wb_tb (n : Nat) : (lN n).toBitVec = BitVec.ofNat 64 n := rfl
theorem wb_inj {a b : Int64} (h : a.toBitVec = b.toBitVec) : a = b := Int64.toBitVec_inj.mp h
theorem wb_tn {n : Nat} (h : n < 2 ^ 64) : (lN n).toBitVec.toNat = n := by rw [wb_tb, BitVec.toNat_ofNat, Nat.mod_eq_of_lt h]
theorem wb_of (x : Int64) : ∃ n, n < 2 ^ 64 ∧ x = lN n := ⟨x.toBitVec.toNat, x.toBitVec.isLt, wb_inj (by rw [wb_tb]; simp)⟩
theorem wb_of32 (x : Int32) : ∃ n, n < 2 ^ 32 ∧ x = nI n := ⟨x.toBitVec.toNat, x.toBitVec.isLt, Int32.toBitVec_inj.mp (by show _ = BitVec.ofNat 32 _; simp)⟩
theorem wb_c : ∀ k, k < 64 → ((nI k).toInt64 &&& 63) = lN k := by decide +kernel
theorem wb_cu : ∀ k, k < 64 → ((nI k).toInt64.toUInt64 &&& Int64.toUInt64 63) = UInt64.ofNat k := by decide +kernel
theorem wb_sm : ∀ k, k < 64 → (BitVec.ofNat 64 k).smod 64 = BitVec.ofNat 64 k := by decide +kernel
theorem wb_pw {a b : Nat} (h : a ≤ b) : 2 ^ b = 2 ^ a * 2 ^ (b - a) := by rw [← Nat.pow_add]; congr 1; omega
theorem wb_lt2 {a b : Nat} (h : a < b) : 2 ^ a < 2 ^ b := Nat.pow_lt_pow_right (by decide) h
theorem wb_mod (n : Nat) : lN n = lN (n % 2 ^ 64) := wb_inj (by rw [wb_tb, wb_tb]; apply BitVec.eq_of_toNat_eq; rw [BitVec.toNat_ofNat, BitVec.toNat_ofNat, Nat.mod_mod])
theorem wb_shr {n k : Nat} (hn : n < 2 ^ 64) (hk : k < 64) : ((lN n).toUInt64 >>> ((nI k).toInt64.toUInt64 &&& Int64.toUInt64 63)).toInt64 = lN (n / 2 ^ k) := by
  rw [wb_cu k hk]
  apply wb_inj
  apply BitVec.eq_of_toNat_eq
  show ((lN n).toUInt64 >>> UInt64.ofNat k).toNat = (BitVec.ofNat 64 _).toNat
  have h1 : (UInt64.ofNat k).toNat = k := by
    show (BitVec.ofNat 64 k).toNat = k
    rw [BitVec.toNat_ofNat, Nat.mod_eq_of_lt (by omega)]
  have h2 : (lN n).toUInt64.toNat = n := wb_tn hn
  rw [UInt64.toNat_shiftRight, h1, h2, Nat.mod_eq_of_lt hk, Nat.shiftRight_eq_div_pow, BitVec.toNat_ofNat, Nat.mod_eq_of_lt (Nat.lt_of_le_of_lt (Nat.div_le_self _ _) hn)]
theorem wb_shl (n : Nat) {k : Nat} (hk : k < 64) : lN n <<< ((nI k).toInt64 &&& 63) = lN (n * 2 ^ k) := by
  rw [wb_c k hk]
  apply wb_inj
  rw [Int64.toBitVec_shiftLeft, wb_tb, wb_tb, wb_tb, wb_sm k hk]
  apply BitVec.eq_of_toNat_eq
  rw [BitVec.shiftLeft_eq', BitVec.toNat_shiftLeft, BitVec.toNat_ofNat, BitVec.toNat_ofNat, BitVec.toNat_ofNat, Nat.mod_eq_of_lt (show k < 2 ^ 64 by omega), Nat.shiftLeft_eq, Nat.mul_mod, Nat.mod_mod, ← Nat.mul_mod]
theorem wb_and {a b : Nat} (ha : a < 2 ^ 64) (hb : b < 2 ^ 64) : lN a &&& lN b = lN (a &&& b) := by
  apply wb_inj
  rw [Int64.toBitVec_and, wb_tb, wb_tb, wb_tb]
  apply BitVec.eq_of_toNat_eq
  rw [BitVec.toNat_and, BitVec.toNat_ofNat, BitVec.toNat_ofNat, BitVec.toNat_ofNat, Nat.mod_eq_of_lt ha, Nat.mod_eq_of_lt hb, Nat.mod_eq_of_lt (Nat.and_lt_two_pow _ hb)]
theorem wb_or {a b : Nat} (ha : a < 2 ^ 64) (hb : b < 2 ^ 64) : lN a ||| lN b = lN (a ||| b) := by
  apply wb_inj
  rw [Int64.toBitVec_or, wb_tb, wb_tb, wb_tb]
  apply BitVec.eq_of_toNat_eq
  rw [BitVec.toNat_or, BitVec.toNat_ofNat, BitVec.toNat_ofNat, BitVec.toNat_ofNat, Nat.mod_eq_of_lt ha, Nat.mod_eq_of_lt hb, Nat.mod_eq_of_lt (Nat.or_lt_two_pow ha hb)]
theorem wb_mask {n k : Nat} (hn : n < 2 ^ 64) (hk : k < 64) : lN n &&& lN (2 ^ k - 1) = lN (n % 2 ^ k) := by
  rw [wb_and hn (by have := wb_lt2 hk; omega), Nat.and_two_pow_sub_one_eq_mod]
theorem wb_a1 {n : Nat} (hn : n < 2 ^ 64) : lN n &&& 1 = lN (n % 2) := wb_mask (k := 1) hn (by decide)
theorem wb_bit {n k : Nat} (hn : n < 2 ^ 64) (hk : k < 64) : ((lN n).toUInt64 >>> ((nI k).toInt64.toUInt64 &&& Int64.toUInt64 63)).toInt64 &&& 1 = lN (n / 2 ^ k % 2) := by
  rw [wb_shr hn hk, wb_a1 (Nat.lt_of_le_of_lt (Nat.div_le_self _ _) hn)]
theorem wb_xor {q k : Nat} (hk : k < 63) (h : 2 ^ k ≤ q) (h2 : q < 2 ^ (k + 1)) : lN q ^^^ lN (2 ^ k) = lN (q - 2 ^ k) := by
  obtain ⟨r, rfl⟩ : ∃ r, q = 2 ^ k + r := ⟨q - 2 ^ k, by omega⟩
  have hr : r < 2 ^ k := by rw [Nat.pow_succ] at h2; omega
  have hx : (2 ^ k + r) ^^^ 2 ^ k = r := by
    apply Nat.eq_of_testBit_eq
    intro i
    rw [Nat.testBit_xor, Nat.testBit_two_pow]
    rcases Nat.lt_trichotomy i k with h | h | h
    · rw [Nat.testBit_two_pow_add_gt h]
      simp [show ¬ k = i by omega]
    · subst h
      rw [Nat.testBit_two_pow_add_eq]
      simp
    · have a1 : 2 ^ (k + 1) ≤ 2 ^ i := Nat.pow_le_pow_right (by decide) h
      rw [Nat.testBit_lt_two_pow (show 2 ^ k + r < 2 ^ i by omega), Nat.testBit_lt_two_pow (show r < 2 ^ i by omega)]
      simp [show ¬ k = i by omega]
  have b1 := wb_lt2 (show k + 1 < 64 by omega)
  have b2 := wb_lt2 (show k < 64 by omega)
  apply wb_inj
  rw [Int64.toBitVec_xor, wb_tb, wb_tb, wb_tb]
  apply BitVec.eq_of_toNat_eq
  rw [BitVec.toNat_xor, BitVec.toNat_ofNat, BitVec.toNat_ofNat, BitVec.toNat_ofNat, Nat.mod_eq_of_lt (by omega : 2 ^ k + r < 2 ^ 64), Nat.mod_eq_of_lt b2, hx, Nat.add_sub_cancel_left, Nat.mod_eq_of_lt (by omega)]
end
section
/-! truth values, numbers in a range, rooms or none, as ints -/
def bI (b : Bool) : Int32 := cond b 1 0
theorem bI_01 (b : Bool) : bI b = 0 ∨ bI b = 1 := by cases b <;> simp [bI]
theorem bI_eq0 (b : Bool) : bI b = 0 ↔ b = false := by cases b <;> simp [bI]
theorem bI_t : bI true = nI 1 := rfl
theorem bI_f : bI false = nI 0 := rfl
def inB (x : Int32) (n : Nat) : Bool := decide (0 ≤ x.toInt ∧ x.toInt < (n : Int))
theorem nI_toInt' {n : Nat} (h : n < 2 ^ 31) : (nI n).toInt = (n : Int) := nI_toInt h
theorem inB_t {x : Int32} {n : Nat} (h : inB x n = true) (hn : n < 2 ^ 31) : ∃ j : Nat, j < n ∧ x = nI j := by
  have h1 := of_decide_eq_true h
  exact vp_in_of (vp_in_iff.mpr h1) hn
theorem inB_n {j n : Nat} (hj : j < 2 ^ 31) : inB (nI j) n = decide (j < n) := by
  unfold inB
  rw [nI_toInt hj]
  by_cases h : j < n <;> simp [h] <;> omega
theorem inB_nt {j n : Nat} (h : j < n) (hn : n < 2 ^ 31) : inB (nI j) n = true := by
  rw [inB_n (by omega)]; exact decide_eq_true h
theorem inB_neg {x : Int32} {n : Nat} (h : x < 0) : inB x n = false := by
  rw [fa_lt] at h
  have e : (0 : Int32).toInt = 0 := rfl
  unfold inB
  exact decide_eq_false (by omega)
theorem inB_big {x : Int32} {n : Nat} (hn : n < 2 ^ 31) (h : nI n ≤ x) : inB x n = false := by
  rw [fa_le, nI_toInt hn] at h
  unfold inB
  exact decide_eq_false (by omega)
theorem inB_ok {x : Int32} {n : Nat} (hn : n < 2 ^ 31) (h0 : ¬ x < 0) (h : ¬ nI n ≤ x) : inB x n = true := by
  rw [fa_lt] at h0
  rw [fa_le, nI_toInt hn] at h
  have e : (0 : Int32).toInt = 0 := rfl
  unfold inB
  exact decide_eq_true (by omega)
theorem inB_lt {x : Int32} {n : Nat} (hn : n < 2 ^ 31) (h0 : ¬ x < 0) (h : x < nI n) : inB x n = true := inB_ok hn h0 (fun q => by rw [fa_lt] at h; rw [fa_le] at q; omega)
def oI : Option Nat → Int32
  | none => -9
  | some n => nI n
theorem oI_s (n : Nat) : oI (some n) = nI n := rfl
theorem oI_n : oI none = -9 := rfl
theorem oI_neg (o : Option Nat) (h : ∀ n, o = some n → n < 2 ^ 31) : oI o < 0 ↔ o = none := by
  cases o with
  | none => simp [oI]
  | some n => simp only [oI, reduceCtorEq, iff_false]; exact nI_pos (h n rfl)
theorem oI_eq9 (o : Option Nat) (h : ∀ n, o = some n → n < 2 ^ 31) : oI o = -9 ↔ o = none := by
  cases o with
  | none => simp [oI]
  | some n =>
    simp only [oI, reduceCtorEq, iff_false]
    intro e
    have := congrArg Int32.toInt e
    rw [nI_toInt (h n rfl)] at this
    have e9 : (-9 : Int32).toInt = -9 := rfl
    omega
theorem nI_ne9 {n : Nat} (h : n < 2 ^ 31) : ¬ nI n = -9 := fun e => by
  have := congrArg Int32.toInt e
  rw [nI_toInt h] at this
  have e9 : (-9 : Int32).toInt = -9 := rfl
  omega
theorem nI_shl1 {a : Nat} (h : a < 31) : nI 1 <<< (nI a &&& 31) = nI (2 ^ a) := by
  rw [pk_shlN (nI a &&& 31) a (s_l a (by omega)) (by rw [Nat.one_mul]; exact Nat.pow_lt_pow_right (by decide) (by omega)), Nat.one_mul]
theorem nI_shr {n a : Nat} (hn : n < 2 ^ 31) (h : a < 32) : nI n >>> (nI a &&& 31) = nI (n / 2 ^ a) := pk_shrN hn (nI a &&& 31) a (s_l a h)
section HDB
variable {p : Program} {l : Launch} {e : Env} {R : Room} {s : State} {m : MethodId} {args : Array Value} {below : List Frame} {meth : Method} {c : Code} {own : String} {cc : ByteArray} {nL : Nat} {ret : Option FieldType} {cells slots : Nat} {A : Nat → Prop} {D : va_G} {Q : State → Prop} {σ : Type} {w : σ → va_W} {S : σ} {pc : Nat} {lv : List (Nat × Value)} {st : List Value}
theorem hd_if_eqB {b : Bool} {z : Int} (n t : Nat) (C : xC p s m args meth c own cc nL ret) (d : decode cc pc = .ok (.ifCond .eq z, 3)) (hn : pc + 3 = n) (ht : (pc : Int) + z = (t : Int)) (kt : b = false → XW p l e R s m args below meth c nL cells slots A D Q w S t lv st) (kf : b = true → XW p l e R s m args below meth c nL cells slots A D Q w S n lv st) : XW p l e R s m args below meth c nL cells slots A D Q w S pc lv (.int (bI b) :: st) := hd_if_eq n t C d hn ht (fun q => kt ((bI_eq0 b).mp q)) (fun q => kf (by cases b; exact absurd rfl q; rfl))
theorem hd_if_neB {b : Bool} {z : Int} (n t : Nat) (C : xC p s m args meth c own cc nL ret) (d : decode cc pc = .ok (.ifCond .ne z, 3)) (hn : pc + 3 = n) (ht : (pc : Int) + z = (t : Int)) (kt : b = true → XW p l e R s m args below meth c nL cells slots A D Q w S t lv st) (kf : b = false → XW p l e R s m args below meth c nL cells slots A D Q w S n lv st) : XW p l e R s m args below meth c nL cells slots A D Q w S pc lv (.int (bI b) :: st) := hd_if_ne n t C d hn ht (fun q => kt (by cases b; exact absurd rfl q; rfl)) (fun q => kf ((bI_eq0 b).mp q))
theorem hd_if_ltP {a : Nat} {z : Int} (n t : Nat) (C : xC p s m args meth c own cc nL ret) (d : decode cc pc = .ok (.ifCond .lt z, 3)) (hn : pc + 3 = n) (ht : (pc : Int) + z = (t : Int)) (ha : a < 2 ^ 31) (k : XW p l e R s m args below meth c nL cells slots A D Q w S n lv st) : XW p l e R s m args below meth c nL cells slots A D Q w S pc lv (.int (nI a) :: st) := hd_if_lt n t C d hn ht (fun q => absurd q (nI_pos ha)) (fun _ => k)
theorem hd_if_geP {a : Nat} {z : Int} (n t : Nat) (C : xC p s m args meth c own cc nL ret) (d : decode cc pc = .ok (.ifCond .ge z, 3)) (hn : pc + 3 = n) (ht : (pc : Int) + z = (t : Int)) (ha : a < 2 ^ 31) (k : XW p l e R s m args below meth c nL cells slots A D Q w S t lv st) : XW p l e R s m args below meth c nL cells slots A D Q w S pc lv (.int (nI a) :: st) := hd_if_ge n t C d hn ht (fun _ => k) (fun q => absurd (nI_pos' ha) q)
theorem hd_if_gtN {a : Nat} {z : Int} (n t : Nat) (C : xC p s m args meth c own cc nL ret) (d : decode cc pc = .ok (.ifCond .gt z, 3)) (hn : pc + 3 = n) (ht : (pc : Int) + z = (t : Int)) (ha : a < 2 ^ 31) (kt : 0 < a → XW p l e R s m args below meth c nL cells slots A D Q w S t lv st) (kf : a = 0 → XW p l e R s m args below meth c nL cells slots A D Q w S n lv st) : XW p l e R s m args below meth c nL cells slots A D Q w S pc lv (.int (nI a) :: st) := hd_if_gt n t C d hn ht (fun q => kt (by rcases Nat.eq_zero_or_pos a with rfl | h; exact absurd q (by decide); exact h)) (fun q => kf (by rcases Nat.eq_zero_or_pos a with rfl | h; rfl; exact absurd (by rw [← nI_0]; exact nI_lt h ha) q))
theorem hd_if_leN {a : Nat} {z : Int} (n t : Nat) (C : xC p s m args meth c own cc nL ret) (d : decode cc pc = .ok (.ifCond .le z, 3)) (hn : pc + 3 = n) (ht : (pc : Int) + z = (t : Int)) (ha : a < 2 ^ 31) (kt : a = 0 → XW p l e R s m args below meth c nL cells slots A D Q w S t lv st) (kf : 0 < a → XW p l e R s m args below meth c nL cells slots A D Q w S n lv st) : XW p l e R s m args below meth c nL cells slots A D Q w S pc lv (.int (nI a) :: st) := hd_if_le n t C d hn ht (fun q => kt (by rcases Nat.eq_zero_or_pos a with rfl | h; rfl; exact absurd q (nI_nle h ha))) (fun q => kf (by rcases Nat.eq_zero_or_pos a with rfl | h; exact absurd (by decide) q; exact h))
end HDB
theorem bI_is1 {b : Bool} (h : b = true) : nI 1 = bI b := by subst h; rfl
theorem bI_is0 {b : Bool} (h : b = false) : nI 0 = bI b := by subst h; rfl
end
section
/-! what the document asks, as functions of the abstract state -/
/-- where a door leads at an hour; none: it is shut -/
def ld0 (kd to st h Rm : Nat) : Option Nat := if kd = 2 ∧ ¬ h % 3 = 0 then none else some ((to + st * (if kd = 0 then h else (h + 11) % 12)) % Rm)
def ld (N : Nat → Nat → Nat) (d h : Nat) : Option Nat := ld0 (N 1 d) (N 3 d) (N 4 d) h (N 0 0)
theorem ld0_lt {kd to st h Rm : Nat} (hR : 0 < Rm) : ∀ r, ld0 kd to st h Rm = some r → r < Rm := by
  intro r hr
  unfold ld0 at hr
  split at hr
  · cases hr
  · cases hr; exact Nat.mod_lt _ hR
theorem mul_le {a b c d : Nat} (h1 : a ≤ c) (h2 : b ≤ d) : a * b ≤ c * d := Nat.mul_le_mul h1 h2
/-- what always holds of the naturals -/
def inv (N : Nat → Nat → Nat) : Prop := N 0 0 ≤ 6 ∧ N 0 1 ≤ 8 ∧ N 0 2 ≤ 8 ∧ (N 0 0 = 0 → N 0 1 = 0) ∧ (∀ d, N 1 d < 3 ∧ N 2 d < 6 ∧ N 3 d < 6 ∧ N 4 d < 6) ∧ (∀ k, N 5 k < 8 ∧ N 6 k < 12) ∧ (∀ d, d < N 0 1 → N 2 d < N 0 0 ∧ N 3 d < N 0 0) ∧ (∀ k, k < N 0 2 → N 5 k < N 0 1)
theorem inv.R {N : Nat → Nat → Nat} (h : inv N) : N 0 0 ≤ 6 := h.1
theorem inv.D {N : Nat → Nat → Nat} (h : inv N) : N 0 1 ≤ 8 := h.2.1
theorem inv.Q {N : Nat → Nat → Nat} (h : inv N) : N 0 2 ≤ 8 := h.2.2.1
theorem inv.pos {N : Nat → Nat → Nat} (h : inv N) {d : Nat} (hd : d < N 0 1) : 0 < N 0 0 := Nat.pos_of_ne_zero fun e => by have := h.2.2.2.1 e; omega
theorem inv.door {N : Nat → Nat → Nat} (h : inv N) (d : Nat) : N 1 d < 3 ∧ N 2 d < 6 ∧ N 3 d < 6 ∧ N 4 d < 6 := h.2.2.2.2.1 d
theorem inv.rd {N : Nat → Nat → Nat} (h : inv N) (k : Nat) : N 5 k < 8 ∧ N 6 k < 12 := h.2.2.2.2.2.1 k
theorem inv.at {N : Nat → Nat → Nat} (h : inv N) {d : Nat} (hd : d < N 0 1) : N 2 d < N 0 0 ∧ N 3 d < N 0 0 := h.2.2.2.2.2.2.1 d hd
theorem inv.rdd {N : Nat → Nat → Nat} (h : inv N) {k : Nat} (hk : k < N 0 2) : N 5 k < N 0 1 := h.2.2.2.2.2.2.2 k hk
theorem ld_lt {N : Nat → Nat → Nat} (h : inv N) {d hr : Nat} (hd : d < N 0 1) : ∀ r, ld N d hr = some r → r < N 0 0 := ld0_lt (h.pos hd)
/-- long 'in' -/
def inL (v lo hi : Int64) : Bool := decide (lo.toInt ≤ v.toInt ∧ v.toInt ≤ hi.toInt)
theorem inL_in (x : Int32) {n : Nat} (hn : n < 2 ^ 31) : inL x.toInt64 0 ((nI n).toInt64 - 1) = inB x n := by
  unfold inL inB
  have e0 : (0 : Int64).toInt = 0 := rfl
  have e1 : (1 : Int64).toInt = 1 := rfl
  have e2 : ((nI n).toInt64).toInt = (n : Int) := by rw [Int32.toInt_toInt64, nI_toInt hn]
  have e3 : ((nI n).toInt64 - 1).toInt = (n : Int) - 1 := by rw [fb_subL (by rw [e2, e1]; omega) (by rw [e2, e1]; omega), e2, e1]
  rw [e0, e3, Int32.toInt_toInt64]
  congr 1
  apply propext
  constructor <;> intro h <;> omega
theorem inL_k (x : Int32) (k : Int64) (n : Nat) (hk : k.toInt + 1 = (n : Int)) : inL x.toInt64 0 k = inB x n := by
  unfold inL inB
  have e0 : (0 : Int64).toInt = 0 := rfl
  rw [e0, Int32.toInt_toInt64]
  congr 1
  apply propext
  constructor <;> intro h <;> omega
theorem tb_and (s k : Nat) : (s / 2 ^ k &&& 1 = 0) ↔ s.testBit k = false := by
  rw [Nat.testBit_eq_decide_div_mod_eq, Nat.and_one_is_mod]
  simp
theorem tb_and1 (s k : Nat) : (s / 2 ^ k &&& 1 = 1) ↔ s.testBit k = true := by
  rw [Nat.testBit_eq_decide_div_mod_eq, Nat.and_one_is_mod]
  simp
theorem and1_lt (x : Nat) : x &&& 1 < 2 := by rw [Nat.and_one_is_mod]; omega
theorem or_lt {a r : Nat} (ha : a < 64) (hr : r < 6) : a ||| 2 ^ r < 64 := Nat.or_lt_two_pow (n := 6) ha (Nat.pow_lt_pow_right (by decide) hr)
theorem pow_lt6 {r : Nat} (hr : r < 6) : 2 ^ r < 64 := Nat.pow_lt_pow_right (n := 6) (by decide) hr
theorem div_lt31 {s k : Nat} (h : s < 2 ^ 31) : s / 2 ^ k < 2 ^ 31 := Nat.lt_of_le_of_lt (Nat.div_le_self _ _) h
/-- behind an hour, by an act -/
def bh (N : Nat → Nat → Nat) (wo : Int32) (room h act : Nat) : Option Nat := if act = N 0 1 then some room else if nI act = wo ∨ ¬ N 2 act = room then none else ld N act h
theorem bh_lt {N : Nat → Nat → Nat} (hI : inv N) {wo : Int32} {room h act : Nat} (hr : room < N 0 0) (ha : act ≤ N 0 1) : ∀ r, bh N wo room h act = some r → r < N 0 0 := by
  intro r e
  unfold bh at e
  split at e
  · cases e; exact hr
  · split at e
    · cases e
    · exact ld_lt hI (by omega) r e
/-- an hour on: the first d doors -/
def aho (N : Nat → Nat → Nat) (wo : Int32) (h set : Nat) : Nat → Nat
  | 0 => set
  | d + 1 => if ¬ nI d = wo ∧ set.testBit (N 2 d) = true then (match ld N d h with | none => aho N wo h set d | some r => aho N wo h set d ||| 2 ^ r) else aho N wo h set d
theorem aho_lt {N : Nat → Nat → Nat} (hI : inv N) {wo : Int32} {h set : Nat} (hs : set < 64) : ∀ d, d ≤ N 0 1 → aho N wo h set d < 64
  | 0, _ => hs
  | d + 1, hd => by
    have ih := aho_lt hI (wo := wo) (h := h) hs d (by omega)
    unfold aho
    split
    · split
      · exact ih
      · rename_i r e
        have := ld_lt hI (show d < N 0 1 by omega) r e
        have := hI.R
        exact or_lt ih (by omega)
    · exact ih
def ah (N : Nat → Nat → Nat) (wo : Int32) (h set : Nat) : Nat := aho N wo h set (N 0 1)
theorem ah_lt {N : Nat → Nat → Nat} (hI : inv N) {wo : Int32} {h set : Nat} (hs : set < 64) : ah N wo h set < 64 := aho_lt hI hs _ (Nat.le_refl _)
/-- the fewest hours: so many looks are left, it is t, one can be in these rooms -/
def fw (N : Nat → Nat → Nat) (wo : Int32) (to hr : Nat) : Nat → Nat → Nat → Option Nat
  | 0, _, _ => none
  | f + 1, t, set => if set.testBit to = true then some t else fw N wo to hr f (t + 1) (ah N wo ((hr + t) % 12) set)
theorem fw_lt {N : Nat → Nat → Nat} {wo : Int32} {to hr : Nat} : ∀ f t set r, fw N wo to hr f t set = some r → r < t + f
  | 0, _, _, _, h => by cases h
  | f + 1, t, set, r, h => by
    unfold fw at h
    split at h
    · cases h; omega
    · have := fw_lt f (t + 1) _ r h
      omega
def sn (N : Nat → Nat → Nat) (wo : Int32) (fr to hr most : Nat) : Option Nat := fw N wo to hr (most + 1) 0 (2 ^ fr)
theorem sn_lt {N : Nat → Nat → Nat} {wo : Int32} {fr to hr most : Nat} : ∀ r, sn N wo fr to hr most = some r → r < most + 1 := fun r h => by have := fw_lt _ _ _ r h; omega
def ahn (N : Nat → Nat → Nat) (hr set : Nat) : Nat → Nat
  | 0 => set
  | t + 1 => ah N (-9) ((hr + t) % 12) (ahn N hr set t)
theorem ahn_lt {N : Nat → Nat → Nat} (hI : inv N) {hr set : Nat} (hs : set < 64) : ∀ t, ahn N hr set t < 64
  | 0 => hs
  | t + 1 => ah_lt hI (ahn_lt hI hs t)
/-- an hour ahead: from where one can be in the set -/
def ahbo (N : Nat → Nat → Nat) (h set : Nat) : Nat → Nat
  | 0 => set
  | d + 1 => match ld N d h with
    | none => ahbo N h set d
    | some r => if set.testBit r = true then ahbo N h set d ||| 2 ^ N 2 d else ahbo N h set d
theorem ahbo_lt {N : Nat → Nat → Nat} (hI : inv N) {h set : Nat} (hs : set < 64) : ∀ d, ahbo N h set d < 64
  | 0 => hs
  | d + 1 => by
    have ih := ahbo_lt hI (h := h) hs d
    unfold ahbo
    split
    · exact ih
    · split
      · exact or_lt ih (hI.door d).2.1
      · exact ih
def ahb (N : Nat → Nat → Nat) (h set : Nat) : Nat := ahbo N h set (N 0 1)
theorem ahb_lt {N : Nat → Nat → Nat} (hI : inv N) {h set : Nat} (hs : set < 64) : ahb N h set < 64 := ahbo_lt hI hs _
/-- j hours ahead of the end -/
def hbk (N : Nat → Nat → Nat) (to hr hours : Nat) : Nat → Nat
  | 0 => 2 ^ to
  | j + 1 => ahb N ((hr + (hours - (j + 1))) % 12) (hbk N to hr hours j)
theorem hbk_lt {N : Nat → Nat → Nat} (hI : inv N) {to hr hours : Nat} (ht : to < 6) : ∀ j, hbk N to hr hours j < 64
  | 0 => pow_lt6 ht
  | j + 1 => ahb_lt hI (hbk_lt hI ht j)
/-- the first act that leads into the set -/
def fha (N : Nat → Nat → Nat) (room h set : Nat) : Nat → Nat → Nat
  | 0, _ => N 0 1
  | f + 1, a => match bh N (-9) room h a with
    | none => fha N room h set f (a + 1)
    | some r => if set.testBit r = true then a else fha N room h set f (a + 1)
theorem fha_le {N : Nat → Nat → Nat} {room h set : Nat} : ∀ f a, a + f ≤ N 0 1 → fha N room h set f a ≤ N 0 1
  | 0, a, _ => Nat.le_refl _
  | f + 1, a, ha => by
    unfold fha
    split
    · exact fha_le f (a + 1) (by omega)
    · split
      · omega
      · exact fha_le f (a + 1) (by omega)
theorem fha_some {N : Nat → Nat → Nat} {room h set : Nat} : ∀ f a, ∃ r, bh N (-9) room h (fha N room h set f a) = some r
  | 0, a => ⟨room, by unfold fha bh; simp⟩
  | f + 1, a => by
    unfold fha
    split
    · exact fha_some f (a + 1)
    · split
      · rename_i r e _; exact ⟨r, e⟩
      · exact fha_some f (a + 1)
/-- the rooms and acts of the first soonest walk -/
def rmS (N : Nat → Nat → Nat) (fr to hr hours : Nat) : Nat → Nat
  | 0 => fr
  | t + 1 => (bh N (-9) (rmS N fr to hr hours t) ((hr + t) % 12) (fha N (rmS N fr to hr hours t) ((hr + t) % 12) (hbk N to hr hours (hours - (t + 1))) (N 0 1) 0)).getD 0
def actS (N : Nat → Nat → Nat) (fr to hr hours t : Nat) : Nat := fha N (rmS N fr to hr hours t) ((hr + t) % 12) (hbk N to hr hours (hours - (t + 1))) (N 0 1) 0
theorem rmS_lt {N : Nat → Nat → Nat} (hI : inv N) {fr to hr hours : Nat} (hf : fr < N 0 0) : ∀ t, rmS N fr to hr hours t < N 0 0
  | 0 => hf
  | t + 1 => by
    unfold rmS
    obtain ⟨r, e⟩ := fha_some (N := N) (room := rmS N fr to hr hours t) (h := (hr + t) % 12) (set := hbk N to hr hours (hours - (t + 1))) (N 0 1) 0
    rw [e]
    exact bh_lt hI (rmS_lt hI hf t) (fha_le _ _ (by omega)) r e
/-- are all readings so -/
def rdo (N : Nat → Nat → Nat) (zr : Nat → Int32) : Nat → Bool
  | 0 => true
  | k + 1 => rdo N zr k && decide (oI (ld N (N 5 k) (N 6 k)) = zr k)
theorem tb_ne {s k : Nat} (h : s / 2 ^ k &&& 1 ≠ 0) : s.testBit k = true := by
  cases hb : s.testBit k with
  | true => rfl
  | false => exact absurd ((tb_and s k).mpr hb) h
theorem tb_ne1 {s k : Nat} (h : s / 2 ^ k &&& 1 ≠ 1) : s.testBit k = false := by
  cases hb : s.testBit k with
  | false => rfl
  | true => exact absurd ((tb_and1 s k).mpr hb) h
theorem bh_own {N : Nat → Nat → Nat} {wo : Int32} {h d : Nat} (hd : d < N 0 1) : bh N wo (N 2 d) h d = if nI d = wo then none else ld N d h := by
  unfold bh
  rw [if_neg (by omega)]
  by_cases e : nI d = wo <;> simp [e]
theorem aho_bh {N : Nat → Nat → Nat} {wo : Int32} {h set d : Nat} (hd : d < N 0 1) : aho N wo h set (d + 1) = if set.testBit (N 2 d) = true then (match bh N wo (N 2 d) h d with | none => aho N wo h set d | some r => aho N wo h set d ||| 2 ^ r) else aho N wo h set d := by
  rw [bh_own hd, aho]
  by_cases e : nI d = wo <;> by_cases f : set.testBit (N 2 d) = true <;> simp [e, f]
theorem fw_succ {N : Nat → Nat → Nat} {wo : Int32} {to hr f t set : Nat} : fw N wo to hr (f + 1) t set = if set.testBit to = true then some t else fw N wo to hr f (t + 1) (ah N wo ((hr + t) % 12) set) := rfl
theorem fha_succ {N : Nat → Nat → Nat} {room h set f a : Nat} : fha N room h set (f + 1) a = match bh N (-9) room h a with | none => fha N room h set f (a + 1) | some r => if set.testBit r = true then a else fha N room h set f (a + 1) := rfl
theorem ah_end {N : Nat → Nat → Nat} {wo : Int32} {h set d : Nat} (e : d = N 0 1) : aho N wo h set d = ah N wo h set := by rw [e]; rfl
end
section
set_option maxHeartbeats 4000000 in
set_option maxRecDepth 100000 in
theorem m_in {l : Launch} {D : va_G} {tys : List (ClassId × FieldType)} {σ : Type} {w : σ → va_W} {S : σ} {t : Option Nat} (v lo hi : Int64)  : ctI l D tys t w yX3_in cX3_in 6 (some .boolean) (rmk 0 0) [.long v, .long lo, .long hi] S (fun (r : Int32) (u : σ) => u = S ∧ r = bI (inL v lo hi)) := by
  refine ctI_of [(0, .long v), (2, .long lo), (4, .long hi)] (by decide) (Nat.le_of_ble_eq_true rfl) rfl ?_
  intro p e s m args below meth c A C hK hZ hA
  refine hd_lload_n 1 C dX3_in_0 rfl 0 rfl rfl ?_
  refine hd_lload_n 2 C dX3_in_1 rfl 1 rfl rfl ?_
  refine hd_lc_lt 6 17 C dX3_in_2 dX3_in_3 rfl (by decide) (fun h2 => ?_) (fun h2 => ?_)
  · skip
    refine hd_iconst 18 C dX3_in_17 rfl (nI 0) (by decide) ?_
    exact hd_zret C hK dX3_in_18 (by decide) ⟨rfl, bI_is0 (decide_eq_false (by simp only [fa_lt64] at *; omega))⟩
  · skip
    refine hd_lload_n 7 C dX3_in_6 rfl 0 rfl rfl ?_
    refine hd_lload 9 C dX3_in_7 rfl 2 rfl ?_
    refine hd_lc_gt 13 17 C dX3_in_9 dX3_in_10 rfl (by decide) (fun h9 => ?_) (fun h9 => ?_)
    · skip
      refine hd_iconst 18 C dX3_in_17 rfl (nI 0) (by decide) ?_
      exact hd_zret C hK dX3_in_18 (by decide) ⟨rfl, bI_is0 (decide_eq_false (by simp only [fa_lt64] at *; omega))⟩
    · skip
      refine hd_iconst 14 C dX3_in_13 rfl (nI 1) (by decide) ?_
      refine hd_goto 18 C dX3_in_14 (by decide) ?_
      exact hd_zret C hK dX3_in_18 (by decide) ⟨rfl, bI_is1 (decide_eq_true (by simp only [fa_lt64] at *; omega))⟩

set_option maxHeartbeats 4000000 in
set_option maxRecDepth 100000 in
theorem m_lost {l : Launch} {D : va_G} {tys : List (ClassId × FieldType)} {σ : Type} {w : σ → va_W} {S : σ} {t : Option Nat}   : ctL l D tys t w yX3_lost cX3_lost 0 (some .long) (rmk 0 0) [] S (fun (r : Int64) (u : σ) => u = S ∧ r = -9223372036854775808) := by
  refine ctL_of [] (by decide) (Nat.le_of_ble_eq_true rfl) rfl ?_
  intro p e s m args below meth c A C hK hZ hA
  refine hd_ldc2 3 C dX3_lost_0 rfl kl_X3_65 ?_
  exact hd_lret C hK dX3_lost_3 ⟨rfl, rfl⟩

set_option maxHeartbeats 4000000 in
set_option maxRecDepth 100000 in
theorem x_isHour {l : Launch} {D : va_G} {tys : List (ClassId × FieldType)} {σ : Type} {w : σ → va_W} {S : σ} {t : Option Nat} (x : Int32)  : ctI l D tys t w yX2_isHour cX2_isHour 1 (some .boolean) (rmk 0 0) [.int x] S (fun (r : Int32) (u : σ) => u = S ∧ r = bI (inB x 12)) := by
  refine ctI_of [(0, .int x)] (by decide) (Nat.le_of_ble_eq_true rfl) rfl ?_
  intro p e s m args below meth c A C hK hZ hA
  refine hd_iload_n 1 C dX2_isHour_0 rfl 0 rfl rfl ?_
  refine hd_if_lt 4 14 C dX2_isHour_1 rfl (by decide) (fun h1 => ?_) (fun h1 => ?_)
  · skip
    refine hd_iconst 15 C dX2_isHour_14 rfl (nI 0) (by decide) ?_
    exact hd_zret C hK dX2_isHour_15 (by decide) ⟨rfl, bI_is0 (inB_neg h1)⟩
  · skip
    refine hd_iload_n 5 C dX2_isHour_4 rfl 0 rfl rfl ?_
    refine hd_bipush 7 C dX2_isHour_5 rfl (nI 12) (by decide) ?_
    refine hd_icmp_ge 10 14 C dX2_isHour_7 rfl (by decide) (fun h7 => ?_) (fun h7 => ?_)
    · skip
      refine hd_iconst 15 C dX2_isHour_14 rfl (nI 0) (by decide) ?_
      exact hd_zret C hK dX2_isHour_15 (by decide) ⟨rfl, bI_is0 (inB_big (by decide) h7)⟩
    · skip
      refine hd_iconst 11 C dX2_isHour_10 rfl (nI 1) (by decide) ?_
      refine hd_goto 15 C dX2_isHour_11 (by decide) ?_
      exact hd_zret C hK dX2_isHour_15 (by decide) ⟨rfl, bI_is1 (inB_ok (by decide) h1 h7)⟩

set_option maxHeartbeats 4000000 in
set_option maxRecDepth 100000 in
theorem x_isSheet {l : Launch} {D : va_G} {tys : List (ClassId × FieldType)} {σ : Type} {w : σ → va_W} {S : σ} {t : Option Nat} (x : Int32)  : ctI l D tys t w yX2_isSheet cX2_isSheet 1 (some .boolean) (rmk 0 0) [.int x] S (fun (r : Int32) (u : σ) => u = S ∧ r = bI (inB x 4)) := by
  refine ctI_of [(0, .int x)] (by decide) (Nat.le_of_ble_eq_true rfl) rfl ?_
  intro p e s m args below meth c A C hK hZ hA
  refine hd_iload_n 1 C dX2_isSheet_0 rfl 0 rfl rfl ?_
  refine hd_if_lt 4 13 C dX2_isSheet_1 rfl (by decide) (fun h1 => ?_) (fun h1 => ?_)
  · skip
    refine hd_iconst 14 C dX2_isSheet_13 rfl (nI 0) (by decide) ?_
    exact hd_zret C hK dX2_isSheet_14 (by decide) ⟨rfl, bI_is0 (inB_neg h1)⟩
  · skip
    refine hd_iload_n 5 C dX2_isSheet_4 rfl 0 rfl rfl ?_
    refine hd_iconst 6 C dX2_isSheet_5 rfl (nI 4) (by decide) ?_
    refine hd_icmp_ge 9 13 C dX2_isSheet_6 rfl (by decide) (fun h6 => ?_) (fun h6 => ?_)
    · skip
      refine hd_iconst 14 C dX2_isSheet_13 rfl (nI 0) (by decide) ?_
      exact hd_zret C hK dX2_isSheet_14 (by decide) ⟨rfl, bI_is0 (inB_big (by decide) h6)⟩
    · skip
      refine hd_iconst 10 C dX2_isSheet_9 rfl (nI 1) (by decide) ?_
      refine hd_goto 14 C dX2_isSheet_10 (by decide) ?_
      exact hd_zret C hK dX2_isSheet_14 (by decide) ⟨rfl, bI_is1 (inB_ok (by decide) h1 h6)⟩

set_option maxHeartbeats 4000000 in
set_option maxRecDepth 100000 in
theorem x_isLane {l : Launch} {D : va_G} {tys : List (ClassId × FieldType)} {σ : Type} {w : σ → va_W} {S : σ} {t : Option Nat} (x : Int32)  : ctI l D tys t w yX2_isLane cX2_isLane 1 (some .boolean) (rmk 0 0) [.int x] S (fun (r : Int32) (u : σ) => u = S ∧ r = bI (inB x 3)) := by
  refine ctI_of [(0, .int x)] (by decide) (Nat.le_of_ble_eq_true rfl) rfl ?_
  intro p e s m args below meth c A C hK hZ hA
  refine hd_iload_n 1 C dX2_isLane_0 rfl 0 rfl rfl ?_
  refine hd_if_lt 4 13 C dX2_isLane_1 rfl (by decide) (fun h1 => ?_) (fun h1 => ?_)
  · skip
    refine hd_iconst 14 C dX2_isLane_13 rfl (nI 0) (by decide) ?_
    exact hd_zret C hK dX2_isLane_14 (by decide) ⟨rfl, bI_is0 (inB_neg h1)⟩
  · skip
    refine hd_iload_n 5 C dX2_isLane_4 rfl 0 rfl rfl ?_
    refine hd_iconst 6 C dX2_isLane_5 rfl (nI 3) (by decide) ?_
    refine hd_icmp_ge 9 13 C dX2_isLane_6 rfl (by decide) (fun h6 => ?_) (fun h6 => ?_)
    · skip
      refine hd_iconst 14 C dX2_isLane_13 rfl (nI 0) (by decide) ?_
      exact hd_zret C hK dX2_isLane_14 (by decide) ⟨rfl, bI_is0 (inB_big (by decide) h6)⟩
    · skip
      refine hd_iconst 10 C dX2_isLane_9 rfl (nI 1) (by decide) ?_
      refine hd_goto 14 C dX2_isLane_10 (by decide) ?_
      exact hd_zret C hK dX2_isLane_14 (by decide) ⟨rfl, bI_is1 (inB_ok (by decide) h1 h6)⟩

set_option maxHeartbeats 4000000 in
set_option maxRecDepth 100000 in
theorem x0_leadsTo {l : Launch} {D : va_G} {tys : List (ClassId × FieldType)} {σ : Type} {w : σ → va_W} {S : σ} {t : Option Nat} {q0 b kd rm to st h Rm : Nat} (he : (w S)[q0]? = some (b, .inr (0, [.int (nI kd), .int (nI rm), .int (nI to), .int (nI st)]))) (hk : kd < 3) (ht : to < 6) (hs : st < 6) (hh : h < 12) (hR : 0 < Rm) (hR6 : Rm ≤ 6) : ctI l D tys t w yX0_leadsTo cX0_leadsTo 4 (some .int) (rmk 0 0) [.ref b, .int (nI h), .int (nI Rm)] S (fun (r : Int32) (u : σ) => u = S ∧ r = oI (ld0 kd to st h Rm)) := by
  refine ctI_of [(0, .ref b), (1, .int (nI h)), (2, .int (nI Rm))] (by decide) (Nat.le_of_ble_eq_true rfl) rfl ?_
  intro p e s m args below meth c A C hK hZ hA
  refine hd_iload_n 1 C dX0_leadsTo_0 rfl 2 rfl rfl ?_
  refine hd_if_gtN 4 7 C dX0_leadsTo_1 rfl (by decide) (by omega) (fun h1 => ?_) (fun h1 => ?_)
  · skip
    refine hd_aload_n 8 C dX0_leadsTo_7 rfl 0 rfl rfl ?_
    refine hd_get (v := .int (nI kd)) 11 C hK dX0_leadsTo_8 rfl q0 he rfl inX0 0 (by decide) kf_X0_9 rfl rfl ?_
    refine hd_iconst 12 C dX0_leadsTo_11 rfl (nI 2) (by decide) ?_
    refine hd_icmp_neN 15 24 C dX0_leadsTo_12 rfl (by decide) (by omega) (by omega) (fun h12 => ?_) (fun h12 => ?_)
    · skip
      refine hd_aload_n 25 C dX0_leadsTo_24 rfl 0 rfl rfl ?_
      refine hd_get (v := .int (nI kd)) 28 C hK dX0_leadsTo_25 rfl q0 he rfl inX0 0 (by decide) kf_X0_9 rfl rfl ?_
      refine hd_if_neN 31 35 C dX0_leadsTo_28 rfl (by decide) (by omega) (fun h28 => ?_) (fun h28 => ?_)
      · skip
        refine hd_iload_n 36 C dX0_leadsTo_35 rfl 1 rfl rfl ?_
        refine hd_bipush 38 C dX0_leadsTo_36 rfl (nI 12) (by decide) ?_
        refine hd_iadd 39 C dX0_leadsTo_38 rfl (nI (h + 12)) (nI_add _ _) ?_
        refine hd_iconst 40 C dX0_leadsTo_39 rfl (nI 1) (by decide) ?_
        refine hd_isub 41 C dX0_leadsTo_40 rfl (nI ((h + 12) - 1)) (pk_sub (by omega)) ?_
        refine hd_bipush 43 C dX0_leadsTo_41 rfl (nI 12) (by decide) ?_
        refine hd_irem 44 C dX0_leadsTo_43 rfl (nI (((h + 12) - 1) % 12)) (nI_ne0 (by omega) (by omega)) (pk_rem (by omega) (by omega) (by omega)) ?_
        refine hd_istore_n 45 C dX0_leadsTo_44 rfl [(3, .int (nI (((h + 12) - 1) % 12))), (0, .ref b), (1, .int (nI h)), (2, .int (nI Rm))] rfl (by decide) rfl ?_
        refine hd_aload_n 46 C dX0_leadsTo_45 rfl 1 rfl rfl ?_
        refine hd_get (v := .int (nI to)) 49 C hK dX0_leadsTo_46 rfl q0 he rfl inX0 2 (by decide) kf_X0_18 rfl rfl ?_
        refine hd_aload_n 50 C dX0_leadsTo_49 rfl 1 rfl rfl ?_
        refine hd_get (v := .int (nI st)) 53 C hK dX0_leadsTo_50 rfl q0 he rfl inX0 3 (by decide) kf_X0_21 rfl rfl ?_
        refine hd_iload_n 54 C dX0_leadsTo_53 rfl 0 rfl rfl ?_
        refine hd_imul 55 C dX0_leadsTo_54 rfl (nI (st * (((h + 12) - 1) % 12))) (pk_mul _ _) ?_
        refine hd_iadd 56 C dX0_leadsTo_55 rfl (nI (to + (st * (((h + 12) - 1) % 12)))) (nI_add _ _) ?_
        refine hd_iload_n 57 C dX0_leadsTo_56 rfl 3 rfl rfl ?_
        have hm := mul_le (Nat.le_of_lt_succ hs) (show ((h + 12) - 1) % 12 ≤ 11 by omega)
        refine hd_irem 58 C dX0_leadsTo_57 rfl (nI ((to + (st * (((h + 12) - 1) % 12))) % Rm)) (nI_ne0 (by omega) (by omega)) (pk_rem (by omega) (by omega) (by omega)) ?_
        exact hd_iret C hK dX0_leadsTo_58 ⟨rfl, by first | (exfalso; omega) | simp [ld0, oI, h1, h12, h28]⟩
      · skip
        refine hd_iload_n 32 C dX0_leadsTo_31 rfl 1 rfl rfl ?_
        refine hd_goto 44 C dX0_leadsTo_32 (by decide) ?_
        refine hd_istore_n 45 C dX0_leadsTo_44 rfl [(3, .int (nI h)), (0, .ref b), (1, .int (nI h)), (2, .int (nI Rm))] rfl (by decide) rfl ?_
        refine hd_aload_n 46 C dX0_leadsTo_45 rfl 1 rfl rfl ?_
        refine hd_get (v := .int (nI to)) 49 C hK dX0_leadsTo_46 rfl q0 he rfl inX0 2 (by decide) kf_X0_18 rfl rfl ?_
        refine hd_aload_n 50 C dX0_leadsTo_49 rfl 1 rfl rfl ?_
        refine hd_get (v := .int (nI st)) 53 C hK dX0_leadsTo_50 rfl q0 he rfl inX0 3 (by decide) kf_X0_21 rfl rfl ?_
        refine hd_iload_n 54 C dX0_leadsTo_53 rfl 0 rfl rfl ?_
        refine hd_imul 55 C dX0_leadsTo_54 rfl (nI (st * h)) (pk_mul _ _) ?_
        refine hd_iadd 56 C dX0_leadsTo_55 rfl (nI (to + (st * h))) (nI_add _ _) ?_
        refine hd_iload_n 57 C dX0_leadsTo_56 rfl 3 rfl rfl ?_
        have hm := mul_le (Nat.le_of_lt_succ hs) (show h ≤ 11 by omega)
        refine hd_irem 58 C dX0_leadsTo_57 rfl (nI ((to + (st * h)) % Rm)) (nI_ne0 (by omega) (by omega)) (pk_rem (by omega) (by omega) (by omega)) ?_
        exact hd_iret C hK dX0_leadsTo_58 ⟨rfl, by first | (exfalso; omega) | simp [ld0, oI, h1, h12, h28]⟩
    · skip
      refine hd_iload_n 16 C dX0_leadsTo_15 rfl 1 rfl rfl ?_
      refine hd_iconst 17 C dX0_leadsTo_16 rfl (nI 3) (by decide) ?_
      refine hd_irem 18 C dX0_leadsTo_17 rfl (nI (h % 3)) (nI_ne0 (by omega) (by omega)) (pk_rem (by omega) (by omega) (by omega)) ?_
      refine hd_if_eqN 21 24 C dX0_leadsTo_18 rfl (by decide) (by omega) (fun h18 => ?_) (fun h18 => ?_)
      · skip
        refine hd_aload_n 25 C dX0_leadsTo_24 rfl 0 rfl rfl ?_
        refine hd_get (v := .int (nI kd)) 28 C hK dX0_leadsTo_25 rfl q0 he rfl inX0 0 (by decide) kf_X0_9 rfl rfl ?_
        refine hd_if_neN 31 35 C dX0_leadsTo_28 rfl (by decide) (by omega) (fun h28 => ?_) (fun h28 => ?_)
        · skip
          refine hd_iload_n 36 C dX0_leadsTo_35 rfl 1 rfl rfl ?_
          refine hd_bipush 38 C dX0_leadsTo_36 rfl (nI 12) (by decide) ?_
          refine hd_iadd 39 C dX0_leadsTo_38 rfl (nI (h + 12)) (nI_add _ _) ?_
          refine hd_iconst 40 C dX0_leadsTo_39 rfl (nI 1) (by decide) ?_
          refine hd_isub 41 C dX0_leadsTo_40 rfl (nI ((h + 12) - 1)) (pk_sub (by omega)) ?_
          refine hd_bipush 43 C dX0_leadsTo_41 rfl (nI 12) (by decide) ?_
          refine hd_irem 44 C dX0_leadsTo_43 rfl (nI (((h + 12) - 1) % 12)) (nI_ne0 (by omega) (by omega)) (pk_rem (by omega) (by omega) (by omega)) ?_
          refine hd_istore_n 45 C dX0_leadsTo_44 rfl [(3, .int (nI (((h + 12) - 1) % 12))), (0, .ref b), (1, .int (nI h)), (2, .int (nI Rm))] rfl (by decide) rfl ?_
          refine hd_aload_n 46 C dX0_leadsTo_45 rfl 1 rfl rfl ?_
          refine hd_get (v := .int (nI to)) 49 C hK dX0_leadsTo_46 rfl q0 he rfl inX0 2 (by decide) kf_X0_18 rfl rfl ?_
          refine hd_aload_n 50 C dX0_leadsTo_49 rfl 1 rfl rfl ?_
          refine hd_get (v := .int (nI st)) 53 C hK dX0_leadsTo_50 rfl q0 he rfl inX0 3 (by decide) kf_X0_21 rfl rfl ?_
          refine hd_iload_n 54 C dX0_leadsTo_53 rfl 0 rfl rfl ?_
          refine hd_imul 55 C dX0_leadsTo_54 rfl (nI (st * (((h + 12) - 1) % 12))) (pk_mul _ _) ?_
          refine hd_iadd 56 C dX0_leadsTo_55 rfl (nI (to + (st * (((h + 12) - 1) % 12)))) (nI_add _ _) ?_
          refine hd_iload_n 57 C dX0_leadsTo_56 rfl 3 rfl rfl ?_
          have hm := mul_le (Nat.le_of_lt_succ hs) (show ((h + 12) - 1) % 12 ≤ 11 by omega)
          refine hd_irem 58 C dX0_leadsTo_57 rfl (nI ((to + (st * (((h + 12) - 1) % 12))) % Rm)) (nI_ne0 (by omega) (by omega)) (pk_rem (by omega) (by omega) (by omega)) ?_
          exact hd_iret C hK dX0_leadsTo_58 ⟨rfl, by first | (exfalso; omega) | simp [ld0, oI, h1, h12, h18, h28]⟩
        · skip
          refine hd_iload_n 32 C dX0_leadsTo_31 rfl 1 rfl rfl ?_
          refine hd_goto 44 C dX0_leadsTo_32 (by decide) ?_
          refine hd_istore_n 45 C dX0_leadsTo_44 rfl [(3, .int (nI h)), (0, .ref b), (1, .int (nI h)), (2, .int (nI Rm))] rfl (by decide) rfl ?_
          refine hd_aload_n 46 C dX0_leadsTo_45 rfl 1 rfl rfl ?_
          refine hd_get (v := .int (nI to)) 49 C hK dX0_leadsTo_46 rfl q0 he rfl inX0 2 (by decide) kf_X0_18 rfl rfl ?_
          refine hd_aload_n 50 C dX0_leadsTo_49 rfl 1 rfl rfl ?_
          refine hd_get (v := .int (nI st)) 53 C hK dX0_leadsTo_50 rfl q0 he rfl inX0 3 (by decide) kf_X0_21 rfl rfl ?_
          refine hd_iload_n 54 C dX0_leadsTo_53 rfl 0 rfl rfl ?_
          refine hd_imul 55 C dX0_leadsTo_54 rfl (nI (st * h)) (pk_mul _ _) ?_
          refine hd_iadd 56 C dX0_leadsTo_55 rfl (nI (to + (st * h))) (nI_add _ _) ?_
          refine hd_iload_n 57 C dX0_leadsTo_56 rfl 3 rfl rfl ?_
          have hm := mul_le (Nat.le_of_lt_succ hs) (show h ≤ 11 by omega)
          refine hd_irem 58 C dX0_leadsTo_57 rfl (nI ((to + (st * h)) % Rm)) (nI_ne0 (by omega) (by omega)) (pk_rem (by omega) (by omega) (by omega)) ?_
          exact hd_iret C hK dX0_leadsTo_58 ⟨rfl, by first | (exfalso; omega) | simp [ld0, oI, h1, h12, h18, h28]⟩
      · skip
        refine hd_bipush 23 C dX0_leadsTo_21 rfl (-9) (by decide) ?_
        exact hd_iret C hK dX0_leadsTo_23 ⟨rfl, by first | (exfalso; omega) | simp [ld0, oI, h1, h12, h18]⟩
  · skip
    omega
end
section
theorem x_leadsTo {l : Launch} {D : va_G} {cI cJ cD cS : ClassId} {a : Nat → Nat} {N : Nat → Nat → Nat} {Z : Nat → Nat → Int32} {E : Nat → Nat → Int32} {G : Nat → Nat → Int64} {T : Nat → Nat} {t : Option Nat} (d h : Nat) (hI : inv N) (hd : d < 8) (hh : h < 12) (hR : 0 < N 0 0) : ctI l D (ty4 cI cJ cD cS) t (wX cI cJ cD cS a) yX0_leadsTo cX0_leadsTo 4 (some .int) (rmk 0 0) [.ref (a (20 + d)), .int (nI h), .int (nI (N 0 0))] (N, Z, E, G, T) (fun r u => u = (N, Z, E, G, T) ∧ r = oI (ld N d h)) :=
  x0_leadsTo (wX_door d hd) (hI.door d).1 (hI.door d).2.2.1 (hI.door d).2.2.2 hh hR hI.R
theorem x_leadsToT {l : Launch} {D : va_G} {cI cJ cD cS : ClassId} {a : Nat → Nat} {N : Nat → Nat → Nat} {Z : Nat → Nat → Int32} {E : Nat → Nat → Int32} {G : Nat → Nat → Int64} {T : Nat → Nat} {t : Option Nat} (h : Nat) (hI : inv N) (hT : T 0 < 3 ∧ T 2 < 6 ∧ T 3 < 6) (hh : h < 12) (hR : 0 < N 0 0) : ctI l D (ty4 cI cJ cD cS) t (wX cI cJ cD cS a) yX0_leadsTo cX0_leadsTo 4 (some .int) (rmk 0 0) [.ref (a 2), .int (nI h), .int (nI (N 0 0))] (N, Z, E, G, T) (fun r u => u = (N, Z, E, G, T) ∧ r = oI (ld0 (T 0) (T 2) (T 3) h (N 0 0))) :=
  x0_leadsTo (q0 := 2) rfl hT.1 hT.2.1 hT.2.2 hh hR hI.R

set_option maxHeartbeats 4000000 in
set_option maxRecDepth 100000 in
theorem x_has {l : Launch} {D : va_G} {tys : List (ClassId × FieldType)} {σ : Type} {w : σ → va_W} {S : σ} {t : Option Nat} (set k : Nat) (hs : set < 2 ^ 31) (hk : k < 31)  : ctI l D tys t w yX2_has cX2_has 2 (some .boolean) (rmk 0 0) [.int (nI set), .int (nI k)] S (fun (r : Int32) (u : σ) => u = S ∧ r = bI (set.testBit k)) := by
  refine ctI_of [(0, .int (nI set)), (1, .int (nI k))] (by decide) (Nat.le_of_ble_eq_true rfl) rfl ?_
  intro p e s m args below meth c A C hK hZ hA
  refine hd_iload_n 1 C dX2_has_0 rfl 0 rfl rfl ?_
  refine hd_iload_n 2 C dX2_has_1 rfl 1 rfl rfl ?_
  refine hd_ishr 3 C dX2_has_2 rfl (nI (set / 2 ^ k)) (nI_shr (by omega) (by omega)) ?_
  refine hd_iconst 4 C dX2_has_3 rfl (nI 1) (by decide) ?_
  refine hd_iand 5 C dX2_has_4 rfl (nI ((set / 2 ^ k) &&& 1)) (fa_and _ _) ?_
  have hb := and1_lt (set / 2 ^ k)
  refine hd_if_eqN 8 12 C dX2_has_5 rfl (by decide) (by omega) (fun h5 => ?_) (fun h5 => ?_)
  · skip
    refine hd_iconst 13 C dX2_has_12 rfl (nI 0) (by decide) ?_
    exact hd_zret C hK dX2_has_13 (by decide) ⟨rfl, bI_is0 ((tb_and _ _).mp h5)⟩
  · skip
    refine hd_iconst 9 C dX2_has_8 rfl (nI 1) (by decide) ?_
    refine hd_goto 13 C dX2_has_9 (by decide) ?_
    exact hd_zret C hK dX2_has_13 (by decide) ⟨rfl, bI_is1 (tb_ne h5)⟩

set_option maxHeartbeats 4000000 in
set_option maxRecDepth 100000 in
theorem m_isIn {l : Launch} {D : va_G} {tys : List (ClassId × FieldType)} {σ : Type} {w : σ → va_W} {S : σ} {t : Option Nat} (set k : Nat) (hs : set < 2 ^ 31) (hk : k < 31)  : ctI l D tys t w yX3_isIn cX3_isIn 2 (some .boolean) (rmk 0 0) [.int (nI set), .int (nI k)] S (fun (r : Int32) (u : σ) => u = S ∧ r = bI (set.testBit k)) := by
  refine ctI_of [(0, .int (nI set)), (1, .int (nI k))] (by decide) (Nat.le_of_ble_eq_true rfl) rfl ?_
  intro p e s m args below meth c A C hK hZ hA
  refine hd_iload_n 1 C dX3_isIn_0 rfl 0 rfl rfl ?_
  refine hd_iload_n 2 C dX3_isIn_1 rfl 1 rfl rfl ?_
  refine hd_ishr 3 C dX3_isIn_2 rfl (nI (set / 2 ^ k)) (nI_shr (by omega) (by omega)) ?_
  refine hd_iconst 4 C dX3_isIn_3 rfl (nI 1) (by decide) ?_
  refine hd_iand 5 C dX3_isIn_4 rfl (nI ((set / 2 ^ k) &&& 1)) (fa_and _ _) ?_
  refine hd_iconst 6 C dX3_isIn_5 rfl (nI 1) (by decide) ?_
  have hb := and1_lt (set / 2 ^ k)
  refine hd_icmp_neN 9 13 C dX3_isIn_6 rfl (by decide) (by omega) (by omega) (fun h6 => ?_) (fun h6 => ?_)
  · skip
    refine hd_iconst 14 C dX3_isIn_13 rfl (nI 0) (by decide) ?_
    exact hd_zret C hK dX3_isIn_14 (by decide) ⟨rfl, bI_is0 (tb_ne1 h6)⟩
  · skip
    refine hd_iconst 10 C dX3_isIn_9 rfl (nI 1) (by decide) ?_
    refine hd_goto 14 C dX3_isIn_10 (by decide) ?_
    exact hd_zret C hK dX3_isIn_14 (by decide) ⟨rfl, bI_is1 ((tb_and1 _ _).mp h6)⟩

set_option maxHeartbeats 4000000 in
set_option maxRecDepth 100000 in
theorem x_isRoom {l : Launch} {D : va_G} {cI cJ cD cS : ClassId} {a : Nat → Nat} {N : Nat → Nat → Nat} {Z : Nat → Nat → Int32} {E : Nat → Nat → Int32} {G : Nat → Nat → Int64} {T : Nat → Nat} {t : Option Nat} (x : Int32) (hI : inv N)  : ctI l D (ty4 cI cJ cD cS) t (wX cI cJ cD cS a) yX2_isRoom cX2_isRoom 2 (some .boolean) (rmk 0 0) [.ref (a 0), .int x] (N, Z, E, G, T) (fun (r : Int32) (u : sT) => u = (N, Z, E, G, T) ∧ r = bI (inB x (N 0 0))) := by
  refine ctI_of [(0, .ref (a 0)), (1, .int x)] (by decide) (Nat.le_of_ble_eq_true rfl) rfl ?_
  intro p e s m args below meth c A C hK hZ hA
  have hR := hI.R
  have hDn := hI.D
  refine hd_iload_n 1 C dX2_isRoom_0 rfl 1 rfl rfl ?_
  refine hd_if_lt 4 16 C dX2_isRoom_1 rfl (by decide) (fun h1 => ?_) (fun h1 => ?_)
  · skip
    refine hd_iconst 17 C dX2_isRoom_16 rfl (nI 0) (by decide) ?_
    exact hd_zret C hK dX2_isRoom_17 (by decide) ⟨rfl, bI_is0 (inB_neg h1)⟩
  · skip
    refine hd_iload_n 5 C dX2_isRoom_4 rfl 1 rfl rfl ?_
    refine hd_aload_n 6 C dX2_isRoom_5 rfl 0 rfl rfl ?_
    refine gx_rooms 9 C hK dX2_isRoom_6 rfl (nI (N 0 0)) rfl ?_
    refine hd_icmp_ge 12 16 C dX2_isRoom_9 rfl (by decide) (fun h9 => ?_) (fun h9 => ?_)
    · skip
      refine hd_iconst 17 C dX2_isRoom_16 rfl (nI 0) (by decide) ?_
      exact hd_zret C hK dX2_isRoom_17 (by decide) ⟨rfl, bI_is0 (inB_big (by omega) h9)⟩
    · skip
      refine hd_iconst 13 C dX2_isRoom_12 rfl (nI 1) (by decide) ?_
      refine hd_goto 17 C dX2_isRoom_13 (by decide) ?_
      exact hd_zret C hK dX2_isRoom_17 (by decide) ⟨rfl, bI_is1 (inB_ok (by omega) h1 h9)⟩

set_option maxHeartbeats 4000000 in
set_option maxRecDepth 100000 in
theorem x_isDoor {l : Launch} {D : va_G} {cI cJ cD cS : ClassId} {a : Nat → Nat} {N : Nat → Nat → Nat} {Z : Nat → Nat → Int32} {E : Nat → Nat → Int32} {G : Nat → Nat → Int64} {T : Nat → Nat} {t : Option Nat} (x : Int32) (hI : inv N)  : ctI l D (ty4 cI cJ cD cS) t (wX cI cJ cD cS a) yX2_isDoor cX2_isDoor 2 (some .boolean) (rmk 0 0) [.ref (a 0), .int x] (N, Z, E, G, T) (fun (r : Int32) (u : sT) => u = (N, Z, E, G, T) ∧ r = bI (inB x (N 0 1))) := by
  refine ctI_of [(0, .ref (a 0)), (1, .int x)] (by decide) (Nat.le_of_ble_eq_true rfl) rfl ?_
  intro p e s m args below meth c A C hK hZ hA
  have hR := hI.R
  have hDn := hI.D
  refine hd_iload_n 1 C dX2_isDoor_0 rfl 1 rfl rfl ?_
  refine hd_if_lt 4 16 C dX2_isDoor_1 rfl (by decide) (fun h1 => ?_) (fun h1 => ?_)
  · skip
    refine hd_iconst 17 C dX2_isDoor_16 rfl (nI 0) (by decide) ?_
    exact hd_zret C hK dX2_isDoor_17 (by decide) ⟨rfl, bI_is0 (inB_neg h1)⟩
  · skip
    refine hd_iload_n 5 C dX2_isDoor_4 rfl 1 rfl rfl ?_
    refine hd_aload_n 6 C dX2_isDoor_5 rfl 0 rfl rfl ?_
    refine gx_doorCount 9 C hK dX2_isDoor_6 rfl (nI (N 0 1)) rfl ?_
    refine hd_icmp_ge 12 16 C dX2_isDoor_9 rfl (by decide) (fun h9 => ?_) (fun h9 => ?_)
    · skip
      refine hd_iconst 17 C dX2_isDoor_16 rfl (nI 0) (by decide) ?_
      exact hd_zret C hK dX2_isDoor_17 (by decide) ⟨rfl, bI_is0 (inB_big (by omega) h9)⟩
    · skip
      refine hd_iconst 13 C dX2_isDoor_12 rfl (nI 1) (by decide) ?_
      refine hd_goto 17 C dX2_isDoor_13 (by decide) ?_
      exact hd_zret C hK dX2_isDoor_17 (by decide) ⟨rfl, bI_is1 (inB_ok (by omega) h1 h9)⟩

set_option maxHeartbeats 4000000 in
set_option maxRecDepth 100000 in
theorem x_faulted {l : Launch} {D : va_G} {cI cJ cD cS : ClassId} {a : Nat → Nat} {N : Nat → Nat → Nat} {Z : Nat → Nat → Int32} {E : Nat → Nat → Int32} {G : Nat → Nat → Int64} {T : Nat → Nat} {t : Option Nat} (f : Int32)  : ctI l D (ty4 cI cJ cD cS) t (wX cI cJ cD cS a) yX2_faulted cX2_faulted 2 (some .int) (rmk 0 0) [.ref (a 0), .int f] (N, Z, E, G, T) (fun (r : Int32) (u : sT) => u = (N, uZ Z 0 1 f, E, G, T) ∧ r = -10 - f) := by
  refine ctI_of [(0, .ref (a 0)), (1, .int f)] (by decide) (Nat.le_of_ble_eq_true rfl) rfl ?_
  intro p e s m args below meth c A C hK hZ hA
  refine hd_aload_n 1 C dX2_faulted_0 rfl 0 rfl rfl ?_
  refine hd_iload_n 2 C dX2_faulted_1 rfl 1 rfl rfl ?_
  refine px_latestFault 5 C hK dX2_faulted_2 rfl ?_
  refine hd_bipush 7 C dX2_faulted_5 rfl (-10) (by decide) ?_
  refine hd_iload_n 8 C dX2_faulted_7 rfl 1 rfl rfl ?_
  refine hd_isub 9 C dX2_faulted_8 rfl ((-10) - f) rfl ?_
  exact hd_iret C hK dX2_faulted_9 ⟨rfl, rfl⟩

set_option maxHeartbeats 4000000 in
set_option maxRecDepth 100000 in
theorem x_allRooms {l : Launch} {D : va_G} {cI cJ cD cS : ClassId} {a : Nat → Nat} {N : Nat → Nat → Nat} {Z : Nat → Nat → Int32} {E : Nat → Nat → Int32} {G : Nat → Nat → Int64} {T : Nat → Nat} {t : Option Nat} (hI : inv N)  : ctI l D (ty4 cI cJ cD cS) t (wX cI cJ cD cS a) yX2_allRooms cX2_allRooms 1 (some .int) (rmk 0 0) [.ref (a 0)] (N, Z, E, G, T) (fun (r : Int32) (u : sT) => u = (N, Z, E, G, T) ∧ r = nI (2 ^ N 0 0 - 1)) := by
  refine ctI_of [(0, .ref (a 0))] (by decide) (Nat.le_of_ble_eq_true rfl) rfl ?_
  intro p e s m args below meth c A C hK hZ hA
  have hR := hI.R
  refine hd_iconst 1 C dX2_allRooms_0 rfl (nI 1) (by decide) ?_
  refine hd_aload_n 2 C dX2_allRooms_1 rfl 0 rfl rfl ?_
  refine gx_rooms 5 C hK dX2_allRooms_2 rfl (nI (N 0 0)) rfl ?_
  refine hd_ishl 6 C dX2_allRooms_5 rfl (nI (2 ^ (N 0 0))) (nI_shl1 (by omega)) ?_
  refine hd_iconst 7 C dX2_allRooms_6 rfl (nI 1) (by decide) ?_
  refine hd_isub 8 C dX2_allRooms_7 rfl (nI (2 ^ N 0 0 - 1)) (pk_sub Nat.one_le_two_pow) ?_
  exact hd_iret C hK dX2_allRooms_8 ⟨rfl, rfl⟩

set_option maxHeartbeats 4000000 in
set_option maxRecDepth 100000 in
theorem x_cutToLane {l : Launch} {D : va_G} {tys : List (ClassId × FieldType)} {σ : Type} {w : σ → va_W} {S : σ} {t : Option Nat} (v ln : Int32)  : ctI l D tys t w yX2_cutToLane cX2_cutToLane 2 (some .int) (rmk 0 0) [.int v, .int ln] S (fun (r : Int32) (u : σ) => u = S ∧ r = (if ln = 0 then v.toInt8.toInt32 else if ln = 1 then v.toInt16.toInt32 else v)) := by
  refine ctI_of [(0, .int v), (1, .int ln)] (by decide) (Nat.le_of_ble_eq_true rfl) rfl ?_
  intro p e s m args below meth c A C hK hZ hA
  refine hd_iload_n 1 C dX2_cutToLane_0 rfl 1 rfl rfl ?_
  refine hd_if_ne 4 7 C dX2_cutToLane_1 rfl (by decide) (fun h1 => ?_) (fun h1 => ?_)
  · skip
    refine hd_iload_n 8 C dX2_cutToLane_7 rfl 1 rfl rfl ?_
    refine hd_iconst 9 C dX2_cutToLane_8 rfl (nI 1) (by decide) ?_
    refine hd_icmp_ne 12 17 C dX2_cutToLane_9 rfl (by decide) (fun h9 => ?_) (fun h9 => ?_)
    · skip
      refine hd_iload_n 18 C dX2_cutToLane_17 rfl 0 rfl rfl ?_
      exact hd_iret C hK dX2_cutToLane_18 ⟨rfl, by have e1 : nI 1 = 1 := rfl; simp_all⟩
    · skip
      refine hd_iload_n 13 C dX2_cutToLane_12 rfl 0 rfl rfl ?_
      refine hd_i2s 14 C dX2_cutToLane_13 rfl v.toInt16.toInt32 rfl ?_
      refine hd_goto 18 C dX2_cutToLane_14 (by decide) ?_
      exact hd_iret C hK dX2_cutToLane_18 ⟨rfl, by have e1 : nI 1 = 1 := rfl; simp_all⟩
  · skip
    refine hd_iload_n 5 C dX2_cutToLane_4 rfl 0 rfl rfl ?_
    refine hd_i2b 6 C dX2_cutToLane_5 rfl v.toInt8.toInt32 rfl ?_
    exact hd_iret C hK dX2_cutToLane_6 ⟨rfl, by have e1 : nI 1 = 1 := rfl; simp_all⟩

set_option maxHeartbeats 4000000 in
set_option maxRecDepth 100000 in
theorem x_leaveNumber {l : Launch} {D : va_G} {cI cJ cD cS : ClassId} {a : Nat → Nat} {N : Nat → Nat → Nat} {Z : Nat → Nat → Int32} {E : Nat → Nat → Int32} {G : Nat → Nat → Int64} {T : Nat → Nat} {t : Option Nat} (b : Int32)  : ctV l D (ty4 cI cJ cD cS) t (wX cI cJ cD cS a) yX2_leaveNumber cX2_leaveNumber 2 none (rmk 0 0) [.ref (a 0), .int b] (N, Z, E, G, T) (fun (u : sT) => u = (N, uZ Z 0 0 (31 * Z 0 0 + b), E, G, T)) := by
  refine ctV_of [(0, .ref (a 0)), (1, .int b)] (by decide) (Nat.le_of_ble_eq_true rfl) rfl ?_
  intro p e s m args below meth c A C hK hZ hA
  refine hd_aload_n 1 C dX2_leaveNumber_0 rfl 0 rfl rfl ?_
  refine hd_bipush 3 C dX2_leaveNumber_1 rfl (nI 31) (by decide) ?_
  refine hd_aload_n 4 C dX2_leaveNumber_3 rfl 0 rfl rfl ?_
  refine gx_left 7 C hK dX2_leaveNumber_4 rfl (Z 0 0) rfl ?_
  refine hd_imul 8 C dX2_leaveNumber_7 rfl (31 * Z 0 0) rfl ?_
  refine hd_iload_n 9 C dX2_leaveNumber_8 rfl 1 rfl rfl ?_
  refine hd_iadd 10 C dX2_leaveNumber_9 rfl ((31 * Z 0 0) + b) rfl ?_
  refine px_left 13 C hK dX2_leaveNumber_10 rfl ?_
  exact hd_vret C hK dX2_leaveNumber_13 rfl

set_option maxHeartbeats 4000000 in
set_option maxRecDepth 100000 in
theorem x_roomAfter {l : Launch} {D : va_G} {cI cJ cD cS : ClassId} {a : Nat → Nat} {N : Nat → Nat → Nat} {Z : Nat → Nat → Int32} {E : Nat → Nat → Int32} {G : Nat → Nat → Int64} {T : Nat → Nat} {t : Option Nat} (act room h : Nat) (hI : inv N) (ha : act ≤ N 0 1) (hr : room < 6) (hh : h < 12)  : ctI l D (ty4 cI cJ cD cS) t (wX cI cJ cD cS a) yX2_roomAfter cX2_roomAfter 4 (some .int) (rmk 1 23) [.ref (a 0), .int (nI act), .int (nI room), .int (nI h)] (N, Z, E, G, T) (fun (r : Int32) (u : sT) => u = (N, Z, E, G, T) ∧ r = oI (bh N (-9) room h act)) := by
  refine ctI_of [(0, .ref (a 0)), (1, .int (nI act)), (2, .int (nI room)), (3, .int (nI h))] (by decide) (Nat.le_of_ble_eq_true rfl) rfl ?_
  intro p e s m args below meth c A C hK hZ hA
  have hR := hI.R
  have hDn := hI.D
  have hdr := hI.door act
  refine hd_iload_n 1 C dX2_roomAfter_0 rfl 1 rfl rfl ?_
  refine hd_aload_n 2 C dX2_roomAfter_1 rfl 0 rfl rfl ?_
  refine gx_doorCount 5 C hK dX2_roomAfter_2 rfl (nI (N 0 1)) rfl ?_
  refine hd_icmp_neN 8 10 C dX2_roomAfter_5 rfl (by decide) (by omega) (by omega) (fun h5 => ?_) (fun h5 => ?_)
  · skip
    refine hd_aload_n 11 C dX2_roomAfter_10 rfl 0 rfl rfl ?_
    refine hd_iload_n 12 C dX2_roomAfter_11 rfl 1 rfl rfl ?_
    refine hd_callVI (rest := []) 15 C hK hZ hA ⟨Nat.zero_le _, Nat.zero_le _⟩ dX2_roomAfter_12 rfl kc_X2_79 (x_isDoor (nI act) hI) ⟨rfl, rfl⟩ ⟨by decide, by decide⟩ 0 2 rfl rfl rfl rfl rfl (by decide) (fun r12 u12 h12 => ?_)
    obtain ⟨rfl, rfl⟩ := h12
    refine hd_if_eqB 18 31 C dX2_roomAfter_15 rfl (by decide) (fun h15 => ?_) (fun h15 => ?_)
    · skip
      rw [inB_nt (by omega) (by omega)] at h15; cases h15
    · skip
      refine hd_aload_n 19 C dX2_roomAfter_18 rfl 0 rfl rfl ?_
      refine gx_doors 22 C hK dX2_roomAfter_19 rfl ?_
      refine hd_iload_n 23 C dX2_roomAfter_22 rfl 1 rfl rfl ?_
      refine alx_doors 24 C hK dX2_roomAfter_23 rfl (by omega) ?_
      refine gd2_room (by omega) 27 C hK dX2_roomAfter_24 rfl (nI (N 2 act)) rfl ?_
      refine hd_iload_n 28 C dX2_roomAfter_27 rfl 2 rfl rfl ?_
      refine hd_icmp_eqN 31 34 C dX2_roomAfter_28 rfl (by decide) (by omega) (by omega) (fun h28 => ?_) (fun h28 => ?_)
      · skip
        refine hd_aload_n 35 C dX2_roomAfter_34 rfl 0 rfl rfl ?_
        refine gx_doors 38 C hK dX2_roomAfter_35 rfl ?_
        refine hd_iload_n 39 C dX2_roomAfter_38 rfl 1 rfl rfl ?_
        refine alx_doors 40 C hK dX2_roomAfter_39 rfl (by omega) ?_
        refine hd_iload_n 41 C dX2_roomAfter_40 rfl 3 rfl rfl ?_
        refine hd_aload_n 42 C dX2_roomAfter_41 rfl 0 rfl rfl ?_
        refine gx_rooms 45 C hK dX2_roomAfter_42 rfl (nI (N 0 0)) rfl ?_
        refine hd_callVI (rest := []) 48 C hK hZ hA ⟨Nat.zero_le _, Nat.zero_le _⟩ dX2_roomAfter_45 rfl kc_X2_100 (x_leadsTo act h hI (by omega) (by omega) (hI.pos (d := act) (by omega))) ⟨rfl, rfl⟩ ⟨by decide, by decide⟩ (10 + act) 0 (wX_door _ (by omega)) rfl rfl rfl rfl (by decide) (fun r45 u45 h45 => ?_)
        obtain ⟨rfl, rfl⟩ := h45
        exact hd_iret C hK dX2_roomAfter_48 ⟨rfl, by simp [bh, oI, nI_ne9 (show act < 2 ^ 31 by omega), h5, h15, h28]⟩
      · skip
        refine hd_bipush 33 C dX2_roomAfter_31 rfl (-9) (by decide) ?_
        exact hd_iret C hK dX2_roomAfter_33 ⟨rfl, by simp [bh, oI, nI_ne9 (show act < 2 ^ 31 by omega), h5, h15, h28]⟩
  · skip
    refine hd_iload_n 9 C dX2_roomAfter_8 rfl 2 rfl rfl ?_
    exact hd_iret C hK dX2_roomAfter_9 ⟨rfl, by simp [bh, oI, nI_ne9 (show act < 2 ^ 31 by omega), h5]⟩

set_option maxHeartbeats 4000000 in
set_option maxRecDepth 100000 in
theorem x_anHourOn {l : Launch} {D : va_G} {cI cJ cD cS : ClassId} {a : Nat → Nat} {N : Nat → Nat → Nat} {Z : Nat → Nat → Int32} {E : Nat → Nat → Int32} {G : Nat → Nat → Int64} {T : Nat → Nat} {t : Option Nat} (set h : Nat) (wo : Int32) (hI : inv N) (hs : set < 64) (hh : h < 12)  : ctI l D (ty4 cI cJ cD cS) t (wX cI cJ cD cS a) yX2_anHourOn cX2_anHourOn 7 (some .int) (rmk 1 23) [.ref (a 0), .int (nI set), .int (nI h), .int wo] (N, Z, E, G, T) (fun (r : Int32) (u : sT) => u = (N, Z, E, G, T) ∧ r = nI (ah N wo h set)) := by
  refine ctI_of [(0, .ref (a 0)), (1, .int (nI set)), (2, .int (nI h)), (3, .int wo)] (by decide) (Nat.le_of_ble_eq_true rfl) rfl ?_
  intro p e s m args below meth c A C hK hZ hA
  have hR := hI.R
  have hDn := hI.D
  refine hd_iload_n 1 C dX2_anHourOn_0 rfl 1 rfl rfl ?_
  refine hd_istore 3 C dX2_anHourOn_1 rfl [(4, .int (nI set)), (0, .ref (a 0)), (1, .int (nI set)), (2, .int (nI h)), (3, .int wo)] (by decide) rfl ?_
  refine hd_iconst 4 C dX2_anHourOn_3 rfl (nI 0) (by decide) ?_
  refine hd_istore 6 C dX2_anHourOn_4 rfl [(5, .int (nI 0)), (4, .int (nI set)), (0, .ref (a 0)), (1, .int (nI set)), (2, .int (nI h)), (3, .int wo)] (by decide) rfl ?_
  have L : ∀ (fuel : Nat) (d : Nat) (hd : d ≤ N 0 1), N 0 1 - d < fuel → XW p l e (rmk 1 23) s m args below meth c 7 0 0 A D (MQ below (va_Qi (fun (r : Int32) (u : sT) => u = (N, Z, E, G, T) ∧ r = nI (ah N wo h set)) (cB D (ty4 cI cJ cD cS) (wX cI cJ cD cS a) A) A) args s 0 0 A) (wX cI cJ cD cS a) (N, Z, E, G, T) 6 [(0, .ref (a 0)), (1, .int (nI set)), (2, .int (nI h)), (3, .int wo), (4, .int (nI (aho N wo h set d))), (5, .int (nI d))] [] := by
    intro fuel
    induction fuel with
    | zero => intro d hd hfu; exact absurd hfu (Nat.not_lt_zero _)
    | succ fuel ih_L =>
      intro d hd hfu_L
      refine hd_iload 8 C dX2_anHourOn_6 rfl 5 rfl ?_
      refine hd_aload_n 9 C dX2_anHourOn_8 rfl 0 rfl rfl ?_
      refine gx_doorCount 12 C hK dX2_anHourOn_9 rfl (nI (N 0 1)) rfl ?_
      refine hd_icmp_geN 15 80 C dX2_anHourOn_12 rfl (by decide) (by omega) (by omega) (fun h12 => ?_) (fun h12 => ?_)
      · skip
        refine hd_iload 82 C dX2_anHourOn_80 rfl 4 rfl ?_
        exact hd_iret C hK dX2_anHourOn_82 ⟨rfl, congrArg nI (ah_end (by omega))⟩
      · skip
        have hat := hI.at h12
        have hdr := hI.door d
        refine hd_iload 17 C dX2_anHourOn_15 rfl 5 rfl ?_
        refine hd_iload_n 18 C dX2_anHourOn_17 rfl 3 rfl rfl ?_
        refine hd_icmp_eq 21 74 C dX2_anHourOn_18 rfl (by decide) (fun h18 => ?_) (fun h18 => ?_)
        · skip
          refine hd_iinc 77 C dX2_anHourOn_74 rfl 5 (nI (d + 1)) [(5, .int (nI (d + 1))), (0, .ref (a 0)), (1, .int (nI set)), (2, .int (nI h)), (3, .int wo), (4, .int (nI (aho N wo h set d)))] rfl (nI_add _ _) (by decide) rfl ?_
          refine hd_goto 6 C dX2_anHourOn_77 (by decide) ?_
          rw [show aho N wo h set d = aho N wo h set (d + 1) from (by simp [aho, Nat.or_zero, hd, h12, h18])]
          refine hd_sub [(0, .ref (a 0)), (1, .int (nI set)), (2, .int (nI h)), (3, .int wo), (4, .int (nI (aho N wo h set (d + 1)))), (5, .int (nI (d + 1)))] [1, 2, 3, 4, 5, 0] rfl ?_
          exact ih_L (d + 1) (by omega) (by omega)
        · skip
          refine hd_iload_n 22 C dX2_anHourOn_21 rfl 1 rfl rfl ?_
          refine hd_aload_n 23 C dX2_anHourOn_22 rfl 0 rfl rfl ?_
          refine gx_doors 26 C hK dX2_anHourOn_23 rfl ?_
          refine hd_iload 28 C dX2_anHourOn_26 rfl 5 rfl ?_
          refine alx_doors 29 C hK dX2_anHourOn_28 rfl (by omega) ?_
          refine gd2_room (by omega) 32 C hK dX2_anHourOn_29 rfl (nI (N 2 d)) rfl ?_
          refine hd_callSI (rest := []) 35 C hK hZ hA ⟨Nat.zero_le _, Nat.zero_le _⟩ dX2_anHourOn_32 rfl kc_X2_208 (x_has set (N 2 d) (by omega) (by omega)) ⟨rfl, rfl⟩ ⟨by decide, by decide⟩ rfl rfl (by decide) (fun r32 u32 h32 => ?_)
          obtain ⟨rfl, rfl⟩ := h32
          refine hd_if_neB 38 41 C dX2_anHourOn_35 rfl (by decide) (fun h35 => ?_) (fun h35 => ?_)
          · skip
            refine hd_aload_n 42 C dX2_anHourOn_41 rfl 0 rfl rfl ?_
            refine gx_doors 45 C hK dX2_anHourOn_42 rfl ?_
            refine hd_iload 47 C dX2_anHourOn_45 rfl 5 rfl ?_
            refine alx_doors 48 C hK dX2_anHourOn_47 rfl (by omega) ?_
            refine hd_iload_n 49 C dX2_anHourOn_48 rfl 2 rfl rfl ?_
            refine hd_aload_n 50 C dX2_anHourOn_49 rfl 0 rfl rfl ?_
            refine gx_rooms 53 C hK dX2_anHourOn_50 rfl (nI (N 0 0)) rfl ?_
            refine hd_callVI (rest := []) 56 C hK hZ hA ⟨Nat.zero_le _, Nat.zero_le _⟩ dX2_anHourOn_53 rfl kc_X2_100 (x_leadsTo d h hI (by omega) (by omega) (by omega)) ⟨rfl, rfl⟩ ⟨by decide, by decide⟩ (10 + d) 0 (wX_door _ (by omega)) rfl rfl rfl rfl (by decide) (fun r53 u53 h53 => ?_)
            obtain ⟨rfl, rfl⟩ := h53
            rcases ho53 : ld N d h with _ | rv53
            · skip
              refine hd_istore 58 C dX2_anHourOn_56 rfl [(6, .int (-9)), (0, .ref (a 0)), (1, .int (nI set)), (2, .int (nI h)), (3, .int wo), (4, .int (nI (aho N wo h set d))), (5, .int (nI d))] (by decide) rfl ?_
              refine hd_iload 60 C dX2_anHourOn_58 rfl 0 rfl ?_
              refine hd_bipush 62 C dX2_anHourOn_60 rfl (-9) (by decide) ?_
              refine hd_icmp_eq 65 74 C dX2_anHourOn_62 rfl (by decide) (fun _ => ?_) (fun q => absurd (by decide) q)
              refine hd_iinc 77 C dX2_anHourOn_74 rfl 6 (nI (d + 1)) [(5, .int (nI (d + 1))), (6, .int (-9)), (0, .ref (a 0)), (1, .int (nI set)), (2, .int (nI h)), (3, .int wo), (4, .int (nI (aho N wo h set d)))] rfl (nI_add _ _) (by decide) rfl ?_
              refine hd_goto 6 C dX2_anHourOn_77 (by decide) ?_
              rw [show aho N wo h set d = aho N wo h set (d + 1) from (by simp [aho, Nat.or_zero, hd, h12, h18, h35, ho53])]
              refine hd_sub [(0, .ref (a 0)), (1, .int (nI set)), (2, .int (nI h)), (3, .int wo), (4, .int (nI (aho N wo h set (d + 1)))), (5, .int (nI (d + 1)))] [2, 3, 4, 5, 6, 0] rfl ?_
              exact ih_L (d + 1) (by omega) (by omega)
            · skip
              have hbrv53 := ld_lt hI (by omega) _ ho53
              refine hd_istore 58 C dX2_anHourOn_56 rfl [(6, .int (nI rv53)), (0, .ref (a 0)), (1, .int (nI set)), (2, .int (nI h)), (3, .int wo), (4, .int (nI (aho N wo h set d))), (5, .int (nI d))] (by decide) rfl ?_
              refine hd_iload 60 C dX2_anHourOn_58 rfl 0 rfl ?_
              refine hd_bipush 62 C dX2_anHourOn_60 rfl (-9) (by decide) ?_
              refine hd_icmp_eq 65 74 C dX2_anHourOn_62 rfl (by decide) (fun q => absurd q (nI_ne9 (by omega))) (fun _ => ?_)
              refine hd_iload 67 C dX2_anHourOn_65 rfl 5 rfl ?_
              refine hd_iconst 68 C dX2_anHourOn_67 rfl (nI 1) (by decide) ?_
              refine hd_iload 70 C dX2_anHourOn_68 rfl 0 rfl ?_
              refine hd_ishl 71 C dX2_anHourOn_70 rfl (nI (2 ^ rv53)) (nI_shl1 (by omega)) ?_
              refine hd_ior 72 C dX2_anHourOn_71 rfl (nI ((aho N wo h set d) ||| (2 ^ rv53))) (fa_or _ _) ?_
              refine hd_istore 74 C dX2_anHourOn_72 rfl [(4, .int (nI ((aho N wo h set d) ||| (2 ^ rv53)))), (6, .int (nI rv53)), (0, .ref (a 0)), (1, .int (nI set)), (2, .int (nI h)), (3, .int wo), (5, .int (nI d))] (by decide) rfl ?_
              refine hd_iinc 77 C dX2_anHourOn_74 rfl 6 (nI (d + 1)) [(5, .int (nI (d + 1))), (4, .int (nI ((aho N wo h set d) ||| (2 ^ rv53)))), (6, .int (nI rv53)), (0, .ref (a 0)), (1, .int (nI set)), (2, .int (nI h)), (3, .int wo)] rfl (nI_add _ _) (by decide) rfl ?_
              refine hd_goto 6 C dX2_anHourOn_77 (by decide) ?_
              rw [show (aho N wo h set d) ||| (2 ^ rv53) = aho N wo h set (d + 1) from (by simp [aho, Nat.or_zero, hd, h12, h18, h35, ho53])]
              refine hd_sub [(0, .ref (a 0)), (1, .int (nI set)), (2, .int (nI h)), (3, .int wo), (4, .int (nI (aho N wo h set (d + 1)))), (5, .int (nI (d + 1)))] [3, 4, 5, 6, 1, 0] rfl ?_
              exact ih_L (d + 1) (by omega) (by omega)
          · skip
            refine hd_goto 74 C dX2_anHourOn_38 (by decide) ?_
            refine hd_iinc 77 C dX2_anHourOn_74 rfl 5 (nI (d + 1)) [(5, .int (nI (d + 1))), (0, .ref (a 0)), (1, .int (nI set)), (2, .int (nI h)), (3, .int wo), (4, .int (nI (aho N wo h set d)))] rfl (nI_add _ _) (by decide) rfl ?_
            refine hd_goto 6 C dX2_anHourOn_77 (by decide) ?_
            rw [show aho N wo h set d = aho N wo h set (d + 1) from (by simp [aho, Nat.or_zero, hd, h12, h18, h35])]
            refine hd_sub [(0, .ref (a 0)), (1, .int (nI set)), (2, .int (nI h)), (3, .int wo), (4, .int (nI (aho N wo h set (d + 1)))), (5, .int (nI (d + 1)))] [1, 2, 3, 4, 5, 0] rfl ?_
            exact ih_L (d + 1) (by omega) (by omega)
  refine hd_sub [(0, .ref (a 0)), (1, .int (nI set)), (2, .int (nI h)), (3, .int wo), (4, .int (nI set)), (5, .int (nI 0))] [2, 3, 4, 5, 1, 0] rfl ?_
  exact L (N 0 1 + 1) 0 (Nat.zero_le _) (by omega)

set_option maxHeartbeats 4000000 in
set_option maxRecDepth 100000 in
theorem x_fewestHours {l : Launch} {D : va_G} {cI cJ cD cS : ClassId} {a : Nat → Nat} {N : Nat → Nat → Nat} {Z : Nat → Nat → Int32} {E : Nat → Nat → Int32} {G : Nat → Nat → Int64} {T : Nat → Nat} {t : Option Nat} (fr to h : Nat) (wo : Int32) (hI : inv N) (hf : fr < 6) (hto : to < 6) (hh : h < 12)  : ctI l D (ty4 cI cJ cD cS) t (wX cI cJ cD cS a) yX2_fewestHours cX2_fewestHours 7 (some .int) (rmk 2 49) [.ref (a 0), .int (nI fr), .int (nI to), .int (nI h), .int wo] (N, Z, E, G, T) (fun (r : Int32) (u : sT) => u = (N, Z, E, G, T) ∧ r = oI (sn N wo fr to h 24)) := by
  refine ctI_of [(0, .ref (a 0)), (1, .int (nI fr)), (2, .int (nI to)), (3, .int (nI h)), (4, .int wo)] (by decide) (Nat.le_of_ble_eq_true rfl) rfl ?_
  intro p e s m args below meth c A C hK hZ hA
  refine hd_iconst 1 C dX2_fewestHours_0 rfl (nI 1) (by decide) ?_
  refine hd_iload_n 2 C dX2_fewestHours_1 rfl 1 rfl rfl ?_
  refine hd_ishl 3 C dX2_fewestHours_2 rfl (nI (2 ^ fr)) (nI_shl1 (by omega)) ?_
  refine hd_istore 5 C dX2_fewestHours_3 rfl [(5, .int (nI (2 ^ fr))), (0, .ref (a 0)), (1, .int (nI fr)), (2, .int (nI to)), (3, .int (nI h)), (4, .int wo)] (by decide) rfl ?_
  refine hd_iconst 6 C dX2_fewestHours_5 rfl (nI 0) (by decide) ?_
  refine hd_istore 8 C dX2_fewestHours_6 rfl [(6, .int (nI 0)), (5, .int (nI (2 ^ fr))), (0, .ref (a 0)), (1, .int (nI fr)), (2, .int (nI to)), (3, .int (nI h)), (4, .int wo)] (by decide) rfl ?_
  have L : ∀ (fuel : Nat) (t set : Nat) (hs : set < 64) (ht : t ≤ 24 + 1) (hF : sn N wo fr to h 24 = fw N wo to h (24 + 1 - t) t set), 24 + 1 - t < fuel → XW p l e (rmk 2 49) s m args below meth c 7 0 0 A D (MQ below (va_Qi (fun (r : Int32) (u : sT) => u = (N, Z, E, G, T) ∧ r = oI (sn N wo fr to h 24)) (cB D (ty4 cI cJ cD cS) (wX cI cJ cD cS a) A) A) args s 0 0 A) (wX cI cJ cD cS a) (N, Z, E, G, T) 8 [(6, .int (nI t)), (5, .int (nI set)), (0, .ref (a 0)), (1, .int (nI fr)), (2, .int (nI to)), (3, .int (nI h)), (4, .int wo)] [] := by
    intro fuel
    induction fuel with
    | zero => intro t set hs ht hF hfu; exact absurd hfu (Nat.not_lt_zero _)
    | succ fuel ih_L =>
      intro t set hs ht hF hfu_L
      refine hd_iload 10 C dX2_fewestHours_8 rfl 0 rfl ?_
      refine hd_bipush 12 C dX2_fewestHours_10 rfl (nI 24) (by decide) ?_
      refine hd_icmp_gtN 15 50 C dX2_fewestHours_12 rfl (by decide) (by omega) (by omega) (fun h12 => ?_) (fun h12 => ?_)
      · skip
        refine hd_bipush 52 C dX2_fewestHours_50 rfl (-9) (by decide) ?_
        exact hd_iret C hK dX2_fewestHours_52 ⟨rfl, by rw [hF, show 24 + 1 - t = 0 by omega]; rfl⟩
      · skip
        refine hd_iload 17 C dX2_fewestHours_15 rfl 1 rfl ?_
        refine hd_iload_n 18 C dX2_fewestHours_17 rfl 4 rfl rfl ?_
        refine hd_callSI (rest := []) 21 C hK hZ hA ⟨Nat.zero_le _, Nat.zero_le _⟩ dX2_fewestHours_18 rfl kc_X2_208 (x_has set to (by omega) (by omega)) ⟨rfl, rfl⟩ ⟨by decide, by decide⟩ rfl rfl (by decide) (fun r18 u18 h18 => ?_)
        obtain ⟨rfl, rfl⟩ := h18
        refine hd_if_eqB 24 27 C dX2_fewestHours_21 rfl (by decide) (fun h21 => ?_) (fun h21 => ?_)
        · skip
          refine hd_aload_n 28 C dX2_fewestHours_27 rfl 2 rfl rfl ?_
          refine hd_iload 30 C dX2_fewestHours_28 rfl 1 rfl ?_
          refine hd_iload_n 31 C dX2_fewestHours_30 rfl 5 rfl rfl ?_
          refine hd_iload 33 C dX2_fewestHours_31 rfl 0 rfl ?_
          refine hd_iadd 34 C dX2_fewestHours_33 rfl (nI (h + t)) (nI_add _ _) ?_
          refine hd_bipush 36 C dX2_fewestHours_34 rfl (nI 12) (by decide) ?_
          refine hd_irem 37 C dX2_fewestHours_36 rfl (nI ((h + t) % 12)) (nI_ne0 (by omega) (by omega)) (pk_rem (by omega) (by omega) (by omega)) ?_
          refine hd_iload 39 C dX2_fewestHours_37 rfl 6 rfl ?_
          refine hd_callVI (rest := []) 42 C hK hZ hA ⟨Nat.zero_le _, Nat.zero_le _⟩ dX2_fewestHours_39 rfl kc_X2_130 (x_anHourOn set ((h + t) % 12) wo hI (by omega) (by omega)) ⟨rfl, rfl⟩ ⟨by decide, by decide⟩ 0 2 rfl rfl rfl rfl rfl (by decide) (fun r39 u39 h39 => ?_)
          obtain ⟨rfl, rfl⟩ := h39
          refine hd_istore 44 C dX2_fewestHours_42 rfl [(5, .int (nI (ah N wo ((h + t) % 12) set))), (6, .int (nI t)), (0, .ref (a 0)), (1, .int (nI fr)), (2, .int (nI to)), (3, .int (nI h)), (4, .int wo)] (by decide) rfl ?_
          refine hd_iinc 47 C dX2_fewestHours_44 rfl 1 (nI (t + 1)) [(6, .int (nI (t + 1))), (5, .int (nI (ah N wo ((h + t) % 12) set))), (0, .ref (a 0)), (1, .int (nI fr)), (2, .int (nI to)), (3, .int (nI h)), (4, .int wo)] rfl (nI_add _ _) (by decide) rfl ?_
          refine hd_goto 8 C dX2_fewestHours_47 (by decide) ?_
          refine hd_sub [(6, .int (nI (t + 1))), (5, .int (nI (ah N wo ((h + t) % 12) set))), (0, .ref (a 0)), (1, .int (nI fr)), (2, .int (nI to)), (3, .int (nI h)), (4, .int wo)] [0, 1, 2, 3, 4, 5, 6] rfl ?_
          exact ih_L (t + 1) _ (ah_lt hI hs) (by omega) (by rw [hF, show 24 + 1 - t = (24 - t) + 1 by omega, show 24 + 1 - (t + 1) = 24 - t by omega, fw_succ, if_neg (by simp [h21])]) (by omega)
        · skip
          refine hd_iload 26 C dX2_fewestHours_24 rfl 0 rfl ?_
          exact hd_iret C hK dX2_fewestHours_26 ⟨rfl, by rw [hF, show 24 + 1 - t = (24 - t) + 1 by omega, fw_succ, if_pos h21]; rfl⟩
  refine hd_sub [(6, .int (nI 0)), (5, .int (nI (2 ^ fr))), (0, .ref (a 0)), (1, .int (nI fr)), (2, .int (nI to)), (3, .int (nI h)), (4, .int wo)] [0, 1, 2, 3, 4, 5, 6] rfl ?_
  exact L (24 + 1 + 1) 0 _ (pow_lt6 (by omega)) (Nat.zero_le _) rfl (by omega)

set_option maxHeartbeats 4000000 in
set_option maxRecDepth 100000 in
theorem m_refused {l : Launch} {D : va_G} {cI cJ cD cS : ClassId} {a : Nat → Nat} {N : Nat → Nat → Nat} {Z : Nat → Nat → Int32} {E : Nat → Nat → Int32} {G : Nat → Nat → Int64} {T : Nat → Nat} (x : Int32)  : ctI l D (ty4 cI cJ cD cS) none (wM cI a) yX3_refused cX3_refused 2 (some .int) (rmk 0 0) [.ref (a 0), .int x] (N, Z, E, G, T) (fun (r : Int32) (u : sT) => u = (N, uZ Z 0 1 0, E, G, T) ∧ r = x) := by
  refine ctI_of [(0, .ref (a 0)), (1, .int x)] (by decide) (Nat.le_of_ble_eq_true rfl) rfl ?_
  intro p e s m args below meth c A C hK hZ hA
  refine hd_aload_n 1 C dX3_refused_0 rfl 0 rfl rfl ?_
  refine hd_iconst 2 C dX3_refused_1 rfl (nI 0) (by decide) ?_
  refine pm_fault 5 C hK dX3_refused_2 rfl ?_
  refine hd_iload_n 6 C dX3_refused_5 rfl 1 rfl rfl ?_
  exact hd_iret C hK dX3_refused_6 ⟨rfl, rfl⟩

set_option maxHeartbeats 4000000 in
set_option maxRecDepth 100000 in
theorem m_failed {l : Launch} {D : va_G} {cI cJ cD cS : ClassId} {a : Nat → Nat} {N : Nat → Nat → Nat} {Z : Nat → Nat → Int32} {E : Nat → Nat → Int32} {G : Nat → Nat → Int64} {T : Nat → Nat} (f : Int32)  : ctI l D (ty4 cI cJ cD cS) none (wM cI a) yX3_failed cX3_failed 2 (some .int) (rmk 0 0) [.ref (a 0), .int f] (N, Z, E, G, T) (fun (r : Int32) (u : sT) => u = (N, uZ Z 0 1 f, E, G, T) ∧ r = -10 - f) := by
  refine ctI_of [(0, .ref (a 0)), (1, .int f)] (by decide) (Nat.le_of_ble_eq_true rfl) rfl ?_
  intro p e s m args below meth c A C hK hZ hA
  refine hd_aload_n 1 C dX3_failed_0 rfl 0 rfl rfl ?_
  refine hd_iload_n 2 C dX3_failed_1 rfl 1 rfl rfl ?_
  refine pm_fault 5 C hK dX3_failed_2 rfl ?_
  refine hd_bipush 7 C dX3_failed_5 rfl (-10) (by decide) ?_
  refine hd_iload_n 8 C dX3_failed_7 rfl 1 rfl rfl ?_
  refine hd_isub 9 C dX3_failed_8 rfl ((-10) - f) rfl ?_
  exact hd_iret C hK dX3_failed_9 ⟨rfl, rfl⟩

set_option maxHeartbeats 4000000 in
set_option maxRecDepth 100000 in
theorem m_failedLong {l : Launch} {D : va_G} {cI cJ cD cS : ClassId} {a : Nat → Nat} {N : Nat → Nat → Nat} {Z : Nat → Nat → Int32} {E : Nat → Nat → Int32} {G : Nat → Nat → Int64} {T : Nat → Nat} (f : Int32)  : ctL l D (ty4 cI cJ cD cS) none (wM cI a) yX3_failedLong cX3_failedLong 2 (some .long) (rmk 1 19) [.ref (a 0), .int f] (N, Z, E, G, T) (fun (r : Int64) (u : sT) => u = (N, uZ Z 0 1 f, E, G, T) ∧ r = -9223372036854775808) := by
  refine ctL_of [(0, .ref (a 0)), (1, .int f)] (by decide) (Nat.le_of_ble_eq_true rfl) rfl ?_
  intro p e s m args below meth c A C hK hZ hA
  refine hd_aload_n 1 C dX3_failedLong_0 rfl 0 rfl rfl ?_
  refine hd_iload_n 2 C dX3_failedLong_1 rfl 1 rfl rfl ?_
  refine pm_fault 5 C hK dX3_failedLong_2 rfl ?_
  refine hd_callSL (rest := []) 8 C hK hZ hA ⟨Nat.zero_le _, Nat.zero_le _⟩ dX3_failedLong_5 rfl kc_X3_70 m_lost ⟨rfl, rfl⟩ ⟨by decide, by decide⟩ rfl rfl (by decide) (fun r5 u5 h5 => ?_)
  obtain ⟨rfl, rfl⟩ := h5
  exact hd_lret C hK dX3_failedLong_8 ⟨rfl, rfl⟩

set_option maxHeartbeats 4000000 in
set_option maxRecDepth 100000 in
theorem m_noRoom {l : Launch} {D : va_G} {cI cJ cD cS : ClassId} {a : Nat → Nat} {N : Nat → Nat → Nat} {Z : Nat → Nat → Int32} {E : Nat → Nat → Int32} {G : Nat → Nat → Int64} {T : Nat → Nat} (x : Int32) (hI : inv N)  : ctI l D (ty4 cI cJ cD cS) none (wM cI a) yX3_noRoom cX3_noRoom 2 (some .boolean) (rmk 1 25) [.ref (a 0), .int x] (N, Z, E, G, T) (fun (r : Int32) (u : sT) => u = (N, Z, E, G, T) ∧ r = bI (!inB x (N 0 0))) := by
  refine ctI_of [(0, .ref (a 0)), (1, .int x)] (by decide) (Nat.le_of_ble_eq_true rfl) rfl ?_
  intro p e s m args below meth c A C hK hZ hA
  have hR := hI.R
  have hDn := hI.D
  refine hd_iload_n 1 C dX3_noRoom_0 rfl 1 rfl rfl ?_
  refine hd_i2l 2 C dX3_noRoom_1 rfl x.toInt64 rfl ?_
  refine hd_lconst 3 C dX3_noRoom_2 rfl 0 (by decide) ?_
  refine hd_aload_n 4 C dX3_noRoom_3 rfl 0 rfl rfl ?_
  refine gm_rooms 7 C hK dX3_noRoom_4 rfl (nI (N 0 0)) rfl ?_
  refine hd_i2l 8 C dX3_noRoom_7 rfl ((nI (N 0 0)).toInt64) rfl ?_
  refine hd_lconst 9 C dX3_noRoom_8 rfl 1 (by decide) ?_
  refine hd_lsub 10 C dX3_noRoom_9 rfl (((nI (N 0 0)).toInt64) - 1) rfl ?_
  refine hd_callSI (rest := []) 13 C hK hZ hA ⟨Nat.zero_le _, Nat.zero_le _⟩ dX3_noRoom_10 rfl kc_X3_77 (m_in x.toInt64 0 (((nI (N 0 0)).toInt64) - 1)) ⟨rfl, rfl⟩ ⟨by decide, by decide⟩ rfl rfl (by decide) (fun r10 u10 h10 => ?_)
  obtain ⟨rfl, rfl⟩ := h10
  refine hd_if_neB 16 20 C dX3_noRoom_13 rfl (by decide) (fun h13 => ?_) (fun h13 => ?_)
  · skip
    refine hd_iconst 21 C dX3_noRoom_20 rfl (nI 0) (by decide) ?_
    exact hd_zret C hK dX3_noRoom_21 (by decide) ⟨rfl, bI_is0 (by rw [inL_in x (by omega)] at h13; rw [h13]; rfl)⟩
  · skip
    refine hd_iconst 17 C dX3_noRoom_16 rfl (nI 1) (by decide) ?_
    refine hd_goto 21 C dX3_noRoom_17 (by decide) ?_
    exact hd_zret C hK dX3_noRoom_21 (by decide) ⟨rfl, bI_is1 (by rw [inL_in x (by omega)] at h13; rw [h13]; rfl)⟩

set_option maxHeartbeats 4000000 in
set_option maxRecDepth 100000 in
theorem m_noDoor {l : Launch} {D : va_G} {cI cJ cD cS : ClassId} {a : Nat → Nat} {N : Nat → Nat → Nat} {Z : Nat → Nat → Int32} {E : Nat → Nat → Int32} {G : Nat → Nat → Int64} {T : Nat → Nat} (x : Int32) (hI : inv N)  : ctI l D (ty4 cI cJ cD cS) none (wM cI a) yX3_noDoor cX3_noDoor 2 (some .boolean) (rmk 1 25) [.ref (a 0), .int x] (N, Z, E, G, T) (fun (r : Int32) (u : sT) => u = (N, Z, E, G, T) ∧ r = bI (!inB x (N 0 1))) := by
  refine ctI_of [(0, .ref (a 0)), (1, .int x)] (by decide) (Nat.le_of_ble_eq_true rfl) rfl ?_
  intro p e s m args below meth c A C hK hZ hA
  have hR := hI.R
  have hDn := hI.D
  refine hd_iload_n 1 C dX3_noDoor_0 rfl 1 rfl rfl ?_
  refine hd_i2l 2 C dX3_noDoor_1 rfl x.toInt64 rfl ?_
  refine hd_lconst 3 C dX3_noDoor_2 rfl 0 (by decide) ?_
  refine hd_aload_n 4 C dX3_noDoor_3 rfl 0 rfl rfl ?_
  refine gm_doors 7 C hK dX3_noDoor_4 rfl (nI (N 0 1)) rfl ?_
  refine hd_i2l 8 C dX3_noDoor_7 rfl ((nI (N 0 1)).toInt64) rfl ?_
  refine hd_lconst 9 C dX3_noDoor_8 rfl 1 (by decide) ?_
  refine hd_lsub 10 C dX3_noDoor_9 rfl (((nI (N 0 1)).toInt64) - 1) rfl ?_
  refine hd_callSI (rest := []) 13 C hK hZ hA ⟨Nat.zero_le _, Nat.zero_le _⟩ dX3_noDoor_10 rfl kc_X3_77 (m_in x.toInt64 0 (((nI (N 0 1)).toInt64) - 1)) ⟨rfl, rfl⟩ ⟨by decide, by decide⟩ rfl rfl (by decide) (fun r10 u10 h10 => ?_)
  obtain ⟨rfl, rfl⟩ := h10
  refine hd_if_neB 16 20 C dX3_noDoor_13 rfl (by decide) (fun h13 => ?_) (fun h13 => ?_)
  · skip
    refine hd_iconst 21 C dX3_noDoor_20 rfl (nI 0) (by decide) ?_
    exact hd_zret C hK dX3_noDoor_21 (by decide) ⟨rfl, bI_is0 (by rw [inL_in x (by omega)] at h13; rw [h13]; rfl)⟩
  · skip
    refine hd_iconst 17 C dX3_noDoor_16 rfl (nI 1) (by decide) ?_
    refine hd_goto 21 C dX3_noDoor_17 (by decide) ?_
    exact hd_zret C hK dX3_noDoor_21 (by decide) ⟨rfl, bI_is1 (by rw [inL_in x (by omega)] at h13; rw [h13]; rfl)⟩

set_option maxHeartbeats 4000000 in
set_option maxRecDepth 100000 in
theorem m_noHour {l : Launch} {D : va_G} {tys : List (ClassId × FieldType)} {σ : Type} {w : σ → va_W} {S : σ} {t : Option Nat} (x : Int32)  : ctI l D tys t w yX3_noHour cX3_noHour 1 (some .boolean) (rmk 1 25) [.int x] S (fun (r : Int32) (u : σ) => u = S ∧ r = bI (!inB x 12)) := by
  refine ctI_of [(0, .int x)] (by decide) (Nat.le_of_ble_eq_true rfl) rfl ?_
  intro p e s m args below meth c A C hK hZ hA
  refine hd_iload_n 1 C dX3_noHour_0 rfl 0 rfl rfl ?_
  refine hd_i2l 2 C dX3_noHour_1 rfl x.toInt64 rfl ?_
  refine hd_lconst 3 C dX3_noHour_2 rfl 0 (by decide) ?_
  refine hd_ldc2 6 C dX3_noHour_3 rfl kl_X3_84 ?_
  refine hd_callSI (rest := []) 9 C hK hZ hA ⟨Nat.zero_le _, Nat.zero_le _⟩ dX3_noHour_6 rfl kc_X3_77 (m_in x.toInt64 0 (11)) ⟨rfl, rfl⟩ ⟨by decide, by decide⟩ rfl rfl (by decide) (fun r6 u6 h6 => ?_)
  obtain ⟨rfl, rfl⟩ := h6
  refine hd_if_neB 12 16 C dX3_noHour_9 rfl (by decide) (fun h9 => ?_) (fun h9 => ?_)
  · skip
    refine hd_iconst 17 C dX3_noHour_16 rfl (nI 0) (by decide) ?_
    exact hd_zret C hK dX3_noHour_17 (by decide) ⟨rfl, bI_is0 (by rw [inL_k x _ 12 (by decide)] at h9; rw [h9]; rfl)⟩
  · skip
    refine hd_iconst 13 C dX3_noHour_12 rfl (nI 1) (by decide) ?_
    refine hd_goto 17 C dX3_noHour_13 (by decide) ?_
    exact hd_zret C hK dX3_noHour_17 (by decide) ⟨rfl, bI_is1 (by rw [inL_k x _ 12 (by decide)] at h9; rw [h9]; rfl)⟩

set_option maxHeartbeats 4000000 in
set_option maxRecDepth 100000 in
theorem m_noSheet {l : Launch} {D : va_G} {tys : List (ClassId × FieldType)} {σ : Type} {w : σ → va_W} {S : σ} {t : Option Nat} (x : Int32)  : ctI l D tys t w yX3_noSheet cX3_noSheet 1 (some .boolean) (rmk 1 25) [.int x] S (fun (r : Int32) (u : σ) => u = S ∧ r = bI (!inB x 4)) := by
  refine ctI_of [(0, .int x)] (by decide) (Nat.le_of_ble_eq_true rfl) rfl ?_
  intro p e s m args below meth c A C hK hZ hA
  refine hd_iload_n 1 C dX3_noSheet_0 rfl 0 rfl rfl ?_
  refine hd_i2l 2 C dX3_noSheet_1 rfl x.toInt64 rfl ?_
  refine hd_lconst 3 C dX3_noSheet_2 rfl 0 (by decide) ?_
  refine hd_ldc2 6 C dX3_noSheet_3 rfl kl_X3_208 ?_
  refine hd_callSI (rest := []) 9 C hK hZ hA ⟨Nat.zero_le _, Nat.zero_le _⟩ dX3_noSheet_6 rfl kc_X3_77 (m_in x.toInt64 0 (3)) ⟨rfl, rfl⟩ ⟨by decide, by decide⟩ rfl rfl (by decide) (fun r6 u6 h6 => ?_)
  obtain ⟨rfl, rfl⟩ := h6
  refine hd_if_neB 12 16 C dX3_noSheet_9 rfl (by decide) (fun h9 => ?_) (fun h9 => ?_)
  · skip
    refine hd_iconst 17 C dX3_noSheet_16 rfl (nI 0) (by decide) ?_
    exact hd_zret C hK dX3_noSheet_17 (by decide) ⟨rfl, bI_is0 (by rw [inL_k x _ 4 (by decide)] at h9; rw [h9]; rfl)⟩
  · skip
    refine hd_iconst 13 C dX3_noSheet_12 rfl (nI 1) (by decide) ?_
    refine hd_goto 17 C dX3_noSheet_13 (by decide) ?_
    exact hd_zret C hK dX3_noSheet_17 (by decide) ⟨rfl, bI_is1 (by rw [inL_k x _ 4 (by decide)] at h9; rw [h9]; rfl)⟩

set_option maxHeartbeats 4000000 in
set_option maxRecDepth 100000 in
theorem m_leadsAt {l : Launch} {D : va_G} {cI cJ cD cS : ClassId} {a : Nat → Nat} {N : Nat → Nat → Nat} {Z : Nat → Nat → Int32} {E : Nat → Nat → Int32} {G : Nat → Nat → Int64} {T : Nat → Nat} (d h : Nat) (hI : inv N) (hd : d < 8) (hh : h < 12) (hR0 : 0 < N 0 0)  : ctI l D (ty4 cI cJ cD cS) none (wM cI a) yX3_leadsAt cX3_leadsAt 4 (some .int) (rmk 0 0) [.ref (a 0), .int (nI d), .int (nI h)] (N, Z, E, G, T) (fun (r : Int32) (u : sT) => u = (N, Z, E, G, T) ∧ r = oI (ld N d h)) := by
  refine ctI_of [(0, .ref (a 0)), (1, .int (nI d)), (2, .int (nI h))] (by decide) (Nat.le_of_ble_eq_true rfl) rfl ?_
  intro p e s m args below meth c A C hK hZ hA
  have hR := hI.R
  have hdr := hI.door d
  refine hd_aload_n 1 C dX3_leadsAt_0 rfl 0 rfl rfl ?_
  refine gm_kindOf 4 C hK dX3_leadsAt_1 rfl ?_
  refine hd_iload_n 5 C dX3_leadsAt_4 rfl 1 rfl rfl ?_
  refine alm_kindOf 6 C hK dX3_leadsAt_5 rfl (by omega) (nI (N 1 d)) rfl ?_
  refine hd_iconst 7 C dX3_leadsAt_6 rfl (nI 2) (by decide) ?_
  refine hd_icmp_neN 10 19 C dX3_leadsAt_7 rfl (by decide) (by omega) (by omega) (fun h7 => ?_) (fun h7 => ?_)
  · skip
    refine hd_aload_n 20 C dX3_leadsAt_19 rfl 0 rfl rfl ?_
    refine gm_kindOf 23 C hK dX3_leadsAt_20 rfl ?_
    refine hd_iload_n 24 C dX3_leadsAt_23 rfl 1 rfl rfl ?_
    refine alm_kindOf 25 C hK dX3_leadsAt_24 rfl (by omega) (nI (N 1 d)) rfl ?_
    refine hd_if_neN 28 32 C dX3_leadsAt_25 rfl (by decide) (by omega) (fun h25 => ?_) (fun h25 => ?_)
    · skip
      refine hd_iload_n 33 C dX3_leadsAt_32 rfl 2 rfl rfl ?_
      refine hd_bipush 35 C dX3_leadsAt_33 rfl (nI 12) (by decide) ?_
      refine hd_iadd 36 C dX3_leadsAt_35 rfl (nI (h + 12)) (nI_add _ _) ?_
      refine hd_iconst 37 C dX3_leadsAt_36 rfl (nI 1) (by decide) ?_
      refine hd_isub 38 C dX3_leadsAt_37 rfl (nI ((h + 12) - 1)) (pk_sub (by omega)) ?_
      refine hd_bipush 40 C dX3_leadsAt_38 rfl (nI 12) (by decide) ?_
      refine hd_irem 41 C dX3_leadsAt_40 rfl (nI (((h + 12) - 1) % 12)) (nI_ne0 (by omega) (by omega)) (pk_rem (by omega) (by omega) (by omega)) ?_
      refine hd_istore_n 42 C dX3_leadsAt_41 rfl [(3, .int (nI (((h + 12) - 1) % 12))), (0, .ref (a 0)), (1, .int (nI d)), (2, .int (nI h))] rfl (by decide) rfl ?_
      refine hd_aload_n 43 C dX3_leadsAt_42 rfl 1 rfl rfl ?_
      refine gm_toOf 46 C hK dX3_leadsAt_43 rfl ?_
      refine hd_iload_n 47 C dX3_leadsAt_46 rfl 2 rfl rfl ?_
      refine alm_toOf 48 C hK dX3_leadsAt_47 rfl (by omega) (nI (N 3 d)) rfl ?_
      refine hd_aload_n 49 C dX3_leadsAt_48 rfl 1 rfl rfl ?_
      refine gm_stepOf 52 C hK dX3_leadsAt_49 rfl ?_
      refine hd_iload_n 53 C dX3_leadsAt_52 rfl 2 rfl rfl ?_
      refine alm_stepOf 54 C hK dX3_leadsAt_53 rfl (by omega) (nI (N 4 d)) rfl ?_
      refine hd_iload_n 55 C dX3_leadsAt_54 rfl 0 rfl rfl ?_
      refine hd_imul 56 C dX3_leadsAt_55 rfl (nI ((N 4 d) * (((h + 12) - 1) % 12))) (pk_mul _ _) ?_
      refine hd_iadd 57 C dX3_leadsAt_56 rfl (nI ((N 3 d) + ((N 4 d) * (((h + 12) - 1) % 12)))) (nI_add _ _) ?_
      refine hd_aload_n 58 C dX3_leadsAt_57 rfl 1 rfl rfl ?_
      refine gm_rooms 61 C hK dX3_leadsAt_58 rfl (nI (N 0 0)) rfl ?_
      have hm := mul_le (Nat.le_of_lt_succ hdr.2.2.2) (show ((h + 12) - 1) % 12 ≤ 11 by omega)
      refine hd_irem 62 C dX3_leadsAt_61 rfl (nI (((N 3 d) + ((N 4 d) * (((h + 12) - 1) % 12))) % (N 0 0))) (nI_ne0 (by omega) (by omega)) (pk_rem (by omega) (by omega) (by omega)) ?_
      exact hd_iret C hK dX3_leadsAt_62 ⟨rfl, by first | (exfalso; omega) | simp [ld, ld0, oI, h7, h25]⟩
    · skip
      refine hd_iload_n 29 C dX3_leadsAt_28 rfl 2 rfl rfl ?_
      refine hd_goto 41 C dX3_leadsAt_29 (by decide) ?_
      refine hd_istore_n 42 C dX3_leadsAt_41 rfl [(3, .int (nI h)), (0, .ref (a 0)), (1, .int (nI d)), (2, .int (nI h))] rfl (by decide) rfl ?_
      refine hd_aload_n 43 C dX3_leadsAt_42 rfl 1 rfl rfl ?_
      refine gm_toOf 46 C hK dX3_leadsAt_43 rfl ?_
      refine hd_iload_n 47 C dX3_leadsAt_46 rfl 2 rfl rfl ?_
      refine alm_toOf 48 C hK dX3_leadsAt_47 rfl (by omega) (nI (N 3 d)) rfl ?_
      refine hd_aload_n 49 C dX3_leadsAt_48 rfl 1 rfl rfl ?_
      refine gm_stepOf 52 C hK dX3_leadsAt_49 rfl ?_
      refine hd_iload_n 53 C dX3_leadsAt_52 rfl 2 rfl rfl ?_
      refine alm_stepOf 54 C hK dX3_leadsAt_53 rfl (by omega) (nI (N 4 d)) rfl ?_
      refine hd_iload_n 55 C dX3_leadsAt_54 rfl 0 rfl rfl ?_
      refine hd_imul 56 C dX3_leadsAt_55 rfl (nI ((N 4 d) * h)) (pk_mul _ _) ?_
      refine hd_iadd 57 C dX3_leadsAt_56 rfl (nI ((N 3 d) + ((N 4 d) * h))) (nI_add _ _) ?_
      refine hd_aload_n 58 C dX3_leadsAt_57 rfl 1 rfl rfl ?_
      refine gm_rooms 61 C hK dX3_leadsAt_58 rfl (nI (N 0 0)) rfl ?_
      have hm := mul_le (Nat.le_of_lt_succ hdr.2.2.2) (show h ≤ 11 by omega)
      refine hd_irem 62 C dX3_leadsAt_61 rfl (nI (((N 3 d) + ((N 4 d) * h)) % (N 0 0))) (nI_ne0 (by omega) (by omega)) (pk_rem (by omega) (by omega) (by omega)) ?_
      exact hd_iret C hK dX3_leadsAt_62 ⟨rfl, by first | (exfalso; omega) | simp [ld, ld0, oI, h7, h25]⟩
  · skip
    refine hd_iload_n 11 C dX3_leadsAt_10 rfl 2 rfl rfl ?_
    refine hd_iconst 12 C dX3_leadsAt_11 rfl (nI 3) (by decide) ?_
    refine hd_irem 13 C dX3_leadsAt_12 rfl (nI (h % 3)) (nI_ne0 (by omega) (by omega)) (pk_rem (by omega) (by omega) (by omega)) ?_
    refine hd_if_eqN 16 19 C dX3_leadsAt_13 rfl (by decide) (by omega) (fun h13 => ?_) (fun h13 => ?_)
    · skip
      refine hd_aload_n 20 C dX3_leadsAt_19 rfl 0 rfl rfl ?_
      refine gm_kindOf 23 C hK dX3_leadsAt_20 rfl ?_
      refine hd_iload_n 24 C dX3_leadsAt_23 rfl 1 rfl rfl ?_
      refine alm_kindOf 25 C hK dX3_leadsAt_24 rfl (by omega) (nI (N 1 d)) rfl ?_
      refine hd_if_neN 28 32 C dX3_leadsAt_25 rfl (by decide) (by omega) (fun h25 => ?_) (fun h25 => ?_)
      · skip
        refine hd_iload_n 33 C dX3_leadsAt_32 rfl 2 rfl rfl ?_
        refine hd_bipush 35 C dX3_leadsAt_33 rfl (nI 12) (by decide) ?_
        refine hd_iadd 36 C dX3_leadsAt_35 rfl (nI (h + 12)) (nI_add _ _) ?_
        refine hd_iconst 37 C dX3_leadsAt_36 rfl (nI 1) (by decide) ?_
        refine hd_isub 38 C dX3_leadsAt_37 rfl (nI ((h + 12) - 1)) (pk_sub (by omega)) ?_
        refine hd_bipush 40 C dX3_leadsAt_38 rfl (nI 12) (by decide) ?_
        refine hd_irem 41 C dX3_leadsAt_40 rfl (nI (((h + 12) - 1) % 12)) (nI_ne0 (by omega) (by omega)) (pk_rem (by omega) (by omega) (by omega)) ?_
        refine hd_istore_n 42 C dX3_leadsAt_41 rfl [(3, .int (nI (((h + 12) - 1) % 12))), (0, .ref (a 0)), (1, .int (nI d)), (2, .int (nI h))] rfl (by decide) rfl ?_
        refine hd_aload_n 43 C dX3_leadsAt_42 rfl 1 rfl rfl ?_
        refine gm_toOf 46 C hK dX3_leadsAt_43 rfl ?_
        refine hd_iload_n 47 C dX3_leadsAt_46 rfl 2 rfl rfl ?_
        refine alm_toOf 48 C hK dX3_leadsAt_47 rfl (by omega) (nI (N 3 d)) rfl ?_
        refine hd_aload_n 49 C dX3_leadsAt_48 rfl 1 rfl rfl ?_
        refine gm_stepOf 52 C hK dX3_leadsAt_49 rfl ?_
        refine hd_iload_n 53 C dX3_leadsAt_52 rfl 2 rfl rfl ?_
        refine alm_stepOf 54 C hK dX3_leadsAt_53 rfl (by omega) (nI (N 4 d)) rfl ?_
        refine hd_iload_n 55 C dX3_leadsAt_54 rfl 0 rfl rfl ?_
        refine hd_imul 56 C dX3_leadsAt_55 rfl (nI ((N 4 d) * (((h + 12) - 1) % 12))) (pk_mul _ _) ?_
        refine hd_iadd 57 C dX3_leadsAt_56 rfl (nI ((N 3 d) + ((N 4 d) * (((h + 12) - 1) % 12)))) (nI_add _ _) ?_
        refine hd_aload_n 58 C dX3_leadsAt_57 rfl 1 rfl rfl ?_
        refine gm_rooms 61 C hK dX3_leadsAt_58 rfl (nI (N 0 0)) rfl ?_
        have hm := mul_le (Nat.le_of_lt_succ hdr.2.2.2) (show ((h + 12) - 1) % 12 ≤ 11 by omega)
        refine hd_irem 62 C dX3_leadsAt_61 rfl (nI (((N 3 d) + ((N 4 d) * (((h + 12) - 1) % 12))) % (N 0 0))) (nI_ne0 (by omega) (by omega)) (pk_rem (by omega) (by omega) (by omega)) ?_
        exact hd_iret C hK dX3_leadsAt_62 ⟨rfl, by first | (exfalso; omega) | simp [ld, ld0, oI, h7, h13, h25]⟩
      · skip
        refine hd_iload_n 29 C dX3_leadsAt_28 rfl 2 rfl rfl ?_
        refine hd_goto 41 C dX3_leadsAt_29 (by decide) ?_
        refine hd_istore_n 42 C dX3_leadsAt_41 rfl [(3, .int (nI h)), (0, .ref (a 0)), (1, .int (nI d)), (2, .int (nI h))] rfl (by decide) rfl ?_
        refine hd_aload_n 43 C dX3_leadsAt_42 rfl 1 rfl rfl ?_
        refine gm_toOf 46 C hK dX3_leadsAt_43 rfl ?_
        refine hd_iload_n 47 C dX3_leadsAt_46 rfl 2 rfl rfl ?_
        refine alm_toOf 48 C hK dX3_leadsAt_47 rfl (by omega) (nI (N 3 d)) rfl ?_
        refine hd_aload_n 49 C dX3_leadsAt_48 rfl 1 rfl rfl ?_
        refine gm_stepOf 52 C hK dX3_leadsAt_49 rfl ?_
        refine hd_iload_n 53 C dX3_leadsAt_52 rfl 2 rfl rfl ?_
        refine alm_stepOf 54 C hK dX3_leadsAt_53 rfl (by omega) (nI (N 4 d)) rfl ?_
        refine hd_iload_n 55 C dX3_leadsAt_54 rfl 0 rfl rfl ?_
        refine hd_imul 56 C dX3_leadsAt_55 rfl (nI ((N 4 d) * h)) (pk_mul _ _) ?_
        refine hd_iadd 57 C dX3_leadsAt_56 rfl (nI ((N 3 d) + ((N 4 d) * h))) (nI_add _ _) ?_
        refine hd_aload_n 58 C dX3_leadsAt_57 rfl 1 rfl rfl ?_
        refine gm_rooms 61 C hK dX3_leadsAt_58 rfl (nI (N 0 0)) rfl ?_
        have hm := mul_le (Nat.le_of_lt_succ hdr.2.2.2) (show h ≤ 11 by omega)
        refine hd_irem 62 C dX3_leadsAt_61 rfl (nI (((N 3 d) + ((N 4 d) * h)) % (N 0 0))) (nI_ne0 (by omega) (by omega)) (pk_rem (by omega) (by omega) (by omega)) ?_
        exact hd_iret C hK dX3_leadsAt_62 ⟨rfl, by first | (exfalso; omega) | simp [ld, ld0, oI, h7, h13, h25]⟩
    · skip
      refine hd_bipush 18 C dX3_leadsAt_16 rfl (-9) (by decide) ?_
      exact hd_iret C hK dX3_leadsAt_18 ⟨rfl, by first | (exfalso; omega) | simp [ld, ld0, oI, h7, h13]⟩

set_option maxHeartbeats 4000000 in
set_option maxRecDepth 100000 in
theorem m_behind {l : Launch} {D : va_G} {cI cJ cD cS : ClassId} {a : Nat → Nat} {N : Nat → Nat → Nat} {Z : Nat → Nat → Int32} {E : Nat → Nat → Int32} {G : Nat → Nat → Int64} {T : Nat → Nat} (room h act : Nat) (hI : inv N) (ha : act ≤ N 0 1) (hr : room < 6) (hh : h < 12)  : ctI l D (ty4 cI cJ cD cS) none (wM cI a) yX3_behind cX3_behind 4 (some .int) (rmk 1 23) [.ref (a 0), .int (nI room), .int (nI h), .int (nI act)] (N, Z, E, G, T) (fun (r : Int32) (u : sT) => u = (N, Z, E, G, T) ∧ r = oI (bh N (Z 0 2) room h act)) := by
  refine ctI_of [(0, .ref (a 0)), (1, .int (nI room)), (2, .int (nI h)), (3, .int (nI act))] (by decide) (Nat.le_of_ble_eq_true rfl) rfl ?_
  intro p e s m args below meth c A C hK hZ hA
  have hR := hI.R
  have hDn := hI.D
  have hdr := hI.door act
  refine hd_iload_n 1 C dX3_behind_0 rfl 3 rfl rfl ?_
  refine hd_aload_n 2 C dX3_behind_1 rfl 0 rfl rfl ?_
  refine gm_doors 5 C hK dX3_behind_2 rfl (nI (N 0 1)) rfl ?_
  refine hd_icmp_neN 8 10 C dX3_behind_5 rfl (by decide) (by omega) (by omega) (fun h5 => ?_) (fun h5 => ?_)
  · skip
    refine hd_iload_n 11 C dX3_behind_10 rfl 3 rfl rfl ?_
    refine hd_aload_n 12 C dX3_behind_11 rfl 0 rfl rfl ?_
    refine gm_gone 15 C hK dX3_behind_12 rfl (Z 0 2) rfl ?_
    refine hd_icmp_eq 18 28 C dX3_behind_15 rfl (by decide) (fun h15 => ?_) (fun h15 => ?_)
    · skip
      refine hd_bipush 30 C dX3_behind_28 rfl (-9) (by decide) ?_
      refine hd_goto 39 C dX3_behind_30 (by decide) ?_
      exact hd_iret C hK dX3_behind_39 ⟨rfl, by simp [bh, oI, h5, h15]⟩
    · skip
      refine hd_aload_n 19 C dX3_behind_18 rfl 0 rfl rfl ?_
      refine gm_roomOf 22 C hK dX3_behind_19 rfl ?_
      refine hd_iload_n 23 C dX3_behind_22 rfl 3 rfl rfl ?_
      refine alm_roomOf 24 C hK dX3_behind_23 rfl (by omega) (nI (N 2 act)) rfl ?_
      refine hd_iload_n 25 C dX3_behind_24 rfl 1 rfl rfl ?_
      refine hd_icmp_eqN 28 33 C dX3_behind_25 rfl (by decide) (by omega) (by omega) (fun h25 => ?_) (fun h25 => ?_)
      · skip
        refine hd_aload_n 34 C dX3_behind_33 rfl 0 rfl rfl ?_
        refine hd_iload_n 35 C dX3_behind_34 rfl 3 rfl rfl ?_
        refine hd_iload_n 36 C dX3_behind_35 rfl 2 rfl rfl ?_
        refine hd_callVI (rest := []) 39 C hK hZ hA ⟨Nat.zero_le _, Nat.zero_le _⟩ dX3_behind_36 rfl kc_X3_140 (m_leadsAt act h hI (by omega) (by omega) (hI.pos (d := act) (by omega))) ⟨rfl, rfl⟩ ⟨by decide, by decide⟩ 0 3 rfl rfl rfl rfl rfl (by decide) (fun r36 u36 h36 => ?_)
        obtain ⟨rfl, rfl⟩ := h36
        exact hd_iret C hK dX3_behind_39 ⟨rfl, by simp [bh, oI, h5, h15, h25]⟩
      · skip
        refine hd_bipush 30 C dX3_behind_28 rfl (-9) (by decide) ?_
        refine hd_goto 39 C dX3_behind_30 (by decide) ?_
        exact hd_iret C hK dX3_behind_39 ⟨rfl, by simp [bh, oI, h5, h15, h25]⟩
  · skip
    refine hd_iload_n 9 C dX3_behind_8 rfl 1 rfl rfl ?_
    exact hd_iret C hK dX3_behind_9 ⟨rfl, by simp [bh, oI, h5]⟩

set_option maxHeartbeats 4000000 in
set_option maxRecDepth 100000 in
theorem m_setBehind {l : Launch} {D : va_G} {cI cJ cD cS : ClassId} {a : Nat → Nat} {N : Nat → Nat → Nat} {Z : Nat → Nat → Int32} {E : Nat → Nat → Int32} {G : Nat → Nat → Int64} {T : Nat → Nat} (set h : Nat) (hI : inv N) (hs : set < 64) (hh : h < 12)  : ctI l D (ty4 cI cJ cD cS) none (wM cI a) yX3_setBehind cX3_setBehind 6 (some .int) (rmk 2 46) [.ref (a 0), .int (nI set), .int (nI h)] (N, Z, E, G, T) (fun (r : Int32) (u : sT) => u = (N, Z, E, G, T) ∧ r = nI (ah N (Z 0 2) h set)) := by
  refine ctI_of [(0, .ref (a 0)), (1, .int (nI set)), (2, .int (nI h))] (by decide) (Nat.le_of_ble_eq_true rfl) rfl ?_
  intro p e s m args below meth c A C hK hZ hA
  have hR := hI.R
  have hDn := hI.D
  refine hd_iload_n 1 C dX3_setBehind_0 rfl 1 rfl rfl ?_
  refine hd_istore_n 2 C dX3_setBehind_1 rfl [(3, .int (nI set)), (0, .ref (a 0)), (1, .int (nI set)), (2, .int (nI h))] rfl (by decide) rfl ?_
  refine hd_iconst 3 C dX3_setBehind_2 rfl (nI 0) (by decide) ?_
  refine hd_istore 5 C dX3_setBehind_3 rfl [(4, .int (nI 0)), (3, .int (nI set)), (0, .ref (a 0)), (1, .int (nI set)), (2, .int (nI h))] (by decide) rfl ?_
  have L : ∀ (fuel : Nat) (d : Nat) (hd : d ≤ N 0 1), N 0 1 - d < fuel → XW p l e (rmk 2 46) s m args below meth c 6 0 0 A D (MQ below (va_Qi (fun (r : Int32) (u : sT) => u = (N, Z, E, G, T) ∧ r = nI (ah N (Z 0 2) h set)) (cB D (ty4 cI cJ cD cS) (wM cI a) A) A) args s 0 0 A) (wM cI a) (N, Z, E, G, T) 5 [(0, .ref (a 0)), (1, .int (nI set)), (2, .int (nI h)), (3, .int (nI (aho N (Z 0 2) h set d))), (4, .int (nI d))] [] := by
    intro fuel
    induction fuel with
    | zero => intro d hd hfu; exact absurd hfu (Nat.not_lt_zero _)
    | succ fuel ih_L =>
      intro d hd hfu_L
      refine hd_iload 7 C dX3_setBehind_5 rfl 4 rfl ?_
      refine hd_aload_n 8 C dX3_setBehind_7 rfl 0 rfl rfl ?_
      refine gm_doors 11 C hK dX3_setBehind_8 rfl (nI (N 0 1)) rfl ?_
      refine hd_icmp_geN 14 71 C dX3_setBehind_11 rfl (by decide) (by omega) (by omega) (fun h11 => ?_) (fun h11 => ?_)
      · skip
        refine hd_iload_n 72 C dX3_setBehind_71 rfl 3 rfl rfl ?_
        exact hd_iret C hK dX3_setBehind_72 ⟨rfl, congrArg nI (ah_end (by omega))⟩
      · skip
        have hat := hI.at h11
        have hdr := hI.door d
        refine hd_iload_n 15 C dX3_setBehind_14 rfl 1 rfl rfl ?_
        refine hd_aload_n 16 C dX3_setBehind_15 rfl 0 rfl rfl ?_
        refine gm_roomOf 19 C hK dX3_setBehind_16 rfl ?_
        refine hd_iload 21 C dX3_setBehind_19 rfl 4 rfl ?_
        refine alm_roomOf 22 C hK dX3_setBehind_21 rfl (by omega) (nI (N 2 d)) rfl ?_
        refine hd_callSI (rest := []) 25 C hK hZ hA ⟨Nat.zero_le _, Nat.zero_le _⟩ dX3_setBehind_22 rfl kc_X3_172 (m_isIn set (N 2 d) (by omega) (by omega)) ⟨rfl, rfl⟩ ⟨by decide, by decide⟩ rfl rfl (by decide) (fun r22 u22 h22 => ?_)
        obtain ⟨rfl, rfl⟩ := h22
        refine hd_if_eqB 28 45 C dX3_setBehind_25 rfl (by decide) (fun h25 => ?_) (fun h25 => ?_)
        · skip
          refine hd_bipush 47 C dX3_setBehind_45 rfl (-9) (by decide) ?_
          refine hd_istore 49 C dX3_setBehind_47 rfl [(5, .int (-9)), (0, .ref (a 0)), (1, .int (nI set)), (2, .int (nI h)), (3, .int (nI (aho N (Z 0 2) h set d))), (4, .int (nI d))] (by decide) rfl ?_
          refine hd_iload_n 50 C dX3_setBehind_49 rfl 4 rfl rfl ?_
          refine hd_iload 52 C dX3_setBehind_50 rfl 0 rfl ?_
          refine hd_if_lt 55 62 C dX3_setBehind_52 rfl (by decide) (fun _ => ?_) (fun q => absurd (by decide) q)
          refine hd_iconst 63 C dX3_setBehind_62 rfl (nI 0) (by decide) ?_
          refine hd_ior 64 C dX3_setBehind_63 rfl (nI ((aho N (Z 0 2) h set d) ||| 0)) (fa_or _ _) ?_
          refine hd_istore_n 65 C dX3_setBehind_64 rfl [(3, .int (nI ((aho N (Z 0 2) h set d) ||| 0))), (5, .int (-9)), (0, .ref (a 0)), (1, .int (nI set)), (2, .int (nI h)), (4, .int (nI d))] rfl (by decide) rfl ?_
          refine hd_iinc 68 C dX3_setBehind_65 rfl 5 (nI (d + 1)) [(4, .int (nI (d + 1))), (3, .int (nI ((aho N (Z 0 2) h set d) ||| 0))), (5, .int (-9)), (0, .ref (a 0)), (1, .int (nI set)), (2, .int (nI h))] rfl (nI_add _ _) (by decide) rfl ?_
          refine hd_goto 5 C dX3_setBehind_68 (by decide) ?_
          rw [show (aho N (Z 0 2) h set d) ||| 0 = aho N (Z 0 2) h set (d + 1) from (by simp [aho_bh (show d < N 0 1 by omega), hd, h11, h25])]
          refine hd_sub [(0, .ref (a 0)), (1, .int (nI set)), (2, .int (nI h)), (3, .int (nI (aho N (Z 0 2) h set (d + 1)))), (4, .int (nI (d + 1)))] [3, 4, 5, 1, 0] rfl ?_
          exact ih_L (d + 1) (by omega) (by omega)
        · skip
          refine hd_aload_n 29 C dX3_setBehind_28 rfl 0 rfl rfl ?_
          refine hd_aload_n 30 C dX3_setBehind_29 rfl 0 rfl rfl ?_
          refine gm_roomOf 33 C hK dX3_setBehind_30 rfl ?_
          refine hd_iload 35 C dX3_setBehind_33 rfl 4 rfl ?_
          refine alm_roomOf 36 C hK dX3_setBehind_35 rfl (by omega) (nI (N 2 d)) rfl ?_
          refine hd_iload_n 37 C dX3_setBehind_36 rfl 2 rfl rfl ?_
          refine hd_iload 39 C dX3_setBehind_37 rfl 4 rfl ?_
          refine hd_callVI (rest := []) 42 C hK hZ hA ⟨Nat.zero_le _, Nat.zero_le _⟩ dX3_setBehind_39 rfl kc_X3_160 (m_behind (N 2 d) h d hI (by omega) (by omega) (by omega)) ⟨rfl, rfl⟩ ⟨by decide, by decide⟩ 0 3 rfl rfl rfl rfl rfl (by decide) (fun r39 u39 h39 => ?_)
          obtain ⟨rfl, rfl⟩ := h39
          rcases ho39 : bh N (Z 0 2) (N 2 d) h d with _ | rv39
          · skip
            refine hd_goto 47 C dX3_setBehind_42 (by decide) ?_
            refine hd_istore 49 C dX3_setBehind_47 rfl [(5, .int (-9)), (0, .ref (a 0)), (1, .int (nI set)), (2, .int (nI h)), (3, .int (nI (aho N (Z 0 2) h set d))), (4, .int (nI d))] (by decide) rfl ?_
            refine hd_iload_n 50 C dX3_setBehind_49 rfl 4 rfl rfl ?_
            refine hd_iload 52 C dX3_setBehind_50 rfl 0 rfl ?_
            refine hd_if_lt 55 62 C dX3_setBehind_52 rfl (by decide) (fun _ => ?_) (fun q => absurd (by decide) q)
            refine hd_iconst 63 C dX3_setBehind_62 rfl (nI 0) (by decide) ?_
            refine hd_ior 64 C dX3_setBehind_63 rfl (nI ((aho N (Z 0 2) h set d) ||| 0)) (fa_or _ _) ?_
            refine hd_istore_n 65 C dX3_setBehind_64 rfl [(3, .int (nI ((aho N (Z 0 2) h set d) ||| 0))), (5, .int (-9)), (0, .ref (a 0)), (1, .int (nI set)), (2, .int (nI h)), (4, .int (nI d))] rfl (by decide) rfl ?_
            refine hd_iinc 68 C dX3_setBehind_65 rfl 5 (nI (d + 1)) [(4, .int (nI (d + 1))), (3, .int (nI ((aho N (Z 0 2) h set d) ||| 0))), (5, .int (-9)), (0, .ref (a 0)), (1, .int (nI set)), (2, .int (nI h))] rfl (nI_add _ _) (by decide) rfl ?_
            refine hd_goto 5 C dX3_setBehind_68 (by decide) ?_
            rw [show (aho N (Z 0 2) h set d) ||| 0 = aho N (Z 0 2) h set (d + 1) from (by simp [aho_bh (show d < N 0 1 by omega), hd, h11, h25, ho39])]
            refine hd_sub [(0, .ref (a 0)), (1, .int (nI set)), (2, .int (nI h)), (3, .int (nI (aho N (Z 0 2) h set (d + 1)))), (4, .int (nI (d + 1)))] [3, 4, 5, 1, 0] rfl ?_
            exact ih_L (d + 1) (by omega) (by omega)
          · skip
            have hbrv39 := bh_lt hI (by omega) (by omega) _ ho39
            refine hd_goto 47 C dX3_setBehind_42 (by decide) ?_
            refine hd_istore 49 C dX3_setBehind_47 rfl [(5, .int (nI rv39)), (0, .ref (a 0)), (1, .int (nI set)), (2, .int (nI h)), (3, .int (nI (aho N (Z 0 2) h set d))), (4, .int (nI d))] (by decide) rfl ?_
            refine hd_iload_n 50 C dX3_setBehind_49 rfl 4 rfl rfl ?_
            refine hd_iload 52 C dX3_setBehind_50 rfl 0 rfl ?_
            refine hd_if_ltP 55 62 C dX3_setBehind_52 rfl (by decide) (by omega) ?_
            refine hd_iconst 56 C dX3_setBehind_55 rfl (nI 1) (by decide) ?_
            refine hd_iload 58 C dX3_setBehind_56 rfl 0 rfl ?_
            refine hd_ishl 59 C dX3_setBehind_58 rfl (nI (2 ^ rv39)) (nI_shl1 (by omega)) ?_
            refine hd_goto 63 C dX3_setBehind_59 (by decide) ?_
            refine hd_ior 64 C dX3_setBehind_63 rfl (nI ((aho N (Z 0 2) h set d) ||| (2 ^ rv39))) (fa_or _ _) ?_
            refine hd_istore_n 65 C dX3_setBehind_64 rfl [(3, .int (nI ((aho N (Z 0 2) h set d) ||| (2 ^ rv39)))), (5, .int (nI rv39)), (0, .ref (a 0)), (1, .int (nI set)), (2, .int (nI h)), (4, .int (nI d))] rfl (by decide) rfl ?_
            refine hd_iinc 68 C dX3_setBehind_65 rfl 5 (nI (d + 1)) [(4, .int (nI (d + 1))), (3, .int (nI ((aho N (Z 0 2) h set d) ||| (2 ^ rv39)))), (5, .int (nI rv39)), (0, .ref (a 0)), (1, .int (nI set)), (2, .int (nI h))] rfl (nI_add _ _) (by decide) rfl ?_
            refine hd_goto 5 C dX3_setBehind_68 (by decide) ?_
            rw [show (aho N (Z 0 2) h set d) ||| (2 ^ rv39) = aho N (Z 0 2) h set (d + 1) from (by simp [aho_bh (show d < N 0 1 by omega), hd, h11, h25, ho39])]
            refine hd_sub [(0, .ref (a 0)), (1, .int (nI set)), (2, .int (nI h)), (3, .int (nI (aho N (Z 0 2) h set (d + 1)))), (4, .int (nI (d + 1)))] [3, 4, 5, 1, 0] rfl ?_
            exact ih_L (d + 1) (by omega) (by omega)
  refine hd_sub [(0, .ref (a 0)), (1, .int (nI set)), (2, .int (nI h)), (3, .int (nI set)), (4, .int (nI 0))] [2, 3, 4, 1, 0] rfl ?_
  exact L (N 0 1 + 1) 0 (Nat.zero_le _) (by omega)

set_option maxHeartbeats 4000000 in
set_option maxRecDepth 100000 in
theorem m_soonestOf {l : Launch} {D : va_G} {cI cJ cD cS : ClassId} {a : Nat → Nat} {N : Nat → Nat → Nat} {Z : Nat → Nat → Int32} {E : Nat → Nat → Int32} {G : Nat → Nat → Int64} {T : Nat → Nat} (fr to h most : Nat) (hI : inv N) (hf : fr < 6) (hto : to < 6) (hh : h < 12) (hm : most ≤ 24)  : ctI l D (ty4 cI cJ cD cS) none (wM cI a) yX3_soonestOf cX3_soonestOf 7 (some .int) (rmk 3 71) [.ref (a 0), .int (nI fr), .int (nI to), .int (nI h), .int (nI most)] (N, Z, E, G, T) (fun (r : Int32) (u : sT) => u = (N, Z, E, G, T) ∧ r = oI (sn N (Z 0 2) fr to h most)) := by
  refine ctI_of [(0, .ref (a 0)), (1, .int (nI fr)), (2, .int (nI to)), (3, .int (nI h)), (4, .int (nI most))] (by decide) (Nat.le_of_ble_eq_true rfl) rfl ?_
  intro p e s m args below meth c A C hK hZ hA
  refine hd_iconst 1 C dX3_soonestOf_0 rfl (nI 1) (by decide) ?_
  refine hd_iload_n 2 C dX3_soonestOf_1 rfl 1 rfl rfl ?_
  refine hd_ishl 3 C dX3_soonestOf_2 rfl (nI (2 ^ fr)) (nI_shl1 (by omega)) ?_
  refine hd_istore 5 C dX3_soonestOf_3 rfl [(5, .int (nI (2 ^ fr))), (0, .ref (a 0)), (1, .int (nI fr)), (2, .int (nI to)), (3, .int (nI h)), (4, .int (nI most))] (by decide) rfl ?_
  refine hd_iconst 6 C dX3_soonestOf_5 rfl (nI 0) (by decide) ?_
  refine hd_istore 8 C dX3_soonestOf_6 rfl [(6, .int (nI 0)), (5, .int (nI (2 ^ fr))), (0, .ref (a 0)), (1, .int (nI fr)), (2, .int (nI to)), (3, .int (nI h)), (4, .int (nI most))] (by decide) rfl ?_
  have L : ∀ (fuel : Nat) (t set : Nat) (hs : set < 64) (ht : t ≤ most + 1) (hF : sn N (Z 0 2) fr to h most = fw N (Z 0 2) to h (most + 1 - t) t set), most + 1 - t < fuel → XW p l e (rmk 3 71) s m args below meth c 7 0 0 A D (MQ below (va_Qi (fun (r : Int32) (u : sT) => u = (N, Z, E, G, T) ∧ r = oI (sn N (Z 0 2) fr to h most)) (cB D (ty4 cI cJ cD cS) (wM cI a) A) A) args s 0 0 A) (wM cI a) (N, Z, E, G, T) 8 [(6, .int (nI t)), (5, .int (nI set)), (0, .ref (a 0)), (1, .int (nI fr)), (2, .int (nI to)), (3, .int (nI h)), (4, .int (nI most))] [] := by
    intro fuel
    induction fuel with
    | zero => intro t set hs ht hF hfu; exact absurd hfu (Nat.not_lt_zero _)
    | succ fuel ih_L =>
      intro t set hs ht hF hfu_L
      refine hd_iload 10 C dX3_soonestOf_8 rfl 0 rfl ?_
      refine hd_iload 12 C dX3_soonestOf_10 rfl 6 rfl ?_
      refine hd_icmp_gtN 15 48 C dX3_soonestOf_12 rfl (by decide) (by omega) (by omega) (fun h12 => ?_) (fun h12 => ?_)
      · skip
        refine hd_bipush 50 C dX3_soonestOf_48 rfl (-9) (by decide) ?_
        exact hd_iret C hK dX3_soonestOf_50 ⟨rfl, by rw [hF, show most + 1 - t = 0 by omega]; rfl⟩
      · skip
        refine hd_iload 17 C dX3_soonestOf_15 rfl 1 rfl ?_
        refine hd_iload_n 18 C dX3_soonestOf_17 rfl 4 rfl rfl ?_
        refine hd_callSI (rest := []) 21 C hK hZ hA ⟨Nat.zero_le _, Nat.zero_le _⟩ dX3_soonestOf_18 rfl kc_X3_172 (m_isIn set to (by omega) (by omega)) ⟨rfl, rfl⟩ ⟨by decide, by decide⟩ rfl rfl (by decide) (fun r18 u18 h18 => ?_)
        obtain ⟨rfl, rfl⟩ := h18
        refine hd_if_eqB 24 27 C dX3_soonestOf_21 rfl (by decide) (fun h21 => ?_) (fun h21 => ?_)
        · skip
          refine hd_aload_n 28 C dX3_soonestOf_27 rfl 2 rfl rfl ?_
          refine hd_iload 30 C dX3_soonestOf_28 rfl 1 rfl ?_
          refine hd_iload_n 31 C dX3_soonestOf_30 rfl 5 rfl rfl ?_
          refine hd_iload 33 C dX3_soonestOf_31 rfl 0 rfl ?_
          refine hd_iadd 34 C dX3_soonestOf_33 rfl (nI (h + t)) (nI_add _ _) ?_
          refine hd_bipush 36 C dX3_soonestOf_34 rfl (nI 12) (by decide) ?_
          refine hd_irem 37 C dX3_soonestOf_36 rfl (nI ((h + t) % 12)) (nI_ne0 (by omega) (by omega)) (pk_rem (by omega) (by omega) (by omega)) ?_
          refine hd_callVI (rest := []) 40 C hK hZ hA ⟨Nat.zero_le _, Nat.zero_le _⟩ dX3_soonestOf_37 rfl kc_X3_175 (m_setBehind set ((h + t) % 12) hI (by omega) (by omega)) ⟨rfl, rfl⟩ ⟨by decide, by decide⟩ 0 3 rfl rfl rfl rfl rfl (by decide) (fun r37 u37 h37 => ?_)
          obtain ⟨rfl, rfl⟩ := h37
          refine hd_istore 42 C dX3_soonestOf_40 rfl [(5, .int (nI (ah N (Z 0 2) ((h + t) % 12) set))), (6, .int (nI t)), (0, .ref (a 0)), (1, .int (nI fr)), (2, .int (nI to)), (3, .int (nI h)), (4, .int (nI most))] (by decide) rfl ?_
          refine hd_iinc 45 C dX3_soonestOf_42 rfl 1 (nI (t + 1)) [(6, .int (nI (t + 1))), (5, .int (nI (ah N (Z 0 2) ((h + t) % 12) set))), (0, .ref (a 0)), (1, .int (nI fr)), (2, .int (nI to)), (3, .int (nI h)), (4, .int (nI most))] rfl (nI_add _ _) (by decide) rfl ?_
          refine hd_goto 8 C dX3_soonestOf_45 (by decide) ?_
          refine hd_sub [(6, .int (nI (t + 1))), (5, .int (nI (ah N (Z 0 2) ((h + t) % 12) set))), (0, .ref (a 0)), (1, .int (nI fr)), (2, .int (nI to)), (3, .int (nI h)), (4, .int (nI most))] [0, 1, 2, 3, 4, 5, 6] rfl ?_
          exact ih_L (t + 1) _ (ah_lt hI hs) (by omega) (by rw [hF, show most + 1 - t = (most - t) + 1 by omega, show most + 1 - (t + 1) = most - t by omega, fw_succ, if_neg (by simp [h21])]) (by omega)
        · skip
          refine hd_iload 26 C dX3_soonestOf_24 rfl 0 rfl ?_
          exact hd_iret C hK dX3_soonestOf_26 ⟨rfl, by rw [hF, show most + 1 - t = (most - t) + 1 by omega, fw_succ, if_pos h21]; rfl⟩
  refine hd_sub [(6, .int (nI 0)), (5, .int (nI (2 ^ fr))), (0, .ref (a 0)), (1, .int (nI fr)), (2, .int (nI to)), (3, .int (nI h)), (4, .int (nI most))] [0, 1, 2, 3, 4, 5, 6] rfl ?_
  exact L (most + 1 + 1) 0 _ (pow_lt6 (by omega)) (Nat.zero_le _) rfl (by omega)
end
