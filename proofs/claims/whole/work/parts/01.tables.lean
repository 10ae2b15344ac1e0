-- ===== PART A: goes FIRST, ahead of the names: the tables' words, and 'selects' of the private methods out of them =====
/-- a private method of a class that the tables say can be made, by its rows of tables_1 -/
def lw_okq (q : MethodName × Nat) : Prop := (q.1.cls ≠ "java/lang/invoke/MethodHandle" ∧ q.1.cls ≠ "java/lang/invoke/VarHandle") ∧ Cond.instantiable q.1.cls q.2 ∈ tables_1 ∧ Cond.privateMethod q.1 ∈ tables_1 ∧ Cond.instanceMethod q.1 ∈ tables_1
theorem lw_p0 : lw_okq (⟨"HeightSheet$Reckoning", "reckon", "(LHeightSheet$Formulas;)V"⟩, 7) := ⟨⟨by decide +kernel, by decide +kernel⟩, List.mem_of_getElem? (i := 89) (by decide +kernel), List.mem_of_getElem? (i := 192) (by decide +kernel), List.mem_of_getElem? (i := 193) (by decide +kernel)⟩
theorem lw_p1 : lw_okq (⟨"HeightSheet$Reckoning", "tryCell", "(LHeightSheet$Formulas;I)V"⟩, 7) := ⟨⟨by decide +kernel, by decide +kernel⟩, List.mem_of_getElem? (i := 89) (by decide +kernel), List.mem_of_getElem? (i := 202) (by decide +kernel), List.mem_of_getElem? (i := 203) (by decide +kernel)⟩
theorem lw_p2 : lw_okq (⟨"HeightSheet$Formulas", "part", "(II)I"⟩, 1) := ⟨⟨by decide +kernel, by decide +kernel⟩, List.mem_of_getElem? (i := 63) (by decide +kernel), List.mem_of_getElem? (i := 206) (by decide +kernel), List.mem_of_getElem? (i := 207) (by decide +kernel)⟩
theorem lw_p3 : lw_okq (⟨"HeightSheet$Reckoning", "settle", "(II)V"⟩, 7) := ⟨⟨by decide +kernel, by decide +kernel⟩, List.mem_of_getElem? (i := 89) (by decide +kernel), List.mem_of_getElem? (i := 210) (by decide +kernel), List.mem_of_getElem? (i := 211) (by decide +kernel)⟩
theorem lw_p4 : lw_okq (⟨"HeightSheet$Reckoning", "takes", "(II)Z"⟩, 7) := ⟨⟨by decide +kernel, by decide +kernel⟩, List.mem_of_getElem? (i := 89) (by decide +kernel), List.mem_of_getElem? (i := 217) (by decide +kernel), List.mem_of_getElem? (i := 218) (by decide +kernel)⟩
theorem lw_p5 : lw_okq (⟨"HeightSheet$Reckoning", "settleAs", "(II)V"⟩, 7) := ⟨⟨by decide +kernel, by decide +kernel⟩, List.mem_of_getElem? (i := 89) (by decide +kernel), List.mem_of_getElem? (i := 227) (by decide +kernel), List.mem_of_getElem? (i := 228) (by decide +kernel)⟩
theorem lw_p6 : lw_okq (⟨"HeightSheet$Reckoning", "trySpan", "(IIII)V"⟩, 7) := ⟨⟨by decide +kernel, by decide +kernel⟩, List.mem_of_getElem? (i := 89) (by decide +kernel), List.mem_of_getElem? (i := 231) (by decide +kernel), List.mem_of_getElem? (i := 232) (by decide +kernel)⟩
theorem lw_p7 : lw_okq (⟨"HeightSheet$Reckoning", "tryTwo", "(IIII)V"⟩, 7) := ⟨⟨by decide +kernel, by decide +kernel⟩, List.mem_of_getElem? (i := 89) (by decide +kernel), List.mem_of_getElem? (i := 236) (by decide +kernel), List.mem_of_getElem? (i := 237) (by decide +kernel)⟩
theorem lw_p8 : lw_okq (⟨"HeightSheet$Reckoning", "findCircles", "()V"⟩, 7) := ⟨⟨by decide +kernel, by decide +kernel⟩, List.mem_of_getElem? (i := 89) (by decide +kernel), List.mem_of_getElem? (i := 240) (by decide +kernel), List.mem_of_getElem? (i := 241) (by decide +kernel)⟩
theorem lw_p9 : lw_okq (⟨"HeightSheet$Reckoning", "leastOfCircle", "(I)I"⟩, 7) := ⟨⟨by decide +kernel, by decide +kernel⟩, List.mem_of_getElem? (i := 89) (by decide +kernel), List.mem_of_getElem? (i := 244) (by decide +kernel), List.mem_of_getElem? (i := 245) (by decide +kernel)⟩
theorem lw_p10 : lw_okq (⟨"HeightSheet$Tape", "append", "(I)V"⟩, 6) := ⟨⟨by decide +kernel, by decide +kernel⟩, List.mem_of_getElem? (i := 27) (by decide +kernel), List.mem_of_getElem? (i := 301) (by decide +kernel), List.mem_of_getElem? (i := 302) (by decide +kernel)⟩
theorem lw_p11 : lw_okq (⟨"HeightSheet$TextReader", "takesAll", "(LHeightSheet$Tape;)Z"⟩, 3) := ⟨⟨by decide +kernel, by decide +kernel⟩, List.mem_of_getElem? (i := 57) (by decide +kernel), List.mem_of_getElem? (i := 313) (by decide +kernel), List.mem_of_getElem? (i := 314) (by decide +kernel)⟩
theorem lw_p12 : lw_okq (⟨"HeightSheet$Formulas", "clear", "()V"⟩, 1) := ⟨⟨by decide +kernel, by decide +kernel⟩, List.mem_of_getElem? (i := 63) (by decide +kernel), List.mem_of_getElem? (i := 317) (by decide +kernel), List.mem_of_getElem? (i := 318) (by decide +kernel)⟩
theorem lw_p13 : lw_okq (⟨"HeightSheet$Tape", "rewind", "()V"⟩, 6) := ⟨⟨by decide +kernel, by decide +kernel⟩, List.mem_of_getElem? (i := 27) (by decide +kernel), List.mem_of_getElem? (i := 322) (by decide +kernel), List.mem_of_getElem? (i := 323) (by decide +kernel)⟩
theorem lw_p14 : lw_okq (⟨"HeightSheet$Tape", "nextToken", "()V"⟩, 6) := ⟨⟨by decide +kernel, by decide +kernel⟩, List.mem_of_getElem? (i := 27) (by decide +kernel), List.mem_of_getElem? (i := 326) (by decide +kernel), List.mem_of_getElem? (i := 327) (by decide +kernel)⟩
theorem lw_p15 : lw_okq (⟨"HeightSheet$Tape", "takeName", "()V"⟩, 6) := ⟨⟨by decide +kernel, by decide +kernel⟩, List.mem_of_getElem? (i := 27) (by decide +kernel), List.mem_of_getElem? (i := 333) (by decide +kernel), List.mem_of_getElem? (i := 334) (by decide +kernel)⟩
def lw_privs_1 : List (MethodName × Nat) := [(⟨"HeightSheet$Reckoning", "reckon", "(LHeightSheet$Formulas;)V"⟩, 7), (⟨"HeightSheet$Reckoning", "tryCell", "(LHeightSheet$Formulas;I)V"⟩, 7), (⟨"HeightSheet$Formulas", "part", "(II)I"⟩, 1), (⟨"HeightSheet$Reckoning", "settle", "(II)V"⟩, 7), (⟨"HeightSheet$Reckoning", "takes", "(II)Z"⟩, 7), (⟨"HeightSheet$Reckoning", "settleAs", "(II)V"⟩, 7), (⟨"HeightSheet$Reckoning", "trySpan", "(IIII)V"⟩, 7), (⟨"HeightSheet$Reckoning", "tryTwo", "(IIII)V"⟩, 7), (⟨"HeightSheet$Reckoning", "findCircles", "()V"⟩, 7), (⟨"HeightSheet$Reckoning", "leastOfCircle", "(I)I"⟩, 7), (⟨"HeightSheet$Tape", "append", "(I)V"⟩, 6), (⟨"HeightSheet$TextReader", "takesAll", "(LHeightSheet$Tape;)Z"⟩, 3), (⟨"HeightSheet$Formulas", "clear", "()V"⟩, 1), (⟨"HeightSheet$Tape", "rewind", "()V"⟩, 6), (⟨"HeightSheet$Tape", "nextToken", "()V"⟩, 6), (⟨"HeightSheet$Tape", "takeName", "()V"⟩, 6)]
theorem lw_r1 : ∀ q ∈ lw_privs_1, lw_okq q := List.forall_mem_cons.mpr ⟨lw_p0, List.forall_mem_cons.mpr ⟨lw_p1, List.forall_mem_cons.mpr ⟨lw_p2, List.forall_mem_cons.mpr ⟨lw_p3, List.forall_mem_cons.mpr ⟨lw_p4, List.forall_mem_cons.mpr ⟨lw_p5, List.forall_mem_cons.mpr ⟨lw_p6, List.forall_mem_cons.mpr ⟨lw_p7, List.forall_mem_cons.mpr ⟨lw_p8, List.forall_mem_cons.mpr ⟨lw_p9, List.forall_mem_cons.mpr ⟨lw_p10, List.forall_mem_cons.mpr ⟨lw_p11, List.forall_mem_cons.mpr ⟨lw_p12, List.forall_mem_cons.mpr ⟨lw_p13, List.forall_mem_cons.mpr ⟨lw_p14, List.forall_mem_cons.mpr ⟨lw_p15, fun _ h => absurd h List.not_mem_nil⟩⟩⟩⟩⟩⟩⟩⟩⟩⟩⟩⟩⟩⟩⟩⟩
theorem lw_p16 : lw_okq (⟨"HeightSheet$Tape", "takeNumber", "()V"⟩, 6) := ⟨⟨by decide +kernel, by decide +kernel⟩, List.mem_of_getElem? (i := 27) (by decide +kernel), List.mem_of_getElem? (i := 340) (by decide +kernel), List.mem_of_getElem? (i := 341) (by decide +kernel)⟩
theorem lw_p17 : lw_okq (⟨"HeightSheet$TextReader", "takesLine", "(LHeightSheet$Tape;)Z"⟩, 3) := ⟨⟨by decide +kernel, by decide +kernel⟩, List.mem_of_getElem? (i := 57) (by decide +kernel), List.mem_of_getElem? (i := 344) (by decide +kernel), List.mem_of_getElem? (i := 345) (by decide +kernel)⟩
theorem lw_p18 : lw_okq (⟨"HeightSheet$Tape", "isWord", "(Ljava/lang/String;)Z"⟩, 6) := ⟨⟨by decide +kernel, by decide +kernel⟩, List.mem_of_getElem? (i := 27) (by decide +kernel), List.mem_of_getElem? (i := 362) (by decide +kernel), List.mem_of_getElem? (i := 363) (by decide +kernel)⟩
theorem lw_p19 : lw_okq (⟨"HeightSheet$TextReader", "fails", "(LHeightSheet$Tape;I)Z"⟩, 3) := ⟨⟨by decide +kernel, by decide +kernel⟩, List.mem_of_getElem? (i := 57) (by decide +kernel), List.mem_of_getElem? (i := 414) (by decide +kernel), List.mem_of_getElem? (i := 415) (by decide +kernel)⟩
theorem lw_p20 : lw_okq (⟨"HeightSheet$TextReader", "takesNumber", "(LHeightSheet$Tape;II)Z"⟩, 3) := ⟨⟨by decide +kernel, by decide +kernel⟩, List.mem_of_getElem? (i := 57) (by decide +kernel), List.mem_of_getElem? (i := 418) (by decide +kernel), List.mem_of_getElem? (i := 419) (by decide +kernel)⟩
theorem lw_p21 : lw_okq (⟨"HeightSheet$Formulas", "begin", "(II)V"⟩, 1) := ⟨⟨by decide +kernel, by decide +kernel⟩, List.mem_of_getElem? (i := 63) (by decide +kernel), List.mem_of_getElem? (i := 422) (by decide +kernel), List.mem_of_getElem? (i := 423) (by decide +kernel)⟩
theorem lw_p22 : lw_okq (⟨"HeightSheet$Formulas", "setOperand", "(III)V"⟩, 1) := ⟨⟨by decide +kernel, by decide +kernel⟩, List.mem_of_getElem? (i := 63) (by decide +kernel), List.mem_of_getElem? (i := 435) (by decide +kernel), List.mem_of_getElem? (i := 436) (by decide +kernel)⟩
theorem lw_p23 : lw_okq (⟨"HeightSheet", "beginWith", "(LHeightSheet$Formulas;)V"⟩, 15) := ⟨⟨by decide +kernel, by decide +kernel⟩, List.mem_of_getElem? (i := 19) (by decide +kernel), List.mem_of_getElem? (i := 439) (by decide +kernel), List.mem_of_getElem? (i := 440) (by decide +kernel)⟩
theorem lw_p24 : lw_okq (⟨"HeightSheet$Formulas", "become", "(LHeightSheet$Formulas;)V"⟩, 1) := ⟨⟨by decide +kernel, by decide +kernel⟩, List.mem_of_getElem? (i := 63) (by decide +kernel), List.mem_of_getElem? (i := 443) (by decide +kernel), List.mem_of_getElem? (i := 444) (by decide +kernel)⟩
theorem lw_p25 : lw_okq (⟨"HeightSheet$History", "clear", "()V"⟩, 2) := ⟨⟨by decide +kernel, by decide +kernel⟩, List.mem_of_getElem? (i := 157) (by decide +kernel), List.mem_of_getElem? (i := 450) (by decide +kernel), List.mem_of_getElem? (i := 451) (by decide +kernel)⟩
theorem lw_p26 : lw_okq (⟨"HeightSheet$Formulas", "countTold", "()I"⟩, 1) := ⟨⟨by decide +kernel, by decide +kernel⟩, List.mem_of_getElem? (i := 63) (by decide +kernel), List.mem_of_getElem? (i := 462) (by decide +kernel), List.mem_of_getElem? (i := 463) (by decide +kernel)⟩
theorem lw_p27 : lw_okq (⟨"HeightSheet$Reckoning", "greatestHeight", "()I"⟩, 7) := ⟨⟨by decide +kernel, by decide +kernel⟩, List.mem_of_getElem? (i := 89) (by decide +kernel), List.mem_of_getElem? (i := 473) (by decide +kernel), List.mem_of_getElem? (i := 474) (by decide +kernel)⟩
theorem lw_p28 : lw_okq (⟨"HeightSheet$Reckoning", "countReads", "()I"⟩, 7) := ⟨⟨by decide +kernel, by decide +kernel⟩, List.mem_of_getElem? (i := 89) (by decide +kernel), List.mem_of_getElem? (i := 477) (by decide +kernel), List.mem_of_getElem? (i := 478) (by decide +kernel)⟩
theorem lw_p29 : lw_okq (⟨"HeightSheet$Reckoning", "standing", "(I)I"⟩, 7) := ⟨⟨by decide +kernel, by decide +kernel⟩, List.mem_of_getElem? (i := 89) (by decide +kernel), List.mem_of_getElem? (i := 490) (by decide +kernel), List.mem_of_getElem? (i := 491) (by decide +kernel)⟩
theorem lw_p30 : lw_okq (⟨"HeightSheet$Reckoning", "readersOf", "(I)I"⟩, 7) := ⟨⟨by decide +kernel, by decide +kernel⟩, List.mem_of_getElem? (i := 89) (by decide +kernel), List.mem_of_getElem? (i := 496) (by decide +kernel), List.mem_of_getElem? (i := 497) (by decide +kernel)⟩
theorem lw_p31 : lw_okq (⟨"HeightSheet$Reckoning", "neededBy", "(I)I"⟩, 7) := ⟨⟨by decide +kernel, by decide +kernel⟩, List.mem_of_getElem? (i := 89) (by decide +kernel), List.mem_of_getElem? (i := 519) (by decide +kernel), List.mem_of_getElem? (i := 520) (by decide +kernel)⟩
def lw_privs_2 : List (MethodName × Nat) := [(⟨"HeightSheet$Tape", "takeNumber", "()V"⟩, 6), (⟨"HeightSheet$TextReader", "takesLine", "(LHeightSheet$Tape;)Z"⟩, 3), (⟨"HeightSheet$Tape", "isWord", "(Ljava/lang/String;)Z"⟩, 6), (⟨"HeightSheet$TextReader", "fails", "(LHeightSheet$Tape;I)Z"⟩, 3), (⟨"HeightSheet$TextReader", "takesNumber", "(LHeightSheet$Tape;II)Z"⟩, 3), (⟨"HeightSheet$Formulas", "begin", "(II)V"⟩, 1), (⟨"HeightSheet$Formulas", "setOperand", "(III)V"⟩, 1), (⟨"HeightSheet", "beginWith", "(LHeightSheet$Formulas;)V"⟩, 15), (⟨"HeightSheet$Formulas", "become", "(LHeightSheet$Formulas;)V"⟩, 1), (⟨"HeightSheet$History", "clear", "()V"⟩, 2), (⟨"HeightSheet$Formulas", "countTold", "()I"⟩, 1), (⟨"HeightSheet$Reckoning", "greatestHeight", "()I"⟩, 7), (⟨"HeightSheet$Reckoning", "countReads", "()I"⟩, 7), (⟨"HeightSheet$Reckoning", "standing", "(I)I"⟩, 7), (⟨"HeightSheet$Reckoning", "readersOf", "(I)I"⟩, 7), (⟨"HeightSheet$Reckoning", "neededBy", "(I)I"⟩, 7)]
theorem lw_r2 : ∀ q ∈ lw_privs_2, lw_okq q := List.forall_mem_cons.mpr ⟨lw_p16, List.forall_mem_cons.mpr ⟨lw_p17, List.forall_mem_cons.mpr ⟨lw_p18, List.forall_mem_cons.mpr ⟨lw_p19, List.forall_mem_cons.mpr ⟨lw_p20, List.forall_mem_cons.mpr ⟨lw_p21, List.forall_mem_cons.mpr ⟨lw_p22, List.forall_mem_cons.mpr ⟨lw_p23, List.forall_mem_cons.mpr ⟨lw_p24, List.forall_mem_cons.mpr ⟨lw_p25, List.forall_mem_cons.mpr ⟨lw_p26, List.forall_mem_cons.mpr ⟨lw_p27, List.forall_mem_cons.mpr ⟨lw_p28, List.forall_mem_cons.mpr ⟨lw_p29, List.forall_mem_cons.mpr ⟨lw_p30, List.forall_mem_cons.mpr ⟨lw_p31, fun _ h => absurd h List.not_mem_nil⟩⟩⟩⟩⟩⟩⟩⟩⟩⟩⟩⟩⟩⟩⟩⟩
theorem lw_p32 : lw_okq (⟨"HeightSheet$Reckoning", "hangingOn", "(I)I"⟩, 7) := ⟨⟨by decide +kernel, by decide +kernel⟩, List.mem_of_getElem? (i := 89) (by decide +kernel), List.mem_of_getElem? (i := 523) (by decide +kernel), List.mem_of_getElem? (i := 524) (by decide +kernel)⟩
theorem lw_p33 : lw_okq (⟨"HeightSheet$Reckoning", "nthByHeight", "(I)I"⟩, 7) := ⟨⟨by decide +kernel, by decide +kernel⟩, List.mem_of_getElem? (i := 89) (by decide +kernel), List.mem_of_getElem? (i := 532) (by decide +kernel), List.mem_of_getElem? (i := 533) (by decide +kernel)⟩
theorem lw_p34 : lw_okq (⟨"HeightSheet$Reckoning", "nthOfCircle", "(II)I"⟩, 7) := ⟨⟨by decide +kernel, by decide +kernel⟩, List.mem_of_getElem? (i := 89) (by decide +kernel), List.mem_of_getElem? (i := 540) (by decide +kernel), List.mem_of_getElem? (i := 541) (by decide +kernel)⟩
theorem lw_p35 : lw_okq (⟨"HeightSheet$Change", "tell", "(IIIII)V"⟩, 5) := ⟨⟨by decide +kernel, by decide +kernel⟩, List.mem_of_getElem? (i := 124) (by decide +kernel), List.mem_of_getElem? (i := 548) (by decide +kernel), List.mem_of_getElem? (i := 549) (by decide +kernel)⟩
theorem lw_p36 : lw_okq (⟨"HeightSheet$Change", "isAllowed", "()Z"⟩, 5) := ⟨⟨by decide +kernel, by decide +kernel⟩, List.mem_of_getElem? (i := 124) (by decide +kernel), List.mem_of_getElem? (i := 552) (by decide +kernel), List.mem_of_getElem? (i := 553) (by decide +kernel)⟩
theorem lw_p37 : lw_okq (⟨"HeightSheet$Change", "operandsFit", "()Z"⟩, 5) := ⟨⟨by decide +kernel, by decide +kernel⟩, List.mem_of_getElem? (i := 124) (by decide +kernel), List.mem_of_getElem? (i := 557) (by decide +kernel), List.mem_of_getElem? (i := 558) (by decide +kernel)⟩
theorem lw_p38 : lw_okq (⟨"HeightSheet", "remember", "()V"⟩, 15) := ⟨⟨by decide +kernel, by decide +kernel⟩, List.mem_of_getElem? (i := 19) (by decide +kernel), List.mem_of_getElem? (i := 563) (by decide +kernel), List.mem_of_getElem? (i := 564) (by decide +kernel)⟩
theorem lw_p39 : lw_okq (⟨"HeightSheet$Change", "tellAsIn", "(LHeightSheet$Formulas;I)V"⟩, 5) := ⟨⟨by decide +kernel, by decide +kernel⟩, List.mem_of_getElem? (i := 124) (by decide +kernel), List.mem_of_getElem? (i := 567) (by decide +kernel), List.mem_of_getElem? (i := 568) (by decide +kernel)⟩
theorem lw_p40 : lw_okq (⟨"HeightSheet$History", "push", "(LHeightSheet$Change;)V"⟩, 2) := ⟨⟨by decide +kernel, by decide +kernel⟩, List.mem_of_getElem? (i := 157) (by decide +kernel), List.mem_of_getElem? (i := 573) (by decide +kernel), List.mem_of_getElem? (i := 574) (by decide +kernel)⟩
theorem lw_p41 : lw_okq (⟨"HeightSheet", "make", "()I"⟩, 15) := ⟨⟨by decide +kernel, by decide +kernel⟩, List.mem_of_getElem? (i := 19) (by decide +kernel), List.mem_of_getElem? (i := 578) (by decide +kernel), List.mem_of_getElem? (i := 579) (by decide +kernel)⟩
theorem lw_p42 : lw_okq (⟨"HeightSheet$Formulas", "take", "(LHeightSheet$Change;)V"⟩, 1) := ⟨⟨by decide +kernel, by decide +kernel⟩, List.mem_of_getElem? (i := 63) (by decide +kernel), List.mem_of_getElem? (i := 582) (by decide +kernel), List.mem_of_getElem? (i := 583) (by decide +kernel)⟩
theorem lw_p43 : lw_okq (⟨"HeightSheet$Reckoning", "movedTo", "(LHeightSheet$Reckoning;)I"⟩, 7) := ⟨⟨by decide +kernel, by decide +kernel⟩, List.mem_of_getElem? (i := 89) (by decide +kernel), List.mem_of_getElem? (i := 589) (by decide +kernel), List.mem_of_getElem? (i := 590) (by decide +kernel)⟩
theorem lw_p44 : lw_okq (⟨"HeightSheet$History", "popInto", "(LHeightSheet$Change;)V"⟩, 2) := ⟨⟨by decide +kernel, by decide +kernel⟩, List.mem_of_getElem? (i := 157) (by decide +kernel), List.mem_of_getElem? (i := 605) (by decide +kernel), List.mem_of_getElem? (i := 606) (by decide +kernel)⟩
theorem lw_p45 : lw_okq (⟨"HeightSheet", "askByDraws", "(III)V"⟩, 15) := ⟨⟨by decide +kernel, by decide +kernel⟩, List.mem_of_getElem? (i := 19) (by decide +kernel), List.mem_of_getElem? (i := 621) (by decide +kernel), List.mem_of_getElem? (i := 622) (by decide +kernel)⟩
theorem lw_p46 : lw_okq (⟨"HeightSheet$Row", "renew", "(II)V"⟩, 3) := ⟨⟨by decide +kernel, by decide +kernel⟩, List.mem_of_getElem? (i := 173) (by decide +kernel), List.mem_of_getElem? (i := 640) (by decide +kernel), List.mem_of_getElem? (i := 641) (by decide +kernel)⟩
theorem lw_p47 : lw_okq (⟨"HeightSheet$Row", "faultAt", "(II)I"⟩, 3) := ⟨⟨by decide +kernel, by decide +kernel⟩, List.mem_of_getElem? (i := 173) (by decide +kernel), List.mem_of_getElem? (i := 649) (by decide +kernel), List.mem_of_getElem? (i := 650) (by decide +kernel)⟩
def lw_privs_3 : List (MethodName × Nat) := [(⟨"HeightSheet$Reckoning", "hangingOn", "(I)I"⟩, 7), (⟨"HeightSheet$Reckoning", "nthByHeight", "(I)I"⟩, 7), (⟨"HeightSheet$Reckoning", "nthOfCircle", "(II)I"⟩, 7), (⟨"HeightSheet$Change", "tell", "(IIIII)V"⟩, 5), (⟨"HeightSheet$Change", "isAllowed", "()Z"⟩, 5), (⟨"HeightSheet$Change", "operandsFit", "()Z"⟩, 5), (⟨"HeightSheet", "remember", "()V"⟩, 15), (⟨"HeightSheet$Change", "tellAsIn", "(LHeightSheet$Formulas;I)V"⟩, 5), (⟨"HeightSheet$History", "push", "(LHeightSheet$Change;)V"⟩, 2), (⟨"HeightSheet", "make", "()I"⟩, 15), (⟨"HeightSheet$Formulas", "take", "(LHeightSheet$Change;)V"⟩, 1), (⟨"HeightSheet$Reckoning", "movedTo", "(LHeightSheet$Reckoning;)I"⟩, 7), (⟨"HeightSheet$History", "popInto", "(LHeightSheet$Change;)V"⟩, 2), (⟨"HeightSheet", "askByDraws", "(III)V"⟩, 15), (⟨"HeightSheet$Row", "renew", "(II)V"⟩, 3), (⟨"HeightSheet$Row", "faultAt", "(II)I"⟩, 3)]
theorem lw_r3 : ∀ q ∈ lw_privs_3, lw_okq q := List.forall_mem_cons.mpr ⟨lw_p32, List.forall_mem_cons.mpr ⟨lw_p33, List.forall_mem_cons.mpr ⟨lw_p34, List.forall_mem_cons.mpr ⟨lw_p35, List.forall_mem_cons.mpr ⟨lw_p36, List.forall_mem_cons.mpr ⟨lw_p37, List.forall_mem_cons.mpr ⟨lw_p38, List.forall_mem_cons.mpr ⟨lw_p39, List.forall_mem_cons.mpr ⟨lw_p40, List.forall_mem_cons.mpr ⟨lw_p41, List.forall_mem_cons.mpr ⟨lw_p42, List.forall_mem_cons.mpr ⟨lw_p43, List.forall_mem_cons.mpr ⟨lw_p44, List.forall_mem_cons.mpr ⟨lw_p45, List.forall_mem_cons.mpr ⟨lw_p46, List.forall_mem_cons.mpr ⟨lw_p47, fun _ h => absurd h List.not_mem_nil⟩⟩⟩⟩⟩⟩⟩⟩⟩⟩⟩⟩⟩⟩⟩⟩
theorem lw_p48 : lw_okq (⟨"HeightSheet$Row", "isNothing", "()Z"⟩, 3) := ⟨⟨by decide +kernel, by decide +kernel⟩, List.mem_of_getElem? (i := 173) (by decide +kernel), List.mem_of_getElem? (i := 653) (by decide +kernel), List.mem_of_getElem? (i := 654) (by decide +kernel)⟩
theorem lw_p49 : lw_okq (⟨"HeightSheet$Row", "set", "(II)V"⟩, 3) := ⟨⟨by decide +kernel, by decide +kernel⟩, List.mem_of_getElem? (i := 173) (by decide +kernel), List.mem_of_getElem? (i := 657) (by decide +kernel), List.mem_of_getElem? (i := 658) (by decide +kernel)⟩
theorem lw_p50 : lw_okq (⟨"HeightSheet$Row", "faultOfChange", "(II)I"⟩, 3) := ⟨⟨by decide +kernel, by decide +kernel⟩, List.mem_of_getElem? (i := 173) (by decide +kernel), List.mem_of_getElem? (i := 665) (by decide +kernel), List.mem_of_getElem? (i := 666) (by decide +kernel)⟩
theorem lw_p51 : lw_okq (⟨"HeightSheet$Row", "askFrom", "(ILHeightSheet$Change;)V"⟩, 3) := ⟨⟨by decide +kernel, by decide +kernel⟩, List.mem_of_getElem? (i := 173) (by decide +kernel), List.mem_of_getElem? (i := 670) (by decide +kernel), List.mem_of_getElem? (i := 671) (by decide +kernel)⟩
theorem lw_p52 : lw_okq (⟨"HeightSheet", "countImages", "()I"⟩, 15) := ⟨⟨by decide +kernel, by decide +kernel⟩, List.mem_of_getElem? (i := 19) (by decide +kernel), List.mem_of_getElem? (i := 683) (by decide +kernel), List.mem_of_getElem? (i := 684) (by decide +kernel)⟩
theorem lw_p53 : lw_okq (⟨"HeightSheet$Formulas", "countSpans", "()I"⟩, 1) := ⟨⟨by decide +kernel, by decide +kernel⟩, List.mem_of_getElem? (i := 63) (by decide +kernel), List.mem_of_getElem? (i := 688) (by decide +kernel), List.mem_of_getElem? (i := 689) (by decide +kernel)⟩
theorem lw_p54 : lw_okq (⟨"HeightSheet$Reckoning", "sumOfValues", "()I"⟩, 7) := ⟨⟨by decide +kernel, by decide +kernel⟩, List.mem_of_getElem? (i := 89) (by decide +kernel), List.mem_of_getElem? (i := 693) (by decide +kernel), List.mem_of_getElem? (i := 694) (by decide +kernel)⟩
theorem lw_p55 : lw_okq (⟨"HeightSheetModel", "readsOn", "()V"⟩, 35) := ⟨⟨by decide +kernel, by decide +kernel⟩, List.mem_of_getElem? (i := 697) (by decide +kernel), List.mem_of_getElem? (i := 825) (by decide +kernel), List.mem_of_getElem? (i := 826) (by decide +kernel)⟩
theorem lw_p56 : lw_okq (⟨"HeightSheetModel", "byteAt", "(I)I"⟩, 35) := ⟨⟨by decide +kernel, by decide +kernel⟩, List.mem_of_getElem? (i := 697) (by decide +kernel), List.mem_of_getElem? (i := 829) (by decide +kernel), List.mem_of_getElem? (i := 830) (by decide +kernel)⟩
theorem lw_p57 : lw_okq (⟨"HeightSheetModel", "fails", "(I)V"⟩, 35) := ⟨⟨by decide +kernel, by decide +kernel⟩, List.mem_of_getElem? (i := 697) (by decide +kernel), List.mem_of_getElem? (i := 837) (by decide +kernel), List.mem_of_getElem? (i := 838) (by decide +kernel)⟩
theorem lw_p58 : lw_okq (⟨"HeightSheetModel", "readLine", "()V"⟩, 35) := ⟨⟨by decide +kernel, by decide +kernel⟩, List.mem_of_getElem? (i := 697) (by decide +kernel), List.mem_of_getElem? (i := 841) (by decide +kernel), List.mem_of_getElem? (i := 842) (by decide +kernel)⟩
theorem lw_p59 : lw_okq (⟨"HeightSheetModel", "kindHere", "()I"⟩, 35) := ⟨⟨by decide +kernel, by decide +kernel⟩, List.mem_of_getElem? (i := 697) (by decide +kernel), List.mem_of_getElem? (i := 845) (by decide +kernel), List.mem_of_getElem? (i := 846) (by decide +kernel)⟩
theorem lw_p60 : lw_okq (⟨"HeightSheetModel", "numberRead", "(II)I"⟩, 35) := ⟨⟨by decide +kernel, by decide +kernel⟩, List.mem_of_getElem? (i := 697) (by decide +kernel), List.mem_of_getElem? (i := 849) (by decide +kernel), List.mem_of_getElem? (i := 850) (by decide +kernel)⟩
theorem lw_p61 : lw_okq (⟨"HeightSheetModel", "copies", "(II)V"⟩, 35) := ⟨⟨by decide +kernel, by decide +kernel⟩, List.mem_of_getElem? (i := 697) (by decide +kernel), List.mem_of_getElem? (i := 856) (by decide +kernel), List.mem_of_getElem? (i := 857) (by decide +kernel)⟩
theorem lw_p62 : lw_okq (⟨"HeightSheetModel", "settles", "()V"⟩, 35) := ⟨⟨by decide +kernel, by decide +kernel⟩, List.mem_of_getElem? (i := 697) (by decide +kernel), List.mem_of_getElem? (i := 860) (by decide +kernel), List.mem_of_getElem? (i := 861) (by decide +kernel)⟩
theorem lw_p63 : lw_okq (⟨"HeightSheetModel", "isEvaluated", "(I)Z"⟩, 35) := ⟨⟨by decide +kernel, by decide +kernel⟩, List.mem_of_getElem? (i := 697) (by decide +kernel), List.mem_of_getElem? (i := 864) (by decide +kernel), List.mem_of_getElem? (i := 865) (by decide +kernel)⟩
def lw_privs_4 : List (MethodName × Nat) := [(⟨"HeightSheet$Row", "isNothing", "()Z"⟩, 3), (⟨"HeightSheet$Row", "set", "(II)V"⟩, 3), (⟨"HeightSheet$Row", "faultOfChange", "(II)I"⟩, 3), (⟨"HeightSheet$Row", "askFrom", "(ILHeightSheet$Change;)V"⟩, 3), (⟨"HeightSheet", "countImages", "()I"⟩, 15), (⟨"HeightSheet$Formulas", "countSpans", "()I"⟩, 1), (⟨"HeightSheet$Reckoning", "sumOfValues", "()I"⟩, 7), (⟨"HeightSheetModel", "readsOn", "()V"⟩, 35), (⟨"HeightSheetModel", "byteAt", "(I)I"⟩, 35), (⟨"HeightSheetModel", "fails", "(I)V"⟩, 35), (⟨"HeightSheetModel", "readLine", "()V"⟩, 35), (⟨"HeightSheetModel", "kindHere", "()I"⟩, 35), (⟨"HeightSheetModel", "numberRead", "(II)I"⟩, 35), (⟨"HeightSheetModel", "copies", "(II)V"⟩, 35), (⟨"HeightSheetModel", "settles", "()V"⟩, 35), (⟨"HeightSheetModel", "isEvaluated", "(I)Z"⟩, 35)]
theorem lw_r4 : ∀ q ∈ lw_privs_4, lw_okq q := List.forall_mem_cons.mpr ⟨lw_p48, List.forall_mem_cons.mpr ⟨lw_p49, List.forall_mem_cons.mpr ⟨lw_p50, List.forall_mem_cons.mpr ⟨lw_p51, List.forall_mem_cons.mpr ⟨lw_p52, List.forall_mem_cons.mpr ⟨lw_p53, List.forall_mem_cons.mpr ⟨lw_p54, List.forall_mem_cons.mpr ⟨lw_p55, List.forall_mem_cons.mpr ⟨lw_p56, List.forall_mem_cons.mpr ⟨lw_p57, List.forall_mem_cons.mpr ⟨lw_p58, List.forall_mem_cons.mpr ⟨lw_p59, List.forall_mem_cons.mpr ⟨lw_p60, List.forall_mem_cons.mpr ⟨lw_p61, List.forall_mem_cons.mpr ⟨lw_p62, List.forall_mem_cons.mpr ⟨lw_p63, fun _ h => absurd h List.not_mem_nil⟩⟩⟩⟩⟩⟩⟩⟩⟩⟩⟩⟩⟩⟩⟩⟩
theorem lw_p64 : lw_okq (⟨"HeightSheetModel", "valueIfTold", "(I)I"⟩, 35) := ⟨⟨by decide +kernel, by decide +kernel⟩, List.mem_of_getElem? (i := 697) (by decide +kernel), List.mem_of_getElem? (i := 868) (by decide +kernel), List.mem_of_getElem? (i := 869) (by decide +kernel)⟩
theorem lw_p65 : lw_okq (⟨"HeightSheetModel", "isReadBy", "(II)Z"⟩, 35) := ⟨⟨by decide +kernel, by decide +kernel⟩, List.mem_of_getElem? (i := 697) (by decide +kernel), List.mem_of_getElem? (i := 872) (by decide +kernel), List.mem_of_getElem? (i := 873) (by decide +kernel)⟩
theorem lw_p66 : lw_okq (⟨"HeightSheetModel", "spanned", "(I)I"⟩, 35) := ⟨⟨by decide +kernel, by decide +kernel⟩, List.mem_of_getElem? (i := 697) (by decide +kernel), List.mem_of_getElem? (i := 879) (by decide +kernel), List.mem_of_getElem? (i := 880) (by decide +kernel)⟩
theorem lw_p67 : lw_okq (⟨"HeightSheetModel", "paired", "(I)I"⟩, 35) := ⟨⟨by decide +kernel, by decide +kernel⟩, List.mem_of_getElem? (i := 697) (by decide +kernel), List.mem_of_getElem? (i := 883) (by decide +kernel), List.mem_of_getElem? (i := 884) (by decide +kernel)⟩
theorem lw_p68 : lw_okq (⟨"HeightSheetModel", "heightOf", "(I)V"⟩, 35) := ⟨⟨by decide +kernel, by decide +kernel⟩, List.mem_of_getElem? (i := 697) (by decide +kernel), List.mem_of_getElem? (i := 887) (by decide +kernel), List.mem_of_getElem? (i := 888) (by decide +kernel)⟩
theorem lw_p69 : lw_okq (⟨"HeightSheetModel", "starts", "()V"⟩, 35) := ⟨⟨by decide +kernel, by decide +kernel⟩, List.mem_of_getElem? (i := 697) (by decide +kernel), List.mem_of_getElem? (i := 899) (by decide +kernel), List.mem_of_getElem? (i := 900) (by decide +kernel)⟩
theorem lw_p70 : lw_okq (⟨"HeightSheetModel", "ruled", "(II)I"⟩, 35) := ⟨⟨by decide +kernel, by decide +kernel⟩, List.mem_of_getElem? (i := 697) (by decide +kernel), List.mem_of_getElem? (i := 903) (by decide +kernel), List.mem_of_getElem? (i := 904) (by decide +kernel)⟩
theorem lw_p71 : lw_okq (⟨"HeightSheetModel", "circleOf", "(I)I"⟩, 35) := ⟨⟨by decide +kernel, by decide +kernel⟩, List.mem_of_getElem? (i := 697) (by decide +kernel), List.mem_of_getElem? (i := 907) (by decide +kernel), List.mem_of_getElem? (i := 908) (by decide +kernel)⟩
theorem lw_p72 : lw_okq (⟨"HeightSheetModel", "isFirst", "(I)Z"⟩, 35) := ⟨⟨by decide +kernel, by decide +kernel⟩, List.mem_of_getElem? (i := 697) (by decide +kernel), List.mem_of_getElem? (i := 911) (by decide +kernel), List.mem_of_getElem? (i := 912) (by decide +kernel)⟩
theorem lw_p73 : lw_okq (⟨"HeightSheetModel", "formulas", "()I"⟩, 35) := ⟨⟨by decide +kernel, by decide +kernel⟩, List.mem_of_getElem? (i := 697) (by decide +kernel), List.mem_of_getElem? (i := 915) (by decide +kernel), List.mem_of_getElem? (i := 916) (by decide +kernel)⟩
theorem lw_p74 : lw_okq (⟨"HeightSheetModel", "readersOf", "(I)I"⟩, 35) := ⟨⟨by decide +kernel, by decide +kernel⟩, List.mem_of_getElem? (i := 697) (by decide +kernel), List.mem_of_getElem? (i := 928) (by decide +kernel), List.mem_of_getElem? (i := 929) (by decide +kernel)⟩
theorem lw_p75 : lw_okq (⟨"HeightSheetModel", "isReading", "(II)Z"⟩, 35) := ⟨⟨by decide +kernel, by decide +kernel⟩, List.mem_of_getElem? (i := 697) (by decide +kernel), List.mem_of_getElem? (i := 932) (by decide +kernel), List.mem_of_getElem? (i := 933) (by decide +kernel)⟩
theorem lw_p76 : lw_okq (⟨"HeightSheetModel", "needsOf", "(I)I"⟩, 35) := ⟨⟨by decide +kernel, by decide +kernel⟩, List.mem_of_getElem? (i := 697) (by decide +kernel), List.mem_of_getElem? (i := 952) (by decide +kernel), List.mem_of_getElem? (i := 953) (by decide +kernel)⟩
theorem lw_p77 : lw_okq (⟨"HeightSheetModel", "bitsRead", "(I)I"⟩, 35) := ⟨⟨by decide +kernel, by decide +kernel⟩, List.mem_of_getElem? (i := 697) (by decide +kernel), List.mem_of_getElem? (i := 956) (by decide +kernel), List.mem_of_getElem? (i := 957) (by decide +kernel)⟩
theorem lw_p78 : lw_okq (⟨"HeightSheetModel", "putsFormula", "(IIIII)I"⟩, 35) := ⟨⟨by decide +kernel, by decide +kernel⟩, List.mem_of_getElem? (i := 697) (by decide +kernel), List.mem_of_getElem? (i := 972) (by decide +kernel), List.mem_of_getElem? (i := 973) (by decide +kernel)⟩
theorem lw_p79 : lw_okq (⟨"HeightSheetModel", "formulaIs", "(IIII)V"⟩, 35) := ⟨⟨by decide +kernel, by decide +kernel⟩, List.mem_of_getElem? (i := 697) (by decide +kernel), List.mem_of_getElem? (i := 981) (by decide +kernel), List.mem_of_getElem? (i := 982) (by decide +kernel)⟩
def lw_privs_5 : List (MethodName × Nat) := [(⟨"HeightSheetModel", "valueIfTold", "(I)I"⟩, 35), (⟨"HeightSheetModel", "isReadBy", "(II)Z"⟩, 35), (⟨"HeightSheetModel", "spanned", "(I)I"⟩, 35), (⟨"HeightSheetModel", "paired", "(I)I"⟩, 35), (⟨"HeightSheetModel", "heightOf", "(I)V"⟩, 35), (⟨"HeightSheetModel", "starts", "()V"⟩, 35), (⟨"HeightSheetModel", "ruled", "(II)I"⟩, 35), (⟨"HeightSheetModel", "circleOf", "(I)I"⟩, 35), (⟨"HeightSheetModel", "isFirst", "(I)Z"⟩, 35), (⟨"HeightSheetModel", "formulas", "()I"⟩, 35), (⟨"HeightSheetModel", "readersOf", "(I)I"⟩, 35), (⟨"HeightSheetModel", "isReading", "(II)Z"⟩, 35), (⟨"HeightSheetModel", "needsOf", "(I)I"⟩, 35), (⟨"HeightSheetModel", "bitsRead", "(I)I"⟩, 35), (⟨"HeightSheetModel", "putsFormula", "(IIIII)I"⟩, 35), (⟨"HeightSheetModel", "formulaIs", "(IIII)V"⟩, 35)]
theorem lw_r5 : ∀ q ∈ lw_privs_5, lw_okq q := List.forall_mem_cons.mpr ⟨lw_p64, List.forall_mem_cons.mpr ⟨lw_p65, List.forall_mem_cons.mpr ⟨lw_p66, List.forall_mem_cons.mpr ⟨lw_p67, List.forall_mem_cons.mpr ⟨lw_p68, List.forall_mem_cons.mpr ⟨lw_p69, List.forall_mem_cons.mpr ⟨lw_p70, List.forall_mem_cons.mpr ⟨lw_p71, List.forall_mem_cons.mpr ⟨lw_p72, List.forall_mem_cons.mpr ⟨lw_p73, List.forall_mem_cons.mpr ⟨lw_p74, List.forall_mem_cons.mpr ⟨lw_p75, List.forall_mem_cons.mpr ⟨lw_p76, List.forall_mem_cons.mpr ⟨lw_p77, List.forall_mem_cons.mpr ⟨lw_p78, List.forall_mem_cons.mpr ⟨lw_p79, fun _ h => absurd h List.not_mem_nil⟩⟩⟩⟩⟩⟩⟩⟩⟩⟩⟩⟩⟩⟩⟩⟩
theorem lw_p80 : lw_okq (⟨"HeightSheetModel", "puts", "(I)I"⟩, 35) := ⟨⟨by decide +kernel, by decide +kernel⟩, List.mem_of_getElem? (i := 697) (by decide +kernel), List.mem_of_getElem? (i := 985) (by decide +kernel), List.mem_of_getElem? (i := 986) (by decide +kernel)⟩
theorem lw_p81 : lw_okq (⟨"HeightSheetModel", "changes", "(I)V"⟩, 35) := ⟨⟨by decide +kernel, by decide +kernel⟩, List.mem_of_getElem? (i := 697) (by decide +kernel), List.mem_of_getElem? (i := 989) (by decide +kernel), List.mem_of_getElem? (i := 990) (by decide +kernel)⟩
theorem lw_p82 : lw_okq (⟨"HeightSheetModel", "setsAside", "()V"⟩, 35) := ⟨⟨by decide +kernel, by decide +kernel⟩, List.mem_of_getElem? (i := 697) (by decide +kernel), List.mem_of_getElem? (i := 1039) (by decide +kernel), List.mem_of_getElem? (i := 1040) (by decide +kernel)⟩
theorem lw_p83 : lw_okq (⟨"HeightSheetModel", "getsAside", "()V"⟩, 35) := ⟨⟨by decide +kernel, by decide +kernel⟩, List.mem_of_getElem? (i := 697) (by decide +kernel), List.mem_of_getElem? (i := 1043) (by decide +kernel), List.mem_of_getElem? (i := 1044) (by decide +kernel)⟩
def lw_privs_6 : List (MethodName × Nat) := [(⟨"HeightSheetModel", "puts", "(I)I"⟩, 35), (⟨"HeightSheetModel", "changes", "(I)V"⟩, 35), (⟨"HeightSheetModel", "setsAside", "()V"⟩, 35), (⟨"HeightSheetModel", "getsAside", "()V"⟩, 35)]
theorem lw_r6 : ∀ q ∈ lw_privs_6, lw_okq q := List.forall_mem_cons.mpr ⟨lw_p80, List.forall_mem_cons.mpr ⟨lw_p81, List.forall_mem_cons.mpr ⟨lw_p82, List.forall_mem_cons.mpr ⟨lw_p83, fun _ h => absurd h List.not_mem_nil⟩⟩⟩⟩
def lw_privs : List (MethodName × Nat) := lw_privs_1 ++ (lw_privs_2 ++ (lw_privs_3 ++ (lw_privs_4 ++ (lw_privs_5 ++ (lw_privs_6)))))
def lw_tbl : List Cond := k2_sels lw_privs ++ tables_1
theorem lw_privs_ok : ∀ q ∈ lw_privs, lw_okq q := by
  show ∀ q ∈ lw_privs_1 ++ (lw_privs_2 ++ (lw_privs_3 ++ (lw_privs_4 ++ (lw_privs_5 ++ (lw_privs_6))))), lw_okq q
  exact List.forall_mem_append.mpr ⟨lw_r1, List.forall_mem_append.mpr ⟨lw_r2, List.forall_mem_append.mpr ⟨lw_r3, List.forall_mem_append.mpr ⟨lw_r4, List.forall_mem_append.mpr ⟨lw_r5, lw_r6⟩⟩⟩⟩⟩
/-! ===== BEGIN words of one list among another's, by their places ===== -/
theorem goodIn_r {big : List Cond} (ws : List Cond) (ps : List Nat) (hp : ws = ps.filterMap (fun i => big[i]?)) (h : ws.all goodWord = true) : GoodIn big ws := by
  intro w hw
  have h1 := List.all_eq_true.mp h w hw
  rw [hp] at hw
  obtain ⟨i, -, hi⟩ := List.mem_filterMap.mp hw
  have hm : w ∈ big := by first | exact List.mem_of_getElem? hi | exact List.getElem?_mem hi
  exact ⟨hm, good_of_word h1⟩
theorem goodIn_app {big a b : List Cond} (ha : GoodIn big a) (hb : GoodIn big b) : GoodIn big (a ++ b) := fun w h => (List.mem_append.mp h).elim (ha w) (hb w)
theorem goodIn_ca {big a b : List Cond} {c : Cond} (ha : GoodIn big (c :: a)) (hb : GoodIn big b) : GoodIn big (c :: (a ++ b)) := fun w h => (List.mem_cons.mp h).elim (fun e => ha w (List.mem_cons.mpr (Or.inl e))) (fun h => (List.mem_append.mp h).elim (fun h => ha w (List.mem_cons.mpr (Or.inr h))) (hb w))
theorem goodIn_sub {big ws : List Cond} (hm : ∀ w ∈ ws, w ∈ big) (h : ws.all goodWord = true) : GoodIn big ws := fun w hw => ⟨hm w hw, good_of_word (List.all_eq_true.mp h w hw)⟩
/-! ===== END ===== -/

/-! ===== BEGIN printed: names, fields, word lists, decode rows ===== -/
def RX0 : String := "HeightSheet$Change"
def TX0 : u_T := fun k => match k with
  | 0 => ("HeightSheet$Change", "cell", "I", false)
  | 1 => ("HeightSheet$Change", "kind", "I", false)
  | 2 => ("HeightSheet$Change", "p", "I", false)
  | 3 => ("HeightSheet$Change", "q", "I", false)
  | _ => ("HeightSheet$Change", "\x72", "I", false)
def tyX0 : Nat → FieldType := fun k => match k with
  | 0 => .int
  | 1 => .int
  | 2 => .int
  | 3 => .int
  | _ => .int
abbrev wsX00 : List Cond := u_ws RX0 TX0 5
theorem nmX0 : ∀ a, a < 5 → ∀ b, b < 5 → a ≠ b → (TX0 a).2.1 ≠ (TX0 b).2.1 := by decide +kernel
theorem tyX0_ok : ∀ k, k < 5 → parseFieldDescriptor (TX0 k).2.2.1 = some (tyX0 k) := by decide +kernel
abbrev cX0_init : ByteArray := prog_2_method_1_code
def yX0_init : MethodName := ⟨RX0, "<init>", "()V"⟩
abbrev cX0_tell : ByteArray := prog_2_method_2_code
def yX0_tell : MethodName := ⟨RX0, "tell", "(IIIII)V"⟩
abbrev cX0_tellAsIn : ByteArray := prog_2_method_3_code
def yX0_tellAsIn : MethodName := ⟨RX0, "tellAsIn", "(LHeightSheet$Formulas;I)V"⟩
abbrev cX0_isAllowed : ByteArray := prog_2_method_4_code
def yX0_isAllowed : MethodName := ⟨RX0, "isAllowed", "()Z"⟩
abbrev cX0_operandsFit : ByteArray := prog_2_method_5_code
def yX0_operandsFit : MethodName := ⟨RX0, "operandsFit", "()Z"⟩
def RX1 : String := "HeightSheet$Formulas"
def TX1 : u_T := fun k => match k with
  | _ => ("HeightSheet$Formulas", "parts", "[I", true)
def tyX1 : Nat → FieldType := fun k => match k with
  | _ => .array .int
abbrev wsX10 : List Cond := u_ws RX1 TX1 1
theorem nmX1 : ∀ a, a < 1 → ∀ b, b < 1 → a ≠ b → (TX1 a).2.1 ≠ (TX1 b).2.1 := by decide +kernel
theorem tyX1_ok : ∀ k, k < 1 → parseFieldDescriptor (TX1 k).2.2.1 = some (tyX1 k) := by decide +kernel
abbrev cX1_init : ByteArray := prog_3_method_1_code
def yX1_init : MethodName := ⟨RX1, "<init>", "()V"⟩
abbrev cX1_part : ByteArray := prog_3_method_2_code
def yX1_part : MethodName := ⟨RX1, "part", "(II)I"⟩
abbrev cX1_clear : ByteArray := prog_3_method_3_code
def yX1_clear : MethodName := ⟨RX1, "clear", "()V"⟩
abbrev cX1_become : ByteArray := prog_3_method_4_code
def yX1_become : MethodName := ⟨RX1, "become", "(LHeightSheet$Formulas;)V"⟩
abbrev cX1_begin : ByteArray := prog_3_method_5_code
def yX1_begin : MethodName := ⟨RX1, "begin", "(II)V"⟩
abbrev cX1_setOperand : ByteArray := prog_3_method_6_code
def yX1_setOperand : MethodName := ⟨RX1, "setOperand", "(III)V"⟩
abbrev cX1_take : ByteArray := prog_3_method_7_code
def yX1_take : MethodName := ⟨RX1, "take", "(LHeightSheet$Change;)V"⟩
abbrev cX1_countTold : ByteArray := prog_3_method_8_code
def yX1_countTold : MethodName := ⟨RX1, "countTold", "()I"⟩
abbrev cX1_countSpans : ByteArray := prog_3_method_9_code
def yX1_countSpans : MethodName := ⟨RX1, "countSpans", "()I"⟩
def RX2 : String := "HeightSheet$History"
def TX2 : u_T := fun k => match k with
  | 0 => ("HeightSheet$History", "entries", "[I", true)
  | _ => ("HeightSheet$History", "size", "I", false)
def tyX2 : Nat → FieldType := fun k => match k with
  | 0 => .array .int
  | _ => .int
abbrev wsX20 : List Cond := u_ws RX2 TX2 2
theorem nmX2 : ∀ a, a < 2 → ∀ b, b < 2 → a ≠ b → (TX2 a).2.1 ≠ (TX2 b).2.1 := by decide +kernel
theorem tyX2_ok : ∀ k, k < 2 → parseFieldDescriptor (TX2 k).2.2.1 = some (tyX2 k) := by decide +kernel
abbrev cX2_init : ByteArray := prog_4_method_1_code
def yX2_init : MethodName := ⟨RX2, "<init>", "()V"⟩
abbrev cX2_clear : ByteArray := prog_4_method_2_code
def yX2_clear : MethodName := ⟨RX2, "clear", "()V"⟩
abbrev cX2_push : ByteArray := prog_4_method_3_code
def yX2_push : MethodName := ⟨RX2, "push", "(LHeightSheet$Change;)V"⟩
abbrev cX2_popInto : ByteArray := prog_4_method_4_code
def yX2_popInto : MethodName := ⟨RX2, "popInto", "(LHeightSheet$Change;)V"⟩
def RX3 : String := "HeightSheet$Reckoning"
def TX3 : u_T := fun k => match k with
  | 0 => ("HeightSheet$Reckoning", "values", "[I", true)
  | 1 => ("HeightSheet$Reckoning", "heights", "[I", true)
  | 2 => ("HeightSheet$Reckoning", "readBits", "[I", true)
  | 3 => ("HeightSheet$Reckoning", "waitsFor", "[I", true)
  | 4 => ("HeightSheet$Reckoning", "known", "I", false)
  | 5 => ("HeightSheet$Reckoning", "circular", "I", false)
  | _ => ("HeightSheet$Reckoning", "circles", "I", false)
def tyX3 : Nat → FieldType := fun k => match k with
  | 0 => .array .int
  | 1 => .array .int
  | 2 => .array .int
  | 3 => .array .int
  | 4 => .int
  | 5 => .int
  | _ => .int
abbrev wsX30 : List Cond := u_ws RX3 TX3 7
theorem nmX3 : ∀ a, a < 7 → ∀ b, b < 7 → a ≠ b → (TX3 a).2.1 ≠ (TX3 b).2.1 := by decide +kernel
theorem tyX3_ok : ∀ k, k < 7 → parseFieldDescriptor (TX3 k).2.2.1 = some (tyX3 k) := by decide +kernel
abbrev cX3_init : ByteArray := prog_5_method_1_code
def yX3_init : MethodName := ⟨RX3, "<init>", "()V"⟩
abbrev cX3_reckon : ByteArray := prog_5_method_2_code
def yX3_reckon : MethodName := ⟨RX3, "reckon", "(LHeightSheet$Formulas;)V"⟩
abbrev cX3_tryCell : ByteArray := prog_5_method_3_code
def yX3_tryCell : MethodName := ⟨RX3, "tryCell", "(LHeightSheet$Formulas;I)V"⟩
abbrev cX3_tryTwo : ByteArray := prog_5_method_4_code
def yX3_tryTwo : MethodName := ⟨RX3, "tryTwo", "(IIII)V"⟩
abbrev cX3_trySpan : ByteArray := prog_5_method_5_code
def yX3_trySpan : MethodName := ⟨RX3, "trySpan", "(IIII)V"⟩
abbrev cX3_takes : ByteArray := prog_5_method_6_code
def yX3_takes : MethodName := ⟨RX3, "takes", "(II)Z"⟩
abbrev cX3_settleAs : ByteArray := prog_5_method_7_code
def yX3_settleAs : MethodName := ⟨RX3, "settleAs", "(II)V"⟩
abbrev cX3_settle : ByteArray := prog_5_method_8_code
def yX3_settle : MethodName := ⟨RX3, "settle", "(II)V"⟩
abbrev cX3_findCircles : ByteArray := prog_5_method_9_code
def yX3_findCircles : MethodName := ⟨RX3, "findCircles", "()V"⟩
abbrev cX3_leastOfCircle : ByteArray := prog_5_method_10_code
def yX3_leastOfCircle : MethodName := ⟨RX3, "leastOfCircle", "(I)I"⟩
abbrev cX3_nthOfCircle : ByteArray := prog_5_method_11_code
def yX3_nthOfCircle : MethodName := ⟨RX3, "nthOfCircle", "(II)I"⟩
abbrev cX3_standing : ByteArray := prog_5_method_12_code
def yX3_standing : MethodName := ⟨RX3, "standing", "(I)I"⟩
abbrev cX3_greatestHeight : ByteArray := prog_5_method_13_code
def yX3_greatestHeight : MethodName := ⟨RX3, "greatestHeight", "()I"⟩
abbrev cX3_countReads : ByteArray := prog_5_method_14_code
def yX3_countReads : MethodName := ⟨RX3, "countReads", "()I"⟩
abbrev cX3_sumOfValues : ByteArray := prog_5_method_15_code
def yX3_sumOfValues : MethodName := ⟨RX3, "sumOfValues", "()I"⟩
abbrev cX3_nthByHeight : ByteArray := prog_5_method_16_code
def yX3_nthByHeight : MethodName := ⟨RX3, "nthByHeight", "(I)I"⟩
abbrev cX3_readersOf : ByteArray := prog_5_method_17_code
def yX3_readersOf : MethodName := ⟨RX3, "readersOf", "(I)I"⟩
abbrev cX3_neededBy : ByteArray := prog_5_method_18_code
def yX3_neededBy : MethodName := ⟨RX3, "neededBy", "(I)I"⟩
abbrev cX3_hangingOn : ByteArray := prog_5_method_19_code
def yX3_hangingOn : MethodName := ⟨RX3, "hangingOn", "(I)I"⟩
abbrev cX3_movedTo : ByteArray := prog_5_method_20_code
def yX3_movedTo : MethodName := ⟨RX3, "movedTo", "(LHeightSheet$Reckoning;)I"⟩
def RX4 : String := "HeightSheet$Row"
def TX4 : u_T := fun k => match k with
  | 0 => ("HeightSheet$Row", "items", "[I", true)
  | 1 => ("HeightSheet$Row", "lane", "I", false)
  | _ => ("HeightSheet$Row", "size", "I", false)
def tyX4 : Nat → FieldType := fun k => match k with
  | 0 => .array .int
  | 1 => .int
  | _ => .int
abbrev wsX40 : List Cond := u_ws RX4 TX4 3
theorem nmX4 : ∀ a, a < 3 → ∀ b, b < 3 → a ≠ b → (TX4 a).2.1 ≠ (TX4 b).2.1 := by decide +kernel
theorem tyX4_ok : ∀ k, k < 3 → parseFieldDescriptor (TX4 k).2.2.1 = some (tyX4 k) := by decide +kernel
abbrev cX4_init : ByteArray := prog_6_method_1_code
def yX4_init : MethodName := ⟨RX4, "<init>", "()V"⟩
abbrev cX4_isNothing : ByteArray := prog_6_method_2_code
def yX4_isNothing : MethodName := ⟨RX4, "isNothing", "()Z"⟩
abbrev cX4_renew : ByteArray := prog_6_method_3_code
def yX4_renew : MethodName := ⟨RX4, "renew", "(II)V"⟩
abbrev cX4_faultAt : ByteArray := prog_6_method_4_code
def yX4_faultAt : MethodName := ⟨RX4, "faultAt", "(II)I"⟩
abbrev cX4_faultOfChange : ByteArray := prog_6_method_5_code
def yX4_faultOfChange : MethodName := ⟨RX4, "faultOfChange", "(II)I"⟩
abbrev cX4_askFrom : ByteArray := prog_6_method_6_code
def yX4_askFrom : MethodName := ⟨RX4, "askFrom", "(ILHeightSheet$Change;)V"⟩
abbrev cX4_set : ByteArray := prog_6_method_7_code
def yX4_set : MethodName := ⟨RX4, "set", "(II)V"⟩
def RX5 : String := "HeightSheet$Tape"
def TX5 : u_T := fun k => match k with
  | 0 => ("HeightSheet$Tape", "bytes", "[B", true)
  | 1 => ("HeightSheet$Tape", "size", "I", false)
  | 2 => ("HeightSheet$Tape", "at", "I", false)
  | 3 => ("HeightSheet$Tape", "start", "I", false)
  | 4 => ("HeightSheet$Tape", "token", "I", false)
  | _ => ("HeightSheet$Tape", "number", "I", false)
def tyX5 : Nat → FieldType := fun k => match k with
  | 0 => .array .byte
  | 1 => .int
  | 2 => .int
  | 3 => .int
  | 4 => .int
  | _ => .int
abbrev wsX50 : List Cond := u_ws RX5 TX5 6
theorem nmX5 : ∀ a, a < 6 → ∀ b, b < 6 → a ≠ b → (TX5 a).2.1 ≠ (TX5 b).2.1 := by decide +kernel
theorem tyX5_ok : ∀ k, k < 6 → parseFieldDescriptor (TX5 k).2.2.1 = some (tyX5 k) := by decide +kernel
abbrev cX5_init : ByteArray := prog_7_method_1_code
def yX5_init : MethodName := ⟨RX5, "<init>", "()V"⟩
abbrev cX5_append : ByteArray := prog_7_method_2_code
def yX5_append : MethodName := ⟨RX5, "append", "(I)V"⟩
abbrev cX5_rewind : ByteArray := prog_7_method_3_code
def yX5_rewind : MethodName := ⟨RX5, "rewind", "()V"⟩
abbrev cX5_nextToken : ByteArray := prog_7_method_4_code
def yX5_nextToken : MethodName := ⟨RX5, "nextToken", "()V"⟩
abbrev cX5_takeName : ByteArray := prog_7_method_5_code
def yX5_takeName : MethodName := ⟨RX5, "takeName", "()V"⟩
abbrev cX5_takeNumber : ByteArray := prog_7_method_6_code
def yX5_takeNumber : MethodName := ⟨RX5, "takeNumber", "()V"⟩
abbrev cX5_isWord : ByteArray := prog_7_method_7_code
def yX5_isWord : MethodName := ⟨RX5, "isWord", "(Ljava/lang/String;)Z"⟩
abbrev cX5_isLetter : ByteArray := prog_7_method_8_code
def yX5_isLetter : MethodName := ⟨RX5, "isLetter", "(I)Z"⟩
abbrev cX5_isFigure : ByteArray := prog_7_method_9_code
def yX5_isFigure : MethodName := ⟨RX5, "isFigure", "(I)Z"⟩
def RX6 : String := "HeightSheet$TextReader"
def TX6 : u_T := fun k => match k with
  | 0 => ("HeightSheet$TextReader", "draft", "LHeightSheet$Formulas;", true)
  | 1 => ("HeightSheet$TextReader", "lines", "I", false)
  | _ => ("HeightSheet$TextReader", "fault", "I", false)
def tyX6 : Nat → FieldType := fun k => match k with
  | 0 => .object "HeightSheet$Formulas"
  | 1 => .int
  | _ => .int
abbrev wsX60 : List Cond := u_ws RX6 TX6 3
theorem nmX6 : ∀ a, a < 3 → ∀ b, b < 3 → a ≠ b → (TX6 a).2.1 ≠ (TX6 b).2.1 := by decide +kernel
theorem tyX6_ok : ∀ k, k < 3 → parseFieldDescriptor (TX6 k).2.2.1 = some (tyX6 k) := by decide +kernel
abbrev cX6_init : ByteArray := prog_8_method_1_code
def yX6_init : MethodName := ⟨RX6, "<init>", "()V"⟩
abbrev cX6_takesAll : ByteArray := prog_8_method_2_code
def yX6_takesAll : MethodName := ⟨RX6, "takesAll", "(LHeightSheet$Tape;)Z"⟩
abbrev cX6_takesLine : ByteArray := prog_8_method_3_code
def yX6_takesLine : MethodName := ⟨RX6, "takesLine", "(LHeightSheet$Tape;)Z"⟩
abbrev cX6_takesNumber : ByteArray := prog_8_method_4_code
def yX6_takesNumber : MethodName := ⟨RX6, "takesNumber", "(LHeightSheet$Tape;II)Z"⟩
abbrev cX6_fails : ByteArray := prog_8_method_5_code
def yX6_fails : MethodName := ⟨RX6, "fails", "(LHeightSheet$Tape;I)Z"⟩
abbrev cX6_kindTold : ByteArray := prog_8_method_6_code
def yX6_kindTold : MethodName := ⟨RX6, "kindTold", "(LHeightSheet$Tape;)I"⟩
abbrev cX6_wordOf : ByteArray := prog_8_method_7_code
def yX6_wordOf : MethodName := ⟨RX6, "wordOf", "(I)Ljava/lang/String;"⟩
def RX7 : String := "HeightSheet"
def TX7 : u_T := fun k => match k with
  | 0 => ("HeightSheet", "tape", "LHeightSheet$Tape;", true)
  | 1 => ("HeightSheet", "reading", "LHeightSheet$TextReader;", true)
  | 2 => ("HeightSheet", "formulas", "LHeightSheet$Formulas;", true)
  | 3 => ("HeightSheet", "now", "LHeightSheet$Reckoning;", false)
  | 4 => ("HeightSheet", "next", "LHeightSheet$Reckoning;", false)
  | 5 => ("HeightSheet", "asked", "LHeightSheet$Change;", true)
  | 6 => ("HeightSheet", "former", "LHeightSheet$Change;", true)
  | 7 => ("HeightSheet", "history", "LHeightSheet$History;", true)
  | 8 => ("HeightSheet", "images", "[LHeightSheet$Formulas;", true)
  | 9 => ("HeightSheet", "isKept", "[Z", true)
  | 10 => ("HeightSheet", "rows", "[LHeightSheet$Row;", true)
  | 11 => ("HeightSheet", "wasChanged", "Z", false)
  | 12 => ("HeightSheet", "evaluated", "I", false)
  | 13 => ("HeightSheet", "moved", "I", false)
  | _ => ("HeightSheet", "tornBy", "I", false)
def tyX7 : Nat → FieldType := fun k => match k with
  | 0 => .object "HeightSheet$Tape"
  | 1 => .object "HeightSheet$TextReader"
  | 2 => .object "HeightSheet$Formulas"
  | 3 => .object "HeightSheet$Reckoning"
  | 4 => .object "HeightSheet$Reckoning"
  | 5 => .object "HeightSheet$Change"
  | 6 => .object "HeightSheet$Change"
  | 7 => .object "HeightSheet$History"
  | 8 => .array (.object "HeightSheet$Formulas")
  | 9 => .array .boolean
  | 10 => .array (.object "HeightSheet$Row")
  | 11 => .boolean
  | 12 => .int
  | 13 => .int
  | _ => .int
abbrev wsX70 : List Cond := u_ws RX7 TX7 15
theorem nmX7 : ∀ a, a < 15 → ∀ b, b < 15 → a ≠ b → (TX7 a).2.1 ≠ (TX7 b).2.1 := by decide +kernel
theorem tyX7_ok : ∀ k, k < 15 → parseFieldDescriptor (TX7 k).2.2.1 = some (tyX7 k) := by decide +kernel
abbrev cX7_init : ByteArray := prog_1_method_1_code
def yX7_init : MethodName := ⟨RX7, "<init>", "()V"⟩
abbrev cX7_feed : ByteArray := prog_1_method_2_code
def yX7_feed : MethodName := ⟨RX7, "feed", "(I)I"⟩
abbrev cX7_end : ByteArray := prog_1_method_3_code
def yX7_end : MethodName := ⟨RX7, "end", "(I)I"⟩
abbrev cX7_text : ByteArray := prog_1_method_4_code
def yX7_text : MethodName := ⟨RX7, "text", "()I"⟩
abbrev cX7_fault : ByteArray := prog_1_method_5_code
def yX7_fault : MethodName := ⟨RX7, "fault", "()I"⟩
abbrev cX7_rule : ByteArray := prog_1_method_6_code
def yX7_rule : MethodName := ⟨RX7, "rule", "(I)I"⟩
abbrev cX7_cell : ByteArray := prog_1_method_7_code
def yX7_cell : MethodName := ⟨RX7, "cell", "(II)I"⟩
abbrev cX7_value : ByteArray := prog_1_method_8_code
def yX7_value : MethodName := ⟨RX7, "value", "(I)I"⟩
abbrev cX7_reads : ByteArray := prog_1_method_9_code
def yX7_reads : MethodName := ⟨RX7, "reads", "(II)I"⟩
abbrev cX7_reader : ByteArray := prog_1_method_10_code
def yX7_reader : MethodName := ⟨RX7, "reader", "(II)I"⟩
abbrev cX7_far : ByteArray := prog_1_method_11_code
def yX7_far : MethodName := ⟨RX7, "far", "(II)I"⟩
abbrev cX7_order : ByteArray := prog_1_method_12_code
def yX7_order : MethodName := ⟨RX7, "order", "(I)I"⟩
abbrev cX7_circle : ByteArray := prog_1_method_13_code
def yX7_circle : MethodName := ⟨RX7, "circle", "(II)I"⟩
abbrev cX7_put : ByteArray := prog_1_method_14_code
def yX7_put : MethodName := ⟨RX7, "put", "(IIIII)I"⟩
abbrev cX7_would : ByteArray := prog_1_method_15_code
def yX7_would : MethodName := ⟨RX7, "would", "(IIIIII)I"⟩
abbrev cX7_latest : ByteArray := prog_1_method_16_code
def yX7_latest : MethodName := ⟨RX7, "latest", "(I)I"⟩
abbrev cX7_undo : ByteArray := prog_1_method_17_code
def yX7_undo : MethodName := ⟨RX7, "undo", "()I"⟩
abbrev cX7_storm : ByteArray := prog_1_method_18_code
def yX7_storm : MethodName := ⟨RX7, "storm", "(II)I"⟩
abbrev cX7_keep : ByteArray := prog_1_method_19_code
def yX7_keep : MethodName := ⟨RX7, "keep", "(I)I"⟩
abbrev cX7_back : ByteArray := prog_1_method_20_code
def yX7_back : MethodName := ⟨RX7, "back", "(I)I"⟩
abbrev cX7_sheet : ByteArray := prog_1_method_21_code
def yX7_sheet : MethodName := ⟨RX7, "sheet", "(III)I"⟩
abbrev cX7_lay : ByteArray := prog_1_method_22_code
def yX7_lay : MethodName := ⟨RX7, "lay", "(III)I"⟩
abbrev cX7_read : ByteArray := prog_1_method_23_code
def yX7_read : MethodName := ⟨RX7, "read", "(IIII)I"⟩
abbrev cX7_torn : ByteArray := prog_1_method_24_code
def yX7_torn : MethodName := ⟨RX7, "torn", "()I"⟩
abbrev cX7_count : ByteArray := prog_1_method_25_code
def yX7_count : MethodName := ⟨RX7, "count", "(I)I"⟩
abbrev cX7_beginWith : ByteArray := prog_1_method_26_code
def yX7_beginWith : MethodName := ⟨RX7, "beginWith", "(LHeightSheet$Formulas;)V"⟩
abbrev cX7_remember : ByteArray := prog_1_method_27_code
def yX7_remember : MethodName := ⟨RX7, "remember", "()V"⟩
abbrev cX7_make : ByteArray := prog_1_method_28_code
def yX7_make : MethodName := ⟨RX7, "make", "()I"⟩
abbrev cX7_askByDraws : ByteArray := prog_1_method_29_code
def yX7_askByDraws : MethodName := ⟨RX7, "askByDraws", "(III)V"⟩
abbrev cX7_countImages : ByteArray := prog_1_method_30_code
def yX7_countImages : MethodName := ⟨RX7, "countImages", "()I"⟩
abbrev cX7_stir : ByteArray := prog_1_method_31_code
def yX7_stir : MethodName := ⟨RX7, "stir", "(I)I"⟩
abbrev cX7_drawn : ByteArray := prog_1_method_32_code
def yX7_drawn : MethodName := ⟨RX7, "drawn", "(I)I"⟩
abbrev cX7_isCell : ByteArray := prog_1_method_33_code
def yX7_isCell : MethodName := ⟨RX7, "isCell", "(I)Z"⟩
abbrev cX7_isSpan : ByteArray := prog_1_method_34_code
def yX7_isSpan : MethodName := ⟨RX7, "isSpan", "(I)Z"⟩
abbrev cX7_operandsOf : ByteArray := prog_1_method_35_code
def yX7_operandsOf : MethodName := ⟨RX7, "operandsOf", "(I)I"⟩
abbrev cX7_bit : ByteArray := prog_1_method_36_code
def yX7_bit : MethodName := ⟨RX7, "bit", "(I)I"⟩
abbrev cX7_has : ByteArray := prog_1_method_37_code
def yX7_has : MethodName := ⟨RX7, "has", "(II)Z"⟩
abbrev cX7_nthOf : ByteArray := prog_1_method_38_code
def yX7_nthOf : MethodName := ⟨RX7, "nthOf", "(II)I"⟩
def RX8 : String := "HeightSheetModel"
def TX8 : u_T := fun k => match k with
  | 0 => ("HeightSheetModel", "state", "[I", true)
  | 1 => ("HeightSheetModel", "tape", "[I", true)
  | 2 => ("HeightSheetModel", "taped", "I", false)
  | 3 => ("HeightSheetModel", "fault", "I", false)
  | 4 => ("HeightSheetModel", "broken", "I", false)
  | 5 => ("HeightSheetModel", "brokenAt", "I", false)
  | 6 => ("HeightSheetModel", "spot", "I", false)
  | 7 => ("HeightSheetModel", "here", "I", false)
  | 8 => ("HeightSheetModel", "token", "I", false)
  | 9 => ("HeightSheetModel", "number", "I", false)
  | 10 => ("HeightSheetModel", "ends", "[I", true)
  | 11 => ("HeightSheetModel", "letters", "[I", true)
  | 12 => ("HeightSheetModel", "values", "[I", true)
  | 13 => ("HeightSheetModel", "isTold", "[Z", true)
  | 14 => ("HeightSheetModel", "waits", "[I", true)
  | 15 => ("HeightSheetModel", "readsOf", "[I", true)
  | 16 => ("HeightSheetModel", "readMany", "[I", true)
  | 17 => ("HeightSheetModel", "heights", "[I", true)
  | 18 => ("HeightSheetModel", "isStarted", "Z", false)
  | 19 => ("HeightSheetModel", "oldValues", "[I", true)
  | 20 => ("HeightSheetModel", "isOldTold", "[Z", true)
  | 21 => ("HeightSheetModel", "oldReads", "[I", true)
  | 22 => ("HeightSheetModel", "evaluated", "I", false)
  | 23 => ("HeightSheetModel", "moved", "I", false)
  | 24 => ("HeightSheetModel", "isChanged", "Z", false)
  | 25 => ("HeightSheetModel", "undos", "[I", true)
  | 26 => ("HeightSheetModel", "undoMany", "I", false)
  | 27 => ("HeightSheetModel", "undoAside", "[I", true)
  | 28 => ("HeightSheetModel", "formula", "[I", true)
  | 29 => ("HeightSheetModel", "isKept", "[Z", true)
  | 30 => ("HeightSheetModel", "lanes", "[I", true)
  | 31 => ("HeightSheetModel", "lengths", "[I", true)
  | 32 => ("HeightSheetModel", "items", "[I", true)
  | 33 => ("HeightSheetModel", "torn", "I", false)
  | _ => ("HeightSheetModel", "isAsideChanged", "Z", false)
def tyX8 : Nat → FieldType := fun k => match k with
  | 0 => .array .int
  | 1 => .array .int
  | 2 => .int
  | 3 => .int
  | 4 => .int
  | 5 => .int
  | 6 => .int
  | 7 => .int
  | 8 => .int
  | 9 => .int
  | 10 => .array .int
  | 11 => .array .int
  | 12 => .array .int
  | 13 => .array .boolean
  | 14 => .array .int
  | 15 => .array .int
  | 16 => .array .int
  | 17 => .array .int
  | 18 => .boolean
  | 19 => .array .int
  | 20 => .array .boolean
  | 21 => .array .int
  | 22 => .int
  | 23 => .int
  | 24 => .boolean
  | 25 => .array .int
  | 26 => .int
  | 27 => .array .int
  | 28 => .array .int
  | 29 => .array .boolean
  | 30 => .array .int
  | 31 => .array .int
  | 32 => .array .int
  | 33 => .int
  | _ => .boolean
abbrev wsX80 : List Cond := u_ws RX8 TX8 35
theorem nmX8 : ∀ a, a < 35 → ∀ b, b < 35 → a ≠ b → (TX8 a).2.1 ≠ (TX8 b).2.1 := by decide +kernel
theorem tyX8_ok : ∀ k, k < 35 → parseFieldDescriptor (TX8 k).2.2.1 = some (tyX8 k) := by decide +kernel
abbrev cX8_init : ByteArray := prog_10_method_1_code
def yX8_init : MethodName := ⟨RX8, "<init>", "()V"⟩
abbrev cX8_in : ByteArray := prog_10_method_3_code
def yX8_in : MethodName := ⟨RX8, "in", "(JJJ)Z"⟩
abbrev cX8_feed : ByteArray := prog_10_method_4_code
def yX8_feed : MethodName := ⟨RX8, "feed", "(I)I"⟩
abbrev cX8_end : ByteArray := prog_10_method_5_code
def yX8_end : MethodName := ⟨RX8, "end", "(I)I"⟩
abbrev cX8_byteAt : ByteArray := prog_10_method_6_code
def yX8_byteAt : MethodName := ⟨RX8, "byteAt", "(I)I"⟩
abbrev cX8_fails : ByteArray := prog_10_method_7_code
def yX8_fails : MethodName := ⟨RX8, "fails", "(I)V"⟩
abbrev cX8_kindHere : ByteArray := prog_10_method_8_code
def yX8_kindHere : MethodName := ⟨RX8, "kindHere", "()I"⟩
abbrev cX8_readsOn : ByteArray := prog_10_method_9_code
def yX8_readsOn : MethodName := ⟨RX8, "readsOn", "()V"⟩
abbrev cX8_numberRead : ByteArray := prog_10_method_10_code
def yX8_numberRead : MethodName := ⟨RX8, "numberRead", "(II)I"⟩
abbrev cX8_operandsOf : ByteArray := prog_10_method_11_code
def yX8_operandsOf : MethodName := ⟨RX8, "operandsOf", "(I)I"⟩
abbrev cX8_readLine : ByteArray := prog_10_method_12_code
def yX8_readLine : MethodName := ⟨RX8, "readLine", "()V"⟩
abbrev cX8_text : ByteArray := prog_10_method_13_code
def yX8_text : MethodName := ⟨RX8, "text", "()I"⟩
abbrev cX8_fault : ByteArray := prog_10_method_14_code
def yX8_fault : MethodName := ⟨RX8, "fault", "()I"⟩
abbrev cX8_copies : ByteArray := prog_10_method_15_code
def yX8_copies : MethodName := ⟨RX8, "copies", "(II)V"⟩
abbrev cX8_isReadBy : ByteArray := prog_10_method_16_code
def yX8_isReadBy : MethodName := ⟨RX8, "isReadBy", "(II)Z"⟩
abbrev cX8_modulo : ByteArray := prog_10_method_17_code
def yX8_modulo : MethodName := ⟨RX8, "modulo", "(I)I"⟩
abbrev cX8_spanned : ByteArray := prog_10_method_18_code
def yX8_spanned : MethodName := ⟨RX8, "spanned", "(I)I"⟩
abbrev cX8_paired : ByteArray := prog_10_method_19_code
def yX8_paired : MethodName := ⟨RX8, "paired", "(I)I"⟩
abbrev cX8_valueIfTold : ByteArray := prog_10_method_20_code
def yX8_valueIfTold : MethodName := ⟨RX8, "valueIfTold", "(I)I"⟩
abbrev cX8_isEvaluated : ByteArray := prog_10_method_21_code
def yX8_isEvaluated : MethodName := ⟨RX8, "isEvaluated", "(I)Z"⟩
abbrev cX8_heightOf : ByteArray := prog_10_method_22_code
def yX8_heightOf : MethodName := ⟨RX8, "heightOf", "(I)V"⟩
abbrev cX8_settles : ByteArray := prog_10_method_23_code
def yX8_settles : MethodName := ⟨RX8, "settles", "()V"⟩
abbrev cX8_isCell : ByteArray := prog_10_method_24_code
def yX8_isCell : MethodName := ⟨RX8, "isCell", "(I)Z"⟩
abbrev cX8_circleOf : ByteArray := prog_10_method_25_code
def yX8_circleOf : MethodName := ⟨RX8, "circleOf", "(I)I"⟩
abbrev cX8_isFirst : ByteArray := prog_10_method_26_code
def yX8_isFirst : MethodName := ⟨RX8, "isFirst", "(I)Z"⟩
abbrev cX8_formulas : ByteArray := prog_10_method_27_code
def yX8_formulas : MethodName := ⟨RX8, "formulas", "()I"⟩
abbrev cX8_ruled : ByteArray := prog_10_method_28_code
def yX8_ruled : MethodName := ⟨RX8, "ruled", "(II)I"⟩
abbrev cX8_starts : ByteArray := prog_10_method_29_code
def yX8_starts : MethodName := ⟨RX8, "starts", "()V"⟩
abbrev cX8_rule : ByteArray := prog_10_method_30_code
def yX8_rule : MethodName := ⟨RX8, "rule", "(I)I"⟩
abbrev cX8_readersOf : ByteArray := prog_10_method_31_code
def yX8_readersOf : MethodName := ⟨RX8, "readersOf", "(I)I"⟩
abbrev cX8_isReading : ByteArray := prog_10_method_32_code
def yX8_isReading : MethodName := ⟨RX8, "isReading", "(II)Z"⟩
abbrev cX8_cell : ByteArray := prog_10_method_33_code
def yX8_cell : MethodName := ⟨RX8, "cell", "(II)I"⟩
abbrev cX8_value : ByteArray := prog_10_method_34_code
def yX8_value : MethodName := ⟨RX8, "value", "(I)I"⟩
abbrev cX8_reads : ByteArray := prog_10_method_35_code
def yX8_reads : MethodName := ⟨RX8, "reads", "(II)I"⟩
abbrev cX8_reader : ByteArray := prog_10_method_36_code
def yX8_reader : MethodName := ⟨RX8, "reader", "(II)I"⟩
abbrev cX8_bitsRead : ByteArray := prog_10_method_37_code
def yX8_bitsRead : MethodName := ⟨RX8, "bitsRead", "(I)I"⟩
abbrev cX8_needsOf : ByteArray := prog_10_method_38_code
def yX8_needsOf : MethodName := ⟨RX8, "needsOf", "(I)I"⟩
abbrev cX8_far : ByteArray := prog_10_method_39_code
def yX8_far : MethodName := ⟨RX8, "far", "(II)I"⟩
abbrev cX8_order : ByteArray := prog_10_method_40_code
def yX8_order : MethodName := ⟨RX8, "order", "(I)I"⟩
abbrev cX8_circle : ByteArray := prog_10_method_41_code
def yX8_circle : MethodName := ⟨RX8, "circle", "(II)I"⟩
abbrev cX8_bitsOf : ByteArray := prog_10_method_42_code
def yX8_bitsOf : MethodName := ⟨RX8, "bitsOf", "(I)I"⟩
abbrev cX8_isFormula : ByteArray := prog_10_method_43_code
def yX8_isFormula : MethodName := ⟨RX8, "isFormula", "(IIIII)Z"⟩
abbrev cX8_formulaIs : ByteArray := prog_10_method_44_code
def yX8_formulaIs : MethodName := ⟨RX8, "formulaIs", "(IIII)V"⟩
abbrev cX8_changes : ByteArray := prog_10_method_45_code
def yX8_changes : MethodName := ⟨RX8, "changes", "(I)V"⟩
abbrev cX8_puts : ByteArray := prog_10_method_46_code
def yX8_puts : MethodName := ⟨RX8, "puts", "(I)I"⟩
abbrev cX8_putsFormula : ByteArray := prog_10_method_47_code
def yX8_putsFormula : MethodName := ⟨RX8, "putsFormula", "(IIIII)I"⟩
abbrev cX8_put : ByteArray := prog_10_method_48_code
def yX8_put : MethodName := ⟨RX8, "put", "(IIIII)I"⟩
abbrev cX8_would : ByteArray := prog_10_method_49_code
def yX8_would : MethodName := ⟨RX8, "would", "(IIIIII)I"⟩
abbrev cX8_latest : ByteArray := prog_10_method_50_code
def yX8_latest : MethodName := ⟨RX8, "latest", "(I)I"⟩
abbrev cX8_undo : ByteArray := prog_10_method_51_code
def yX8_undo : MethodName := ⟨RX8, "undo", "()I"⟩
abbrev cX8_drawn : ByteArray := prog_10_method_52_code
def yX8_drawn : MethodName := ⟨RX8, "drawn", "(I)I"⟩
abbrev cX8_storm : ByteArray := prog_10_method_53_code
def yX8_storm : MethodName := ⟨RX8, "storm", "(II)I"⟩
abbrev cX8_keep : ByteArray := prog_10_method_54_code
def yX8_keep : MethodName := ⟨RX8, "keep", "(I)I"⟩
abbrev cX8_back : ByteArray := prog_10_method_55_code
def yX8_back : MethodName := ⟨RX8, "back", "(I)I"⟩
abbrev cX8_sheet : ByteArray := prog_10_method_56_code
def yX8_sheet : MethodName := ⟨RX8, "sheet", "(III)I"⟩
abbrev cX8_lay : ByteArray := prog_10_method_57_code
def yX8_lay : MethodName := ⟨RX8, "lay", "(III)I"⟩
abbrev cX8_setsAside : ByteArray := prog_10_method_58_code
def yX8_setsAside : MethodName := ⟨RX8, "setsAside", "()V"⟩
abbrev cX8_getsAside : ByteArray := prog_10_method_59_code
def yX8_getsAside : MethodName := ⟨RX8, "getsAside", "()V"⟩
abbrev cX8_read : ByteArray := prog_10_method_60_code
def yX8_read : MethodName := ⟨RX8, "read", "(IIII)I"⟩
abbrev cX8_torn : ByteArray := prog_10_method_61_code
def yX8_torn : MethodName := ⟨RX8, "torn", "()I"⟩
abbrev cX8_count : ByteArray := prog_10_method_62_code
def yX8_count : MethodName := ⟨RX8, "count", "(I)I"⟩
def RJx145de : String := "java/io/Serializable"
def TJx145de : u_T := fun k => match k with
  | _ => ("", "", "", false)
def tyJx145de : Nat → FieldType := fun k => match k with
  | _ => .int
abbrev wsJx145de0 : List Cond := u_ws RJx145de TJx145de 0
theorem nmJx145de : ∀ a, a < 0 → ∀ b, b < 0 → a ≠ b → (TJx145de a).2.1 ≠ (TJx145de b).2.1 := by decide +kernel
theorem tyJx145de_ok : ∀ k, k < 0 → parseFieldDescriptor (TJx145de k).2.2.1 = some (tyJx145de k) := by decide +kernel
def RJx9f9b0 : String := "java/lang/CharSequence"
def TJx9f9b0 : u_T := fun k => match k with
  | _ => ("", "", "", false)
def tyJx9f9b0 : Nat → FieldType := fun k => match k with
  | _ => .int
abbrev wsJx9f9b00 : List Cond := u_ws RJx9f9b0 TJx9f9b0 0
theorem nmJx9f9b0 : ∀ a, a < 0 → ∀ b, b < 0 → a ≠ b → (TJx9f9b0 a).2.1 ≠ (TJx9f9b0 b).2.1 := by decide +kernel
theorem tyJx9f9b0_ok : ∀ k, k < 0 → parseFieldDescriptor (TJx9f9b0 k).2.2.1 = some (tyJx9f9b0 k) := by decide +kernel
def RJxb160c : String := "java/lang/Comparable"
def TJxb160c : u_T := fun k => match k with
  | _ => ("", "", "", false)
def tyJxb160c : Nat → FieldType := fun k => match k with
  | _ => .int
abbrev wsJxb160c0 : List Cond := u_ws RJxb160c TJxb160c 0
theorem nmJxb160c : ∀ a, a < 0 → ∀ b, b < 0 → a ≠ b → (TJxb160c a).2.1 ≠ (TJxb160c b).2.1 := by decide +kernel
theorem tyJxb160c_ok : ∀ k, k < 0 → parseFieldDescriptor (TJxb160c k).2.2.1 = some (tyJxb160c k) := by decide +kernel
def RJ6 : String := "java/lang/Integer"
def TJ6 : u_T := fun k => match k with
  | _ => ("", "", "", false)
def tyJ6 : Nat → FieldType := fun k => match k with
  | _ => .int
abbrev wsJ60 : List Cond := u_ws RJ6 TJ6 0
theorem nmJ6 : ∀ a, a < 0 → ∀ b, b < 0 → a ≠ b → (TJ6 a).2.1 ≠ (TJ6 b).2.1 := by decide +kernel
theorem tyJ6_ok : ∀ k, k < 0 → parseFieldDescriptor (TJ6 k).2.2.1 = some (tyJ6 k) := by decide +kernel
abbrev cJ6_bitCount_0f7a4 : ByteArray := prog_11_method_49_code
def yJ6_bitCount_0f7a4 : MethodName := ⟨RJ6, "bitCount", "(I)I"⟩
def RJ9 : String := "java/lang/Math"
def TJ9 : u_T := fun k => match k with
  | _ => ("", "", "", false)
def tyJ9 : Nat → FieldType := fun k => match k with
  | _ => .int
abbrev wsJ90 : List Cond := u_ws RJ9 TJ9 0
theorem nmJ9 : ∀ a, a < 0 → ∀ b, b < 0 → a ≠ b → (TJ9 a).2.1 ≠ (TJ9 b).2.1 := by decide +kernel
theorem tyJ9_ok : ∀ k, k < 0 → parseFieldDescriptor (TJ9 k).2.2.1 = some (tyJ9 k) := by decide +kernel
abbrev cJ9_floorMod_7cf53 : ByteArray := prog_12_method_50_code
def yJ9_floorMod_7cf53 : MethodName := ⟨RJ9, "floorMod", "(II)I"⟩
abbrev cJ9_max_7cf53 : ByteArray := prog_12_method_65_code
def yJ9_max_7cf53 : MethodName := ⟨RJ9, "max", "(II)I"⟩
abbrev cJ9_min_7cf53 : ByteArray := prog_12_method_69_code
def yJ9_min_7cf53 : MethodName := ⟨RJ9, "min", "(II)I"⟩
def RJ0 : String := "java/lang/String"
def TJ0 : u_T := fun k => match k with
  | _ => ("", "", "", false)
def tyJ0 : Nat → FieldType := fun k => match k with
  | _ => .int
abbrev wsJ00 : List Cond := u_ws RJ0 TJ0 0
theorem nmJ0 : ∀ a, a < 0 → ∀ b, b < 0 → a ≠ b → (TJ0 a).2.1 ≠ (TJ0 b).2.1 := by decide +kernel
theorem tyJ0_ok : ∀ k, k < 0 → parseFieldDescriptor (TJ0 k).2.2.1 = some (tyJ0 k) := by decide +kernel
abbrev cJ0_length_8abf5 : ByteArray := prog_13_method_54_code
def yJ0_length_8abf5 : MethodName := ⟨RJ0, "length", "()I"⟩
abbrev cJ0_charAt_5068e : ByteArray := prog_13_method_56_code
def yJ0_charAt_5068e : MethodName := ⟨RJ0, "charAt", "(I)C"⟩
abbrev cJ0_coder_7d493 : ByteArray := prog_13_method_152_code
def yJ0_coder_7d493 : MethodName := ⟨RJ0, "coder", "()B"⟩
abbrev cJ0_isLatin1_aae02 : ByteArray := prog_13_method_154_code
def yJ0_isLatin1_aae02 : MethodName := ⟨RJ0, "isLatin1", "()Z"⟩
abbrev cJ0_checkIndex_df160 : ByteArray := prog_13_method_155_code
def yJ0_checkIndex_df160 : MethodName := ⟨RJ0, "checkIndex", "(II)V"⟩
def RJ1 : String := "java/lang/StringLatin1"
def TJ1 : u_T := fun k => match k with
  | _ => ("", "", "", false)
def tyJ1 : Nat → FieldType := fun k => match k with
  | _ => .int
abbrev wsJ10 : List Cond := u_ws RJ1 TJ1 0
theorem nmJ1 : ∀ a, a < 0 → ∀ b, b < 0 → a ≠ b → (TJ1 a).2.1 ≠ (TJ1 b).2.1 := by decide +kernel
theorem tyJ1_ok : ∀ k, k < 0 → parseFieldDescriptor (TJ1 k).2.2.1 = some (tyJ1 k) := by decide +kernel
abbrev cJ1_charAt_3b067 : ByteArray := prog_14_method_2_code
def yJ1_charAt_3b067 : MethodName := ⟨RJ1, "charAt", "([BI)C"⟩
def RJ2 : String := "java/lang/StringUTF16"
def TJ2 : u_T := fun k => match k with
  | _ => ("", "", "", false)
def tyJ2 : Nat → FieldType := fun k => match k with
  | _ => .int
abbrev wsJ20 : List Cond := u_ws RJ2 TJ2 0
theorem nmJ2 : ∀ a, a < 0 → ∀ b, b < 0 → a ≠ b → (TJ2 a).2.1 ≠ (TJ2 b).2.1 := by decide +kernel
theorem tyJ2_ok : ∀ k, k < 0 → parseFieldDescriptor (TJ2 k).2.2.1 = some (tyJ2 k) := by decide +kernel
abbrev cJ2_getChar_3b067 : ByteArray := prog_15_method_5_code
def yJ2_getChar_3b067 : MethodName := ⟨RJ2, "getChar", "([BI)C"⟩
abbrev cJ2_length_9d52b : ByteArray := prog_15_method_6_code
def yJ2_length_9d52b : MethodName := ⟨RJ2, "length", "([B)I"⟩
abbrev cJ2_charAt_3b067 : ByteArray := prog_15_method_83_code
def yJ2_charAt_3b067 : MethodName := ⟨RJ2, "charAt", "([BI)C"⟩
abbrev cJ2_checkIndex_2214a : ByteArray := prog_15_method_91_code
def yJ2_checkIndex_2214a : MethodName := ⟨RJ2, "checkIndex", "(I[B)V"⟩
def RJ10 : String := "java/lang/System"
def TJ10 : u_T := fun k => match k with
  | _ => ("", "", "", false)
def tyJ10 : Nat → FieldType := fun k => match k with
  | _ => .int
abbrev wsJ100 : List Cond := u_ws RJ10 TJ10 0
theorem nmJ10 : ∀ a, a < 0 → ∀ b, b < 0 → a ≠ b → (TJ10 a).2.1 ≠ (TJ10 b).2.1 := by decide +kernel
theorem tyJ10_ok : ∀ k, k < 0 → parseFieldDescriptor (TJ10 k).2.2.1 = some (tyJ10 k) := by decide +kernel
def RJxfd54e : String := "java/lang/constant/Constable"
def TJxfd54e : u_T := fun k => match k with
  | _ => ("", "", "", false)
def tyJxfd54e : Nat → FieldType := fun k => match k with
  | _ => .int
abbrev wsJxfd54e0 : List Cond := u_ws RJxfd54e TJxfd54e 0
theorem nmJxfd54e : ∀ a, a < 0 → ∀ b, b < 0 → a ≠ b → (TJxfd54e a).2.1 ≠ (TJxfd54e b).2.1 := by decide +kernel
theorem tyJxfd54e_ok : ∀ k, k < 0 → parseFieldDescriptor (TJxfd54e k).2.2.1 = some (tyJxfd54e k) := by decide +kernel
def RJx3cf43 : String := "java/lang/constant/ConstantDesc"
def TJx3cf43 : u_T := fun k => match k with
  | _ => ("", "", "", false)
def tyJx3cf43 : Nat → FieldType := fun k => match k with
  | _ => .int
abbrev wsJx3cf430 : List Cond := u_ws RJx3cf43 TJx3cf43 0
theorem nmJx3cf43 : ∀ a, a < 0 → ∀ b, b < 0 → a ≠ b → (TJx3cf43 a).2.1 ≠ (TJx3cf43 b).2.1 := by decide +kernel
theorem tyJx3cf43_ok : ∀ k, k < 0 → parseFieldDescriptor (TJx3cf43 k).2.2.1 = some (tyJx3cf43 k) := by decide +kernel
def RJ7 : String := "java/util/Arrays"
def TJ7 : u_T := fun k => match k with
  | _ => ("", "", "", false)
def tyJ7 : Nat → FieldType := fun k => match k with
  | _ => .int
abbrev wsJ70 : List Cond := u_ws RJ7 TJ7 0
theorem nmJ7 : ∀ a, a < 0 → ∀ b, b < 0 → a ≠ b → (TJ7 a).2.1 ≠ (TJ7 b).2.1 := by decide +kernel
theorem tyJ7_ok : ∀ k, k < 0 → parseFieldDescriptor (TJ7 k).2.2.1 = some (tyJ7 k) := by decide +kernel
abbrev cJ7_fill_53178 : ByteArray := prog_17_method_103_code
def yJ7_fill_53178 : MethodName := ⟨RJ7, "fill", "([II)V"⟩
def RJ3 : String := "jdk/internal/util/Preconditions"
def TJ3 : u_T := fun k => match k with
  | _ => ("", "", "", false)
def tyJ3 : Nat → FieldType := fun k => match k with
  | _ => .int
abbrev wsJ30 : List Cond := u_ws RJ3 TJ3 0
theorem nmJ3 : ∀ a, a < 0 → ∀ b, b < 0 → a ≠ b → (TJ3 a).2.1 ≠ (TJ3 b).2.1 := by decide +kernel
theorem tyJ3_ok : ∀ k, k < 0 → parseFieldDescriptor (TJ3 k).2.2.1 = some (tyJ3 k) := by decide +kernel
abbrev cJ3_checkIndex_8e157 : ByteArray := prog_18_method_11_code
def yJ3_checkIndex_8e157 : MethodName := ⟨RJ3, "checkIndex", "(IILjava/util/function/BiFunction;)I"⟩
def RL : String := "HeightSheetLaw"
abbrev cL_law : ByteArray := code
def yL_law : MethodName := ⟨RL, "law", "([I)Z"⟩
abbrev vwCl : List vw_C := [(RX0, TX0, 5), (RX1, TX1, 1), (RX2, TX2, 2), (RX3, TX3, 7), (RX4, TX4, 3), (RX5, TX5, 6), (RX6, TX6, 3), (RX7, TX7, 15), (RX8, TX8, 35)]
