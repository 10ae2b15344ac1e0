/-! THE LAW: what its start gives -/
theorem nm_0 : Cond.methodLinkNest RX7 9 yX5_init RX7 ∈ lw_tbl := List.mem_append_right _ (List.mem_of_getElem? (i := 28) (by decide +kernel))
theorem nm_1 : Cond.methodLinkNest RX7 18 yX6_init RX7 ∈ lw_tbl := List.mem_append_right _ (List.mem_of_getElem? (i := 58) (by decide +kernel))
theorem nm_2 : Cond.methodLinkNest RX6 11 yX1_init RX7 ∈ lw_tbl := List.mem_append_right _ (List.mem_of_getElem? (i := 64) (by decide +kernel))
theorem nm_3 : Cond.methodLinkNest RX7 25 yX1_init RX7 ∈ lw_tbl := List.mem_append_right _ (List.mem_of_getElem? (i := 87) (by decide +kernel))
theorem nm_4 : Cond.methodLinkNest RX7 32 yX3_init RX7 ∈ lw_tbl := List.mem_append_right _ (List.mem_of_getElem? (i := 90) (by decide +kernel))
theorem nm_5 : Cond.methodLinkNest RX7 42 yX0_init RX7 ∈ lw_tbl := List.mem_append_right _ (List.mem_of_getElem? (i := 125) (by decide +kernel))
theorem nm_6 : Cond.methodLinkNest RX7 52 yX2_init RX7 ∈ lw_tbl := List.mem_append_right _ (List.mem_of_getElem? (i := 158) (by decide +kernel))
theorem nm_7 : Cond.methodLinkNest RX7 71 yX4_init RX7 ∈ lw_tbl := List.mem_append_right _ (List.mem_of_getElem? (i := 174) (by decide +kernel))
theorem nm_8 : Cond.methodLinkNest RX7 72 yX3_reckon RX7 ∈ lw_tbl := List.mem_append_right _ (List.mem_of_getElem? (i := 191) (by decide +kernel))
theorem nm_9 : Cond.methodLinkNest RX3 34 yX7_has RX7 ∈ lw_tbl := List.mem_append_right _ (List.mem_of_getElem? (i := 198) (by decide +kernel))
theorem nm_10 : Cond.methodLinkNest RX3 45 yX1_part RX7 ∈ lw_tbl := List.mem_append_right _ (List.mem_of_getElem? (i := 205) (by decide +kernel))
theorem nm_11 : Cond.methodLinkNest RX3 79 yX7_bit RX7 ∈ lw_tbl := List.mem_append_right _ (List.mem_of_getElem? (i := 213) (by decide +kernel))
theorem nm_12 : Cond.methodLinkNest RX7 80 yX5_append RX7 ∈ lw_tbl := List.mem_append_right _ (List.mem_of_getElem? (i := 300) (by decide +kernel))
theorem nm_13 : Cond.methodLinkNest RX7 84 yX6_takesAll RX7 ∈ lw_tbl := List.mem_append_right _ (List.mem_of_getElem? (i := 312) (by decide +kernel))
theorem nm_14 : Cond.methodLinkNest RX6 18 yX1_clear RX7 ∈ lw_tbl := List.mem_append_right _ (List.mem_of_getElem? (i := 316) (by decide +kernel))
theorem nm_15 : Cond.methodLinkNest RX6 28 yX5_rewind RX7 ∈ lw_tbl := List.mem_append_right _ (List.mem_of_getElem? (i := 321) (by decide +kernel))
theorem nm_16 : Cond.methodLinkNest RX6 33 yX5_nextToken RX7 ∈ lw_tbl := List.mem_append_right _ (List.mem_of_getElem? (i := 325) (by decide +kernel))
theorem nm_17 : Cond.methodLinkNest RX6 82 yX5_isWord RX7 ∈ lw_tbl := List.mem_append_right _ (List.mem_of_getElem? (i := 361) (by decide +kernel))
theorem nm_18 : Cond.methodLinkNest RX6 58 yX1_begin RX7 ∈ lw_tbl := List.mem_append_right _ (List.mem_of_getElem? (i := 421) (by decide +kernel))
theorem nm_19 : Cond.methodLinkNest RX6 62 yX7_operandsOf RX7 ∈ lw_tbl := List.mem_append_right _ (List.mem_of_getElem? (i := 425) (by decide +kernel))
theorem nm_20 : Cond.methodLinkNest RX6 66 yX7_isSpan RX7 ∈ lw_tbl := List.mem_append_right _ (List.mem_of_getElem? (i := 430) (by decide +kernel))
theorem nm_21 : Cond.methodLinkNest RX6 70 yX1_part RX7 ∈ lw_tbl := List.mem_append_right _ (List.mem_of_getElem? (i := 433) (by decide +kernel))
theorem nm_22 : Cond.methodLinkNest RX6 74 yX1_setOperand RX7 ∈ lw_tbl := List.mem_append_right _ (List.mem_of_getElem? (i := 434) (by decide +kernel))
theorem nm_23 : Cond.methodLinkNest RX7 227 yX1_become RX7 ∈ lw_tbl := List.mem_append_right _ (List.mem_of_getElem? (i := 442) (by decide +kernel))
theorem nm_24 : Cond.methodLinkNest RX7 266 yX2_clear RX7 ∈ lw_tbl := List.mem_append_right _ (List.mem_of_getElem? (i := 449) (by decide +kernel))
theorem nm_25 : Cond.methodLinkNest RX7 103 yX1_countTold RX7 ∈ lw_tbl := List.mem_append_right _ (List.mem_of_getElem? (i := 461) (by decide +kernel))
theorem nm_26 : Cond.methodLinkNest RX7 122 yX3_greatestHeight RX7 ∈ lw_tbl := List.mem_append_right _ (List.mem_of_getElem? (i := 472) (by decide +kernel))
theorem nm_27 : Cond.methodLinkNest RX7 125 yX3_countReads RX7 ∈ lw_tbl := List.mem_append_right _ (List.mem_of_getElem? (i := 476) (by decide +kernel))
theorem nm_28 : Cond.methodLinkNest RX7 133 yX1_part RX7 ∈ lw_tbl := List.mem_append_right _ (List.mem_of_getElem? (i := 488) (by decide +kernel))
theorem nm_29 : Cond.methodLinkNest RX7 137 yX3_standing RX7 ∈ lw_tbl := List.mem_append_right _ (List.mem_of_getElem? (i := 489) (by decide +kernel))
theorem nm_30 : Cond.methodLinkNest RX7 157 yX3_readersOf RX7 ∈ lw_tbl := List.mem_append_right _ (List.mem_of_getElem? (i := 495) (by decide +kernel))
theorem nm_31 : Cond.methodLinkNest RX7 166 yX3_neededBy RX7 ∈ lw_tbl := List.mem_append_right _ (List.mem_of_getElem? (i := 518) (by decide +kernel))
theorem nm_32 : Cond.methodLinkNest RX7 169 yX3_hangingOn RX7 ∈ lw_tbl := List.mem_append_right _ (List.mem_of_getElem? (i := 522) (by decide +kernel))
theorem nm_33 : Cond.methodLinkNest RX7 172 yX3_nthByHeight RX7 ∈ lw_tbl := List.mem_append_right _ (List.mem_of_getElem? (i := 531) (by decide +kernel))
theorem nm_34 : Cond.methodLinkNest RX7 175 yX3_nthOfCircle RX7 ∈ lw_tbl := List.mem_append_right _ (List.mem_of_getElem? (i := 539) (by decide +kernel))
theorem nm_35 : Cond.methodLinkNest RX7 178 yX0_tell RX7 ∈ lw_tbl := List.mem_append_right _ (List.mem_of_getElem? (i := 547) (by decide +kernel))
theorem nm_36 : Cond.methodLinkNest RX7 182 yX0_isAllowed RX7 ∈ lw_tbl := List.mem_append_right _ (List.mem_of_getElem? (i := 551) (by decide +kernel))
theorem nm_37 : Cond.methodLinkNest RX0 37 yX7_isCell RX7 ∈ lw_tbl := List.mem_append_right _ (List.mem_of_getElem? (i := 555) (by decide +kernel))
theorem nm_38 : Cond.methodLinkNest RX0 45 yX7_operandsOf RX7 ∈ lw_tbl := List.mem_append_right _ (List.mem_of_getElem? (i := 560) (by decide +kernel))
theorem nm_39 : Cond.methodLinkNest RX0 49 yX7_isSpan RX7 ∈ lw_tbl := List.mem_append_right _ (List.mem_of_getElem? (i := 561) (by decide +kernel))
theorem nm_40 : Cond.methodLinkNest RX7 192 yX0_tellAsIn RX7 ∈ lw_tbl := List.mem_append_right _ (List.mem_of_getElem? (i := 566) (by decide +kernel))
theorem nm_41 : Cond.methodLinkNest RX0 27 yX1_part RX7 ∈ lw_tbl := List.mem_append_right _ (List.mem_of_getElem? (i := 570) (by decide +kernel))
theorem nm_42 : Cond.methodLinkNest RX7 272 yX2_push RX7 ∈ lw_tbl := List.mem_append_right _ (List.mem_of_getElem? (i := 572) (by decide +kernel))
theorem nm_43 : Cond.methodLinkNest RX7 196 yX1_take RX7 ∈ lw_tbl := List.mem_append_right _ (List.mem_of_getElem? (i := 581) (by decide +kernel))
theorem nm_44 : Cond.methodLinkNest RX1 33 yX7_operandsOf RX7 ∈ lw_tbl := List.mem_append_right _ (List.mem_of_getElem? (i := 585) (by decide +kernel))
theorem nm_45 : Cond.methodLinkNest RX7 200 yX3_movedTo RX7 ∈ lw_tbl := List.mem_append_right _ (List.mem_of_getElem? (i := 588) (by decide +kernel))
theorem nm_46 : Cond.methodLinkNest RX7 214 yX2_popInto RX7 ∈ lw_tbl := List.mem_append_right _ (List.mem_of_getElem? (i := 604) (by decide +kernel))
theorem nm_47 : Cond.methodLinkNest RX2 42 yX0_tell RX7 ∈ lw_tbl := List.mem_append_right _ (List.mem_of_getElem? (i := 608) (by decide +kernel))
theorem nm_48 : Cond.methodLinkNest RX7 230 yX4_renew RX7 ∈ lw_tbl := List.mem_append_right _ (List.mem_of_getElem? (i := 639) (by decide +kernel))
theorem nm_49 : Cond.methodLinkNest RX7 237 yX4_faultAt RX7 ∈ lw_tbl := List.mem_append_right _ (List.mem_of_getElem? (i := 648) (by decide +kernel))
theorem nm_50 : Cond.methodLinkNest RX7 240 yX4_set RX7 ∈ lw_tbl := List.mem_append_right _ (List.mem_of_getElem? (i := 656) (by decide +kernel))
theorem nm_51 : Cond.methodLinkNest RX7 243 yX4_faultOfChange RX7 ∈ lw_tbl := List.mem_append_right _ (List.mem_of_getElem? (i := 664) (by decide +kernel))
theorem nm_52 : Cond.methodLinkNest RX7 246 yX4_askFrom RX7 ∈ lw_tbl := List.mem_append_right _ (List.mem_of_getElem? (i := 669) (by decide +kernel))
theorem nm_53 : Cond.methodLinkNest RX4 36 yX0_tell RX7 ∈ lw_tbl := List.mem_append_right _ (List.mem_of_getElem? (i := 673) (by decide +kernel))
theorem nm_54 : Cond.methodLinkNest RX7 256 yX4_isNothing RX7 ∈ lw_tbl := List.mem_append_right _ (List.mem_of_getElem? (i := 686) (by decide +kernel))
theorem nm_55 : Cond.methodLinkNest RX7 260 yX1_countSpans RX7 ∈ lw_tbl := List.mem_append_right _ (List.mem_of_getElem? (i := 687) (by decide +kernel))
theorem nm_56 : Cond.methodLinkNest RX1 61 yX7_isSpan RX7 ∈ lw_tbl := List.mem_append_right _ (List.mem_of_getElem? (i := 691) (by decide +kernel))
theorem nm_57 : Cond.methodLinkNest RX7 263 yX3_sumOfValues RX7 ∈ lw_tbl := List.mem_append_right _ (List.mem_of_getElem? (i := 692) (by decide +kernel))
theorem nf_0 : Cond.fieldLinkNest RX7 76 RX5 "size" "I" RX7 ∈ lw_tbl := List.mem_append_right _ (List.mem_of_getElem? (i := 34) (by decide +kernel))
theorem nf_1 : Cond.fieldLinkNest RX7 88 RX5 "start" "I" RX7 ∈ lw_tbl := List.mem_append_right _ (List.mem_of_getElem? (i := 36) (by decide +kernel))
theorem nf_2 : Cond.fieldLinkNest RX6 36 RX5 "token" "I" RX7 ∈ lw_tbl := List.mem_append_right _ (List.mem_of_getElem? (i := 38) (by decide +kernel))
theorem nf_3 : Cond.fieldLinkNest RX6 55 RX5 "number" "I" RX7 ∈ lw_tbl := List.mem_append_right _ (List.mem_of_getElem? (i := 40) (by decide +kernel))
theorem nf_4 : Cond.fieldLinkNest RX7 91 RX6 "draft" "LHeightSheet$Formulas;" RX7 ∈ lw_tbl := List.mem_append_right _ (List.mem_of_getElem? (i := 74) (by decide +kernel))
theorem nf_5 : Cond.fieldLinkNest RX7 97 RX6 "lines" "I" RX7 ∈ lw_tbl := List.mem_append_right _ (List.mem_of_getElem? (i := 76) (by decide +kernel))
theorem nf_6 : Cond.fieldLinkNest RX7 100 RX6 "fault" "I" RX7 ∈ lw_tbl := List.mem_append_right _ (List.mem_of_getElem? (i := 78) (by decide +kernel))
theorem nf_7 : Cond.fieldLinkNest RX7 160 RX3 "values" "[I" RX7 ∈ lw_tbl := List.mem_append_right _ (List.mem_of_getElem? (i := 95) (by decide +kernel))
theorem nf_8 : Cond.fieldLinkNest RX7 144 RX3 "heights" "[I" RX7 ∈ lw_tbl := List.mem_append_right _ (List.mem_of_getElem? (i := 97) (by decide +kernel))
theorem nf_9 : Cond.fieldLinkNest RX7 151 RX3 "readBits" "[I" RX7 ∈ lw_tbl := List.mem_append_right _ (List.mem_of_getElem? (i := 99) (by decide +kernel))
theorem nf_10 : Cond.fieldLinkNest RX7 148 RX3 "waitsFor" "[I" RX7 ∈ lw_tbl := List.mem_append_right _ (List.mem_of_getElem? (i := 101) (by decide +kernel))
theorem nf_11 : Cond.fieldLinkNest RX7 107 RX3 "known" "I" RX7 ∈ lw_tbl := List.mem_append_right _ (List.mem_of_getElem? (i := 103) (by decide +kernel))
theorem nf_12 : Cond.fieldLinkNest RX7 116 RX3 "circular" "I" RX7 ∈ lw_tbl := List.mem_append_right _ (List.mem_of_getElem? (i := 104) (by decide +kernel))
theorem nf_13 : Cond.fieldLinkNest RX7 119 RX3 "circles" "I" RX7 ∈ lw_tbl := List.mem_append_right _ (List.mem_of_getElem? (i := 106) (by decide +kernel))
theorem nf_14 : Cond.fieldLinkNest RX2 25 RX0 "cell" "I" RX7 ∈ lw_tbl := List.mem_append_right _ (List.mem_of_getElem? (i := 130) (by decide +kernel))
theorem nf_15 : Cond.fieldLinkNest RX1 37 RX0 "cell" "I" RX7 ∈ lw_tbl := List.mem_append_right _ (List.mem_of_getElem? (i := 131) (by decide +kernel))
theorem nf_16 : Cond.fieldLinkNest RX7 269 RX0 "cell" "I" RX7 ∈ lw_tbl := List.mem_append_right _ (List.mem_of_getElem? (i := 132) (by decide +kernel))
theorem nf_17 : Cond.fieldLinkNest RX2 30 RX0 "kind" "I" RX7 ∈ lw_tbl := List.mem_append_right _ (List.mem_of_getElem? (i := 134) (by decide +kernel))
theorem nf_18 : Cond.fieldLinkNest RX1 27 RX0 "kind" "I" RX7 ∈ lw_tbl := List.mem_append_right _ (List.mem_of_getElem? (i := 135) (by decide +kernel))
theorem nf_19 : Cond.fieldLinkNest RX2 33 RX0 "p" "I" RX7 ∈ lw_tbl := List.mem_append_right _ (List.mem_of_getElem? (i := 137) (by decide +kernel))
theorem nf_20 : Cond.fieldLinkNest RX1 44 RX0 "p" "I" RX7 ∈ lw_tbl := List.mem_append_right _ (List.mem_of_getElem? (i := 138) (by decide +kernel))
theorem nf_21 : Cond.fieldLinkNest RX2 36 RX0 "q" "I" RX7 ∈ lw_tbl := List.mem_append_right _ (List.mem_of_getElem? (i := 140) (by decide +kernel))
theorem nf_22 : Cond.fieldLinkNest RX1 51 RX0 "q" "I" RX7 ∈ lw_tbl := List.mem_append_right _ (List.mem_of_getElem? (i := 141) (by decide +kernel))
theorem nf_23 : Cond.fieldLinkNest RX2 39 RX0 "\x72" "I" RX7 ∈ lw_tbl := List.mem_append_right _ (List.mem_of_getElem? (i := 143) (by decide +kernel))
theorem nf_24 : Cond.fieldLinkNest RX1 54 RX0 "\x72" "I" RX7 ∈ lw_tbl := List.mem_append_right _ (List.mem_of_getElem? (i := 144) (by decide +kernel))
theorem nf_25 : Cond.fieldLinkNest RX7 128 RX2 "size" "I" RX7 ∈ lw_tbl := List.mem_append_right _ (List.mem_of_getElem? (i := 164) (by decide +kernel))
theorem nf_26 : Cond.fieldLinkNest RX7 234 RX4 "lane" "I" RX7 ∈ lw_tbl := List.mem_append_right _ (List.mem_of_getElem? (i := 180) (by decide +kernel))
theorem nf_27 : Cond.fieldLinkNest RX7 259 RX4 "size" "I" RX7 ∈ lw_tbl := List.mem_append_right _ (List.mem_of_getElem? (i := 182) (by decide +kernel))
set_option maxRecDepth 100000 in
theorem nwM_in : ∀ x ∈ nwM, Cond.methodLinkNest x.1 x.2.1 x.2.2.1 x.2.2.2 ∈ lw_tbl := List.forall_mem_cons.mpr ⟨nm_0, List.forall_mem_cons.mpr ⟨nm_1, List.forall_mem_cons.mpr ⟨nm_2, List.forall_mem_cons.mpr ⟨nm_3, List.forall_mem_cons.mpr ⟨nm_4, List.forall_mem_cons.mpr ⟨nm_5, List.forall_mem_cons.mpr ⟨nm_6, List.forall_mem_cons.mpr ⟨nm_7, List.forall_mem_cons.mpr ⟨nm_8, List.forall_mem_cons.mpr ⟨nm_9, List.forall_mem_cons.mpr ⟨nm_10, List.forall_mem_cons.mpr ⟨nm_11, List.forall_mem_cons.mpr ⟨nm_12, List.forall_mem_cons.mpr ⟨nm_13, List.forall_mem_cons.mpr ⟨nm_14, List.forall_mem_cons.mpr ⟨nm_15, List.forall_mem_cons.mpr ⟨nm_16, List.forall_mem_cons.mpr ⟨nm_17, List.forall_mem_cons.mpr ⟨nm_18, List.forall_mem_cons.mpr ⟨nm_19, List.forall_mem_cons.mpr ⟨nm_20, List.forall_mem_cons.mpr ⟨nm_21, List.forall_mem_cons.mpr ⟨nm_22, List.forall_mem_cons.mpr ⟨nm_23, List.forall_mem_cons.mpr ⟨nm_24, List.forall_mem_cons.mpr ⟨nm_25, List.forall_mem_cons.mpr ⟨nm_26, List.forall_mem_cons.mpr ⟨nm_27, List.forall_mem_cons.mpr ⟨nm_28, List.forall_mem_cons.mpr ⟨nm_29, List.forall_mem_cons.mpr ⟨nm_30, List.forall_mem_cons.mpr ⟨nm_31, List.forall_mem_cons.mpr ⟨nm_32, List.forall_mem_cons.mpr ⟨nm_33, List.forall_mem_cons.mpr ⟨nm_34, List.forall_mem_cons.mpr ⟨nm_35, List.forall_mem_cons.mpr ⟨nm_36, List.forall_mem_cons.mpr ⟨nm_37, List.forall_mem_cons.mpr ⟨nm_38, List.forall_mem_cons.mpr ⟨nm_39, List.forall_mem_cons.mpr ⟨nm_40, List.forall_mem_cons.mpr ⟨nm_41, List.forall_mem_cons.mpr ⟨nm_42, List.forall_mem_cons.mpr ⟨nm_43, List.forall_mem_cons.mpr ⟨nm_44, List.forall_mem_cons.mpr ⟨nm_45, List.forall_mem_cons.mpr ⟨nm_46, List.forall_mem_cons.mpr ⟨nm_47, List.forall_mem_cons.mpr ⟨nm_48, List.forall_mem_cons.mpr ⟨nm_49, List.forall_mem_cons.mpr ⟨nm_50, List.forall_mem_cons.mpr ⟨nm_51, List.forall_mem_cons.mpr ⟨nm_52, List.forall_mem_cons.mpr ⟨nm_53, List.forall_mem_cons.mpr ⟨nm_54, List.forall_mem_cons.mpr ⟨nm_55, List.forall_mem_cons.mpr ⟨nm_56, List.forall_mem_cons.mpr ⟨nm_57, fun _ h => absurd h List.not_mem_nil⟩⟩⟩⟩⟩⟩⟩⟩⟩⟩⟩⟩⟩⟩⟩⟩⟩⟩⟩⟩⟩⟩⟩⟩⟩⟩⟩⟩⟩⟩⟩⟩⟩⟩⟩⟩⟩⟩⟩⟩⟩⟩⟩⟩⟩⟩⟩⟩⟩⟩⟩⟩⟩⟩⟩⟩⟩⟩
set_option maxRecDepth 100000 in
theorem nwF_in : ∀ x ∈ nwF, Cond.fieldLinkNest x.1 x.2.1 x.2.2.1 x.2.2.2.1 x.2.2.2.2.1 x.2.2.2.2.2 ∈ lw_tbl := List.forall_mem_cons.mpr ⟨nf_0, List.forall_mem_cons.mpr ⟨nf_1, List.forall_mem_cons.mpr ⟨nf_2, List.forall_mem_cons.mpr ⟨nf_3, List.forall_mem_cons.mpr ⟨nf_4, List.forall_mem_cons.mpr ⟨nf_5, List.forall_mem_cons.mpr ⟨nf_6, List.forall_mem_cons.mpr ⟨nf_7, List.forall_mem_cons.mpr ⟨nf_8, List.forall_mem_cons.mpr ⟨nf_9, List.forall_mem_cons.mpr ⟨nf_10, List.forall_mem_cons.mpr ⟨nf_11, List.forall_mem_cons.mpr ⟨nf_12, List.forall_mem_cons.mpr ⟨nf_13, List.forall_mem_cons.mpr ⟨nf_14, List.forall_mem_cons.mpr ⟨nf_15, List.forall_mem_cons.mpr ⟨nf_16, List.forall_mem_cons.mpr ⟨nf_17, List.forall_mem_cons.mpr ⟨nf_18, List.forall_mem_cons.mpr ⟨nf_19, List.forall_mem_cons.mpr ⟨nf_20, List.forall_mem_cons.mpr ⟨nf_21, List.forall_mem_cons.mpr ⟨nf_22, List.forall_mem_cons.mpr ⟨nf_23, List.forall_mem_cons.mpr ⟨nf_24, List.forall_mem_cons.mpr ⟨nf_25, List.forall_mem_cons.mpr ⟨nf_26, List.forall_mem_cons.mpr ⟨nf_27, fun _ h => absurd h List.not_mem_nil⟩⟩⟩⟩⟩⟩⟩⟩⟩⟩⟩⟩⟩⟩⟩⟩⟩⟩⟩⟩⟩⟩⟩⟩⟩⟩⟩⟩
theorem sr_0 : Cond.stringRef RX6 86 "num" ∈ lw_tbl := List.mem_append_right _ (List.mem_of_getElem? (i := 353) (by decide +kernel))
theorem sr_1 : Cond.stringRef RX6 88 "add" ∈ lw_tbl := List.mem_append_right _ (List.mem_of_getElem? (i := 354) (by decide +kernel))
theorem sr_2 : Cond.stringRef RX6 90 "sub" ∈ lw_tbl := List.mem_append_right _ (List.mem_of_getElem? (i := 355) (by decide +kernel))
theorem sr_3 : Cond.stringRef RX6 92 "mul" ∈ lw_tbl := List.mem_append_right _ (List.mem_of_getElem? (i := 356) (by decide +kernel))
theorem sr_4 : Cond.stringRef RX6 94 "pick" ∈ lw_tbl := List.mem_append_right _ (List.mem_of_getElem? (i := 357) (by decide +kernel))
theorem sr_5 : Cond.stringRef RX6 96 "sum" ∈ lw_tbl := List.mem_append_right _ (List.mem_of_getElem? (i := 358) (by decide +kernel))
theorem sr_6 : Cond.stringRef RX6 98 "most" ∈ lw_tbl := List.mem_append_right _ (List.mem_of_getElem? (i := 359) (by decide +kernel))
theorem sr_7 : Cond.stringRef RX6 100 "when" ∈ lw_tbl := List.mem_append_right _ (List.mem_of_getElem? (i := 360) (by decide +kernel))
theorem sr_in : ∀ i, i < 8 → Cond.stringRef RX6 (jsIx.getD i 0) (jsTx.getD i "") ∈ lw_tbl := fun i hi => by
  rcases (show i = 0 ∨ i = 1 ∨ i = 2 ∨ i = 3 ∨ i = 4 ∨ i = 5 ∨ i = 6 ∨ i = 7 by omega) with rfl | rfl | rfl | rfl | rfl | rfl | rfl | rfl
  · exact sr_0
  · exact sr_1
  · exact sr_2
  · exact sr_3
  · exact sr_4
  · exact sr_5
  · exact sr_6
  · exact sr_7
theorem ao_F : Cond.arrayOver (.object RX1) ∈ lw_tbl := List.mem_append_right _ (List.mem_of_getElem? (i := 170) (by decide +kernel))
theorem ao_R : Cond.arrayOver (.object RX4) ∈ lw_tbl := List.mem_append_right _ (List.mem_of_getElem? (i := 172) (by decide +kernel))
theorem ls_op : Cond.laysStatic RX7 "OPERANDS" "[I" ∈ lw_tbl := List.mem_append_right _ (List.mem_of_getElem? (i := 429) (by decide +kernel))
theorem ls_cs : Cond.laysStatic "java/lang/String" "COMPACT_STRINGS" "Z" ∈ lw_tbl := List.mem_append_right _ (List.mem_of_getElem? (i := 374) (by decide +kernel))
theorem ls_sf : Cond.laysStatic "jdk/internal/util/Preconditions" "SIOOBE_FORMATTER" "Ljava/util/function/BiFunction;" ∈ lw_tbl := List.mem_append_right _ (List.mem_of_getElem? (i := 390) (by decide +kernel))
theorem in_str : Cond.initialized "java/lang/String" ∈ lw_tbl := List.mem_append_right _ (List.mem_of_getElem? (i := 12) (by decide +kernel))
theorem in_pre : Cond.initialized "jdk/internal/util/Preconditions" ∈ lw_tbl := List.mem_append_right _ (List.mem_of_getElem? (i := 14) (by decide +kernel))
def fL : List Cond := flatC (Jvm.Cond.and given_1 narrow_1)
theorem fl_arr : Cond.arrayOf (.static RX7 "OPERANDS" "[I") .int ∈ fL := by decide +kernel
theorem fl_len : Cond.eq (.length (.static RX7 "OPERANDS" "[I")) (.int (Int32.ofNat 9)) ∈ fL := by decide +kernel
theorem fl_cs : Cond.eq (.static "java/lang/String" "COMPACT_STRINGS" "Z") (.int 1) ∈ fL := by decide +kernel
theorem fl_sf : Cond.isRef (.static "jdk/internal/util/Preconditions" "SIOOBE_FORMATTER" "Ljava/util/function/BiFunction;") ∈ fL := by decide +kernel
theorem fl_el : ∀ j, j < 9 → Cond.eq (.elem (.static RX7 "OPERANDS" "[I") (.int (Int32.ofNat j))) (.int (opT j)) ∈ fL := by decide +kernel
theorem fl_ex : ∀ i, i < 8 → Cond.exactly (.string RX6 (jsIx.getD i 0)) "java/lang/String" ∈ fL := by decide +kernel
theorem fl_co : ∀ i, i < 8 → Cond.eq (.field (.string RX6 (jsIx.getD i 0)) "java/lang/String" "coder" "B") (.int 0) ∈ fL := by decide +kernel
theorem fl_ar : ∀ i, i < 8 → Cond.arrayOf (.field (.string RX6 (jsIx.getD i 0)) "java/lang/String" "value" "[B") .byte ∈ fL := by decide +kernel
theorem fl_le : ∀ i, i < 8 → Cond.eq (.length (.field (.string RX6 (jsIx.getD i 0)) "java/lang/String" "value" "[B")) (.int (Int32.ofNat (jsLen.getD i 0))) ∈ fL := by decide +kernel
theorem fl_e2 : ∀ i, i < 8 → ∀ j, j < jsLen.getD i 0 → Cond.eq (.elem (.field (.string RX6 (jsIx.getD i 0)) "java/lang/String" "value" "[B") (.int (Int32.ofNat j))) (.int ((jsByt.getD i []).getD j 0)) ∈ fL := by decide +kernel
theorem fl_ne : ∀ i, i < 8 → ∀ j, j < 8 → i ≠ j → Cond.not (Cond.eq (.string RX6 (jsIx.getD i 0)) (.string RX6 (jsIx.getD j 0))) ∈ fL ∨ Cond.not (Cond.eq (.string RX6 (jsIx.getD j 0)) (.string RX6 (jsIx.getD i 0))) ∈ fL := by decide +kernel
theorem js_lt : ∀ i, i < 8 → jsLen.getD i 0 < 2 ^ 31 := by decide +kernel
set_option maxRecDepth 100000 in
set_option maxHeartbeats 4000000 in
theorem env_start (l : Launch) {s : State} {b : Nat} (hts : ∀ w ∈ lw_tbl, w.before #[Value.ref b] s = true) (hgv : (Jvm.Cond.and given_1 narrow_1).before #[Value.ref b] s = true) : ∃ X : Ev, eL X = l ∧ eb X = s.heap.size ∧ va_K (eD X) vwCl (eT X) s ∧ En X s ∧ va_AO RX1 s ∧ va_AO RX4 s := by
  have ha : ∀ w ∈ aW, w.before #[Value.ref b] s = true := fun w hw => hts w (List.mem_filter.mp hw).1
  have hf : ∀ c ∈ fL, c.before #[Value.ref b] s = true := flat_of_before _ hgv
  have hA : ∀ a : Nat, a < s.heap.size → ¬ (fun q : Nat => s.heap.size ≤ q) a := fun a h z => absurd h (Nat.not_lt.mpr z)
  obtain ⟨c0, i0, k0⟩ := u_known (C := RX0) (T := TX0) (N := 5) (n := 5) ha iwX0 (ha _ w_is_HeightSheet_Change)
  obtain ⟨c1, i1, k1⟩ := u_known (C := RX1) (T := TX1) (N := 1) (n := 1) ha iwX1 (ha _ w_is_HeightSheet_Formulas)
  obtain ⟨c2, i2, k2⟩ := u_known (C := RX2) (T := TX2) (N := 2) (n := 2) ha iwX2 (ha _ w_is_HeightSheet_History)
  obtain ⟨c3, i3, k3⟩ := u_known (C := RX3) (T := TX3) (N := 7) (n := 7) ha iwX3 (ha _ w_is_HeightSheet_Reckoning)
  obtain ⟨c4, i4, k4⟩ := u_known (C := RX4) (T := TX4) (N := 3) (n := 3) ha iwX4 (ha _ w_is_HeightSheet_Row)
  obtain ⟨c5, i5, k5⟩ := u_known (C := RX5) (T := TX5) (N := 6) (n := 6) ha iwX5 (ha _ w_is_HeightSheet_Tape)
  obtain ⟨c6, i6, k6⟩ := u_known (C := RX6) (T := TX6) (N := 3) (n := 3) ha iwX6 (ha _ w_is_HeightSheet_TextReader)
  obtain ⟨c7, i7, k7⟩ := u_known (C := RX7) (T := TX7) (N := 15) (n := 15) ha iwX7 (ha _ w_is_HeightSheet)
  obtain ⟨c8, i8, k8⟩ := u_known (C := RX8) (T := TX8) (N := 35) (n := 35) ha iwX8 (ha _ w_is_HeightSheetModel)
  obtain ⟨tI, uI, vI, aI1, aI2, aI3⟩ := Cond.arrayClass_spec (ha _ w_ac_int)
  obtain ⟨tB, uB, vB, aB1, aB2, aB3⟩ := Cond.arrayClass_spec (ha _ w_ac_byte)
  obtain ⟨tZ, uZ, vZ, aZ1, aZ2, aZ3⟩ := Cond.arrayClass_spec (ha _ w_ac_boolean)
  obtain ⟨vF, tF, uF, aF1, _, aF2, aF3, aF4⟩ := Cond.arrayOver_spec (hts _ ao_F)
  obtain ⟨vR, tR, uR, aR1, _, aR2, aR3, aR4⟩ := Cond.arrayOver_spec (hts _ ao_R)
  obtain ⟨t, ht, hT⟩ := va_Tof (f := fun j => .int (opT j)) (A := fun q : Nat => s.heap.size ≤ q) (show 9 < 2 ^ 31 by omega) (hf _ fl_arr) (va_eqt (hf _ fl_len)) (fun j hj => va_eqt (hf _ (fl_el j hj))) hA
  obtain ⟨aK, aV, hS, hK⟩ := vk_Sof (tm := fun i => .string RX6 (jsIx.getD i 0)) (len := jsLen) (byt := jsByt) (N := 8) (A := fun q : Nat => s.heap.size ≤ q) js_lt (fun i hi => hf _ (fl_ex i hi)) (fun i hi => hf _ (fl_co i hi)) (fun i hi => hf _ (fl_ar i hi)) (fun i hi => hf _ (fl_le i hi)) (fun i hi j hj => hf _ (fl_e2 i hi j hj)) (fun i j hi hj hn => (fl_ne i hi j hj hn).imp (hf _) (hf _)) hA
  refine ⟨(l, (fun k => [c0, c1, c2, c3, c4, c5, c6, c7, c8].getD k c0, fun k => [i0, i1, i2, i3, i4, i5, i6, i7, i8].getD k i0), (tI, tB, tZ, tF, tR), (s.heap.size, t), (aK, aV)), rfl, rfl, ⟨fun k q hq => ?_, fun k q hq => ?_⟩, ⟨fun x hx => va_Nw.of rfl (hts _ (nwM_in x hx)), fun x hx => va_Nw.of rfl (hts _ (nwF_in x hx)), va_Zref (hts _ ls_op) (ha _ w_in_HeightSheet) ht hA, hT, hS, fun i hi => vk_R.of (hts _ (sr_in i hi)) (hK i hi), va_Zof (hts _ ls_cs) (hts _ in_str) (va_eqi (hf _ fl_cs)) hA, va_Zqof (hts _ ls_sf) (hts _ in_pre) (hf _ fl_sf) hA⟩, va_AO.of (hts _ ao_F), va_AO.of (hts _ ao_R)⟩
  · match k, hq with
    | 0, hq => cases hq; exact k0
    | 1, hq => cases hq; exact k1
    | 2, hq => cases hq; exact k2
    | 3, hq => cases hq; exact k3
    | 4, hq => cases hq; exact k4
    | 5, hq => cases hq; exact k5
    | 6, hq => cases hq; exact k6
    | 7, hq => cases hq; exact k7
    | 8, hq => cases hq; exact k8
    | k + 9, hq => simp [vwCl] at hq
  · match k, hq with
    | 0, hq => cases hq; exact ⟨fun n z => ⟨fun k h => (by cases h), uI, aI2, vI, aI3⟩, aI1⟩
    | 1, hq => cases hq; exact ⟨fun n z => ⟨fun k h => (by cases h), uB, aB2, vB, aB3⟩, aB1⟩
    | 2, hq => cases hq; exact ⟨fun n z => ⟨fun k h => (by cases h), uZ, aZ2, vZ, aZ3⟩, aZ1⟩
    | 3, hq => cases hq; exact ⟨fun n z => ⟨fun k h => (by cases h), uF, aF2, vF, aF3⟩, uF, vF, aF2, aF3, aF1, aF4⟩
    | 4, hq => cases hq; exact ⟨fun n z => ⟨fun k h => (by cases h), uR, aR2, vR, aR3⟩, uR, vR, aR2, aR3, aR1, aR4⟩
    | k + 5, hq => simp [eT] at hq
