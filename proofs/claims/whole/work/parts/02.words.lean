/-! words of the tables -/
def aW : List Cond := lw_tbl.filter goodWord
theorem aW_good : GoodIn aW aW := fun _ h => ⟨h, good_of_word (List.mem_filter.mp h).2⟩
theorem iwX0 : ∀ w ∈ u_ws RX0 TX0 5, w ∈ aW := by
  have hh : (u_ws RX0 TX0 5).all (fun w => decide (w ∈ tables_1) && goodWord w) = true := by decide +kernel
  intro w h
  have h1 := List.all_eq_true.mp hh w h
  simp only [Bool.and_eq_true, decide_eq_true_eq] at h1
  exact List.mem_filter.mpr ⟨List.mem_append_right _ h1.1, h1.2⟩
theorem iwX1 : ∀ w ∈ u_ws RX1 TX1 1, w ∈ aW := by
  have hh : (u_ws RX1 TX1 1).all (fun w => decide (w ∈ tables_1) && goodWord w) = true := by decide +kernel
  intro w h
  have h1 := List.all_eq_true.mp hh w h
  simp only [Bool.and_eq_true, decide_eq_true_eq] at h1
  exact List.mem_filter.mpr ⟨List.mem_append_right _ h1.1, h1.2⟩
theorem iwX2 : ∀ w ∈ u_ws RX2 TX2 2, w ∈ aW := by
  have hh : (u_ws RX2 TX2 2).all (fun w => decide (w ∈ tables_1) && goodWord w) = true := by decide +kernel
  intro w h
  have h1 := List.all_eq_true.mp hh w h
  simp only [Bool.and_eq_true, decide_eq_true_eq] at h1
  exact List.mem_filter.mpr ⟨List.mem_append_right _ h1.1, h1.2⟩
theorem iwX3 : ∀ w ∈ u_ws RX3 TX3 7, w ∈ aW := by
  have hh : (u_ws RX3 TX3 7).all (fun w => decide (w ∈ tables_1) && goodWord w) = true := by decide +kernel
  intro w h
  have h1 := List.all_eq_true.mp hh w h
  simp only [Bool.and_eq_true, decide_eq_true_eq] at h1
  exact List.mem_filter.mpr ⟨List.mem_append_right _ h1.1, h1.2⟩
theorem iwX4 : ∀ w ∈ u_ws RX4 TX4 3, w ∈ aW := by
  have hh : (u_ws RX4 TX4 3).all (fun w => decide (w ∈ tables_1) && goodWord w) = true := by decide +kernel
  intro w h
  have h1 := List.all_eq_true.mp hh w h
  simp only [Bool.and_eq_true, decide_eq_true_eq] at h1
  exact List.mem_filter.mpr ⟨List.mem_append_right _ h1.1, h1.2⟩
theorem iwX5 : ∀ w ∈ u_ws RX5 TX5 6, w ∈ aW := by
  have hh : (u_ws RX5 TX5 6).all (fun w => decide (w ∈ tables_1) && goodWord w) = true := by decide +kernel
  intro w h
  have h1 := List.all_eq_true.mp hh w h
  simp only [Bool.and_eq_true, decide_eq_true_eq] at h1
  exact List.mem_filter.mpr ⟨List.mem_append_right _ h1.1, h1.2⟩
theorem iwX6 : ∀ w ∈ u_ws RX6 TX6 3, w ∈ aW := by
  have hh : (u_ws RX6 TX6 3).all (fun w => decide (w ∈ tables_1) && goodWord w) = true := by decide +kernel
  intro w h
  have h1 := List.all_eq_true.mp hh w h
  simp only [Bool.and_eq_true, decide_eq_true_eq] at h1
  exact List.mem_filter.mpr ⟨List.mem_append_right _ h1.1, h1.2⟩
theorem iwX7 : ∀ w ∈ u_ws RX7 TX7 15, w ∈ aW := by
  have hh : (u_ws RX7 TX7 15).all (fun w => decide (w ∈ tables_1) && goodWord w) = true := by decide +kernel
  intro w h
  have h1 := List.all_eq_true.mp hh w h
  simp only [Bool.and_eq_true, decide_eq_true_eq] at h1
  exact List.mem_filter.mpr ⟨List.mem_append_right _ h1.1, h1.2⟩
theorem iwX8 : ∀ w ∈ u_ws RX8 TX8 35, w ∈ aW := by
  have hh : (u_ws RX8 TX8 35).all (fun w => decide (w ∈ tables_1) && goodWord w) = true := by decide +kernel
  intro w h
  have h1 := List.all_eq_true.mp hh w h
  simp only [Bool.and_eq_true, decide_eq_true_eq] at h1
  exact List.mem_filter.mpr ⟨List.mem_append_right _ h1.1, h1.2⟩
theorem w_in_HeightSheetLaw : Cond.initialized RL ∈ aW := List.mem_filter.mpr ⟨List.mem_append_right _ (List.mem_of_getElem? (i := 0) (by decide +kernel)), by decide +kernel⟩
theorem w_in_HeightSheet : Cond.initialized RX7 ∈ aW := List.mem_filter.mpr ⟨List.mem_append_right _ (List.mem_of_getElem? (i := 1) (by decide +kernel)), by decide +kernel⟩
theorem w_in_HeightSheet_Tape : Cond.initialized RX5 ∈ aW := List.mem_filter.mpr ⟨List.mem_append_right _ (List.mem_of_getElem? (i := 2) (by decide +kernel)), by decide +kernel⟩
theorem w_in_HeightSheet_TextReader : Cond.initialized RX6 ∈ aW := List.mem_filter.mpr ⟨List.mem_append_right _ (List.mem_of_getElem? (i := 3) (by decide +kernel)), by decide +kernel⟩
theorem w_in_HeightSheet_Formulas : Cond.initialized RX1 ∈ aW := List.mem_filter.mpr ⟨List.mem_append_right _ (List.mem_of_getElem? (i := 4) (by decide +kernel)), by decide +kernel⟩
theorem w_in_HeightSheet_Reckoning : Cond.initialized RX3 ∈ aW := List.mem_filter.mpr ⟨List.mem_append_right _ (List.mem_of_getElem? (i := 5) (by decide +kernel)), by decide +kernel⟩
theorem w_in_HeightSheet_Change : Cond.initialized RX0 ∈ aW := List.mem_filter.mpr ⟨List.mem_append_right _ (List.mem_of_getElem? (i := 6) (by decide +kernel)), by decide +kernel⟩
theorem w_in_HeightSheet_History : Cond.initialized RX2 ∈ aW := List.mem_filter.mpr ⟨List.mem_append_right _ (List.mem_of_getElem? (i := 7) (by decide +kernel)), by decide +kernel⟩
theorem w_in_HeightSheet_Row : Cond.initialized RX4 ∈ aW := List.mem_filter.mpr ⟨List.mem_append_right _ (List.mem_of_getElem? (i := 8) (by decide +kernel)), by decide +kernel⟩
theorem w_in_java_util_Arrays : Cond.initialized RJ7 ∈ aW := List.mem_filter.mpr ⟨List.mem_append_right _ (List.mem_of_getElem? (i := 9) (by decide +kernel)), by decide +kernel⟩
theorem w_in_java_lang_Math : Cond.initialized RJ9 ∈ aW := List.mem_filter.mpr ⟨List.mem_append_right _ (List.mem_of_getElem? (i := 10) (by decide +kernel)), by decide +kernel⟩
theorem w_in_HeightSheetModel : Cond.initialized RX8 ∈ aW := List.mem_filter.mpr ⟨List.mem_append_right _ (List.mem_of_getElem? (i := 11) (by decide +kernel)), by decide +kernel⟩
theorem w_in_java_lang_String : Cond.initialized RJ0 ∈ aW := List.mem_filter.mpr ⟨List.mem_append_right _ (List.mem_of_getElem? (i := 12) (by decide +kernel)), by decide +kernel⟩
theorem w_in_java_lang_StringLatin1 : Cond.initialized RJ1 ∈ aW := List.mem_filter.mpr ⟨List.mem_append_right _ (List.mem_of_getElem? (i := 13) (by decide +kernel)), by decide +kernel⟩
theorem w_in_jdk_internal_util_Preconditions : Cond.initialized RJ3 ∈ aW := List.mem_filter.mpr ⟨List.mem_append_right _ (List.mem_of_getElem? (i := 14) (by decide +kernel)), by decide +kernel⟩
theorem w_in_java_lang_StringUTF16 : Cond.initialized RJ2 ∈ aW := List.mem_filter.mpr ⟨List.mem_append_right _ (List.mem_of_getElem? (i := 15) (by decide +kernel)), by decide +kernel⟩
theorem w_in_java_lang_System : Cond.initialized RJ10 ∈ aW := List.mem_filter.mpr ⟨List.mem_append_right _ (List.mem_of_getElem? (i := 16) (by decide +kernel)), by decide +kernel⟩
theorem w_in_java_lang_Integer : Cond.initialized RJ6 ∈ aW := List.mem_filter.mpr ⟨List.mem_append_right _ (List.mem_of_getElem? (i := 17) (by decide +kernel)), by decide +kernel⟩
theorem w_cl_L_7 : Cond.classLink RL 7 RX7 ∈ aW := List.mem_filter.mpr ⟨List.mem_append_right _ (List.mem_of_getElem? (i := 18) (by decide +kernel)), by decide +kernel⟩
theorem w_is_HeightSheet : Cond.instantiable RX7 15 ∈ aW := List.mem_filter.mpr ⟨List.mem_append_right _ (List.mem_of_getElem? (i := 19) (by decide +kernel)), by decide +kernel⟩
theorem w_ml_L_9 : Cond.methodLink RL 9 yX7_init ∈ aW := List.mem_filter.mpr ⟨List.mem_append_right _ (List.mem_of_getElem? (i := 20) (by decide +kernel)), by decide +kernel⟩
theorem w_im_X7_init : Cond.instanceMethod yX7_init ∈ aW := List.mem_filter.mpr ⟨List.mem_append_right _ (List.mem_of_getElem? (i := 21) (by decide +kernel)), by decide +kernel⟩
theorem w_cd_X7_init : Cond.code yX7_init cX7_init 2 (none) ∈ aW := List.mem_filter.mpr ⟨List.mem_append_right _ (List.mem_of_getElem? (i := 22) (by decide +kernel)), by decide +kernel⟩
theorem w_ml_X7_1 : Cond.methodLink RX7 1 objectInit ∈ aW := List.mem_filter.mpr ⟨List.mem_append_right _ (List.mem_of_getElem? (i := 23) (by decide +kernel)), by decide +kernel⟩
theorem w_im_objInit : Cond.instanceMethod objectInit ∈ aW := List.mem_filter.mpr ⟨List.mem_append_right _ (List.mem_of_getElem? (i := 24) (by decide +kernel)), by decide +kernel⟩
theorem w_cd_objInit : Cond.code objectInit ⟨#[0xb1]⟩ 1 none ∈ aW := List.mem_filter.mpr ⟨List.mem_append_right _ (List.mem_of_getElem? (i := 25) (by decide +kernel)), by decide +kernel⟩
theorem w_cl_X7_7 : Cond.classLink RX7 7 RX5 ∈ aW := List.mem_filter.mpr ⟨List.mem_append_right _ (List.mem_of_getElem? (i := 26) (by decide +kernel)), by decide +kernel⟩
theorem w_is_HeightSheet_Tape : Cond.instantiable RX5 6 ∈ aW := List.mem_filter.mpr ⟨List.mem_append_right _ (List.mem_of_getElem? (i := 27) (by decide +kernel)), by decide +kernel⟩
theorem w_im_X5_init : Cond.instanceMethod yX5_init ∈ aW := List.mem_filter.mpr ⟨List.mem_append_right _ (List.mem_of_getElem? (i := 29) (by decide +kernel)), by decide +kernel⟩
theorem w_cd_X5_init : Cond.code yX5_init cX5_init 1 (none) ∈ aW := List.mem_filter.mpr ⟨List.mem_append_right _ (List.mem_of_getElem? (i := 30) (by decide +kernel)), by decide +kernel⟩
theorem w_ml_X5_3 : Cond.methodLink RX5 3 objectInit ∈ aW := List.mem_filter.mpr ⟨List.mem_append_right _ (List.mem_of_getElem? (i := 31) (by decide +kernel)), by decide +kernel⟩
theorem w_fl_X5_9 : Cond.fieldLink RX5 9 "HeightSheet$Tape" "bytes" "[B" ∈ aW := List.mem_filter.mpr ⟨List.mem_append_right _ (List.mem_of_getElem? (i := 32) (by decide +kernel)), by decide +kernel⟩
theorem w_fl_X5_15 : Cond.fieldLink RX5 15 "HeightSheet$Tape" "size" "I" ∈ aW := List.mem_filter.mpr ⟨List.mem_append_right _ (List.mem_of_getElem? (i := 33) (by decide +kernel)), by decide +kernel⟩
theorem w_fl_X5_19 : Cond.fieldLink RX5 19 "HeightSheet$Tape" "at" "I" ∈ aW := List.mem_filter.mpr ⟨List.mem_append_right _ (List.mem_of_getElem? (i := 35) (by decide +kernel)), by decide +kernel⟩
theorem w_fl_X5_22 : Cond.fieldLink RX5 22 "HeightSheet$Tape" "start" "I" ∈ aW := List.mem_filter.mpr ⟨List.mem_append_right _ (List.mem_of_getElem? (i := 37) (by decide +kernel)), by decide +kernel⟩
theorem w_fl_X5_25 : Cond.fieldLink RX5 25 "HeightSheet$Tape" "token" "I" ∈ aW := List.mem_filter.mpr ⟨List.mem_append_right _ (List.mem_of_getElem? (i := 39) (by decide +kernel)), by decide +kernel⟩
theorem w_fl_X5_41 : Cond.fieldLink RX5 41 "HeightSheet$Tape" "number" "I" ∈ aW := List.mem_filter.mpr ⟨List.mem_append_right _ (List.mem_of_getElem? (i := 41) (by decide +kernel)), by decide +kernel⟩
theorem w_ac_byte : Cond.arrayClass .byte ∈ aW := List.mem_filter.mpr ⟨List.mem_append_right _ (List.mem_of_getElem? (i := 55) (by decide +kernel)), by decide +kernel⟩
theorem w_cl_X7_16 : Cond.classLink RX7 16 RX6 ∈ aW := List.mem_filter.mpr ⟨List.mem_append_right _ (List.mem_of_getElem? (i := 56) (by decide +kernel)), by decide +kernel⟩
theorem w_is_HeightSheet_TextReader : Cond.instantiable RX6 3 ∈ aW := List.mem_filter.mpr ⟨List.mem_append_right _ (List.mem_of_getElem? (i := 57) (by decide +kernel)), by decide +kernel⟩
theorem w_im_X6_init : Cond.instanceMethod yX6_init ∈ aW := List.mem_filter.mpr ⟨List.mem_append_right _ (List.mem_of_getElem? (i := 59) (by decide +kernel)), by decide +kernel⟩
theorem w_cd_X6_init : Cond.code yX6_init cX6_init 1 (none) ∈ aW := List.mem_filter.mpr ⟨List.mem_append_right _ (List.mem_of_getElem? (i := 60) (by decide +kernel)), by decide +kernel⟩
theorem w_ml_X6_3 : Cond.methodLink RX6 3 objectInit ∈ aW := List.mem_filter.mpr ⟨List.mem_append_right _ (List.mem_of_getElem? (i := 61) (by decide +kernel)), by decide +kernel⟩
theorem w_cl_X6_9 : Cond.classLink RX6 9 RX1 ∈ aW := List.mem_filter.mpr ⟨List.mem_append_right _ (List.mem_of_getElem? (i := 62) (by decide +kernel)), by decide +kernel⟩
theorem w_is_HeightSheet_Formulas : Cond.instantiable RX1 1 ∈ aW := List.mem_filter.mpr ⟨List.mem_append_right _ (List.mem_of_getElem? (i := 63) (by decide +kernel)), by decide +kernel⟩
theorem w_im_X1_init : Cond.instanceMethod yX1_init ∈ aW := List.mem_filter.mpr ⟨List.mem_append_right _ (List.mem_of_getElem? (i := 65) (by decide +kernel)), by decide +kernel⟩
theorem w_cd_X1_init : Cond.code yX1_init cX1_init 1 (none) ∈ aW := List.mem_filter.mpr ⟨List.mem_append_right _ (List.mem_of_getElem? (i := 66) (by decide +kernel)), by decide +kernel⟩
theorem w_ml_X1_3 : Cond.methodLink RX1 3 objectInit ∈ aW := List.mem_filter.mpr ⟨List.mem_append_right _ (List.mem_of_getElem? (i := 67) (by decide +kernel)), by decide +kernel⟩
theorem w_fl_X1_9 : Cond.fieldLink RX1 9 "HeightSheet$Formulas" "parts" "[I" ∈ aW := List.mem_filter.mpr ⟨List.mem_append_right _ (List.mem_of_getElem? (i := 68) (by decide +kernel)), by decide +kernel⟩
theorem w_ac_int : Cond.arrayClass .int ∈ aW := List.mem_filter.mpr ⟨List.mem_append_right _ (List.mem_of_getElem? (i := 72) (by decide +kernel)), by decide +kernel⟩
theorem w_fl_X6_12 : Cond.fieldLink RX6 12 "HeightSheet$TextReader" "draft" "LHeightSheet$Formulas;" ∈ aW := List.mem_filter.mpr ⟨List.mem_append_right _ (List.mem_of_getElem? (i := 73) (by decide +kernel)), by decide +kernel⟩
theorem w_fl_X6_21 : Cond.fieldLink RX6 21 "HeightSheet$TextReader" "lines" "I" ∈ aW := List.mem_filter.mpr ⟨List.mem_append_right _ (List.mem_of_getElem? (i := 75) (by decide +kernel)), by decide +kernel⟩
theorem w_fl_X6_25 : Cond.fieldLink RX6 25 "HeightSheet$TextReader" "fault" "I" ∈ aW := List.mem_filter.mpr ⟨List.mem_append_right _ (List.mem_of_getElem? (i := 77) (by decide +kernel)), by decide +kernel⟩
theorem w_cl_X7_23 : Cond.classLink RX7 23 RX1 ∈ aW := List.mem_filter.mpr ⟨List.mem_append_right _ (List.mem_of_getElem? (i := 86) (by decide +kernel)), by decide +kernel⟩
theorem w_cl_X7_30 : Cond.classLink RX7 30 RX3 ∈ aW := List.mem_filter.mpr ⟨List.mem_append_right _ (List.mem_of_getElem? (i := 88) (by decide +kernel)), by decide +kernel⟩
theorem w_is_HeightSheet_Reckoning : Cond.instantiable RX3 7 ∈ aW := List.mem_filter.mpr ⟨List.mem_append_right _ (List.mem_of_getElem? (i := 89) (by decide +kernel)), by decide +kernel⟩
theorem w_im_X3_init : Cond.instanceMethod yX3_init ∈ aW := List.mem_filter.mpr ⟨List.mem_append_right _ (List.mem_of_getElem? (i := 91) (by decide +kernel)), by decide +kernel⟩
theorem w_cd_X3_init : Cond.code yX3_init cX3_init 1 (none) ∈ aW := List.mem_filter.mpr ⟨List.mem_append_right _ (List.mem_of_getElem? (i := 92) (by decide +kernel)), by decide +kernel⟩
theorem w_ml_X3_3 : Cond.methodLink RX3 3 objectInit ∈ aW := List.mem_filter.mpr ⟨List.mem_append_right _ (List.mem_of_getElem? (i := 93) (by decide +kernel)), by decide +kernel⟩
theorem w_fl_X3_9 : Cond.fieldLink RX3 9 "HeightSheet$Reckoning" "values" "[I" ∈ aW := List.mem_filter.mpr ⟨List.mem_append_right _ (List.mem_of_getElem? (i := 94) (by decide +kernel)), by decide +kernel⟩
theorem w_fl_X3_15 : Cond.fieldLink RX3 15 "HeightSheet$Reckoning" "heights" "[I" ∈ aW := List.mem_filter.mpr ⟨List.mem_append_right _ (List.mem_of_getElem? (i := 96) (by decide +kernel)), by decide +kernel⟩
theorem w_fl_X3_18 : Cond.fieldLink RX3 18 "HeightSheet$Reckoning" "readBits" "[I" ∈ aW := List.mem_filter.mpr ⟨List.mem_append_right _ (List.mem_of_getElem? (i := 98) (by decide +kernel)), by decide +kernel⟩
theorem w_fl_X3_21 : Cond.fieldLink RX3 21 "HeightSheet$Reckoning" "waitsFor" "[I" ∈ aW := List.mem_filter.mpr ⟨List.mem_append_right _ (List.mem_of_getElem? (i := 100) (by decide +kernel)), by decide +kernel⟩
theorem w_fl_X3_30 : Cond.fieldLink RX3 30 "HeightSheet$Reckoning" "known" "I" ∈ aW := List.mem_filter.mpr ⟨List.mem_append_right _ (List.mem_of_getElem? (i := 102) (by decide +kernel)), by decide +kernel⟩
theorem w_fl_X3_83 : Cond.fieldLink RX3 83 "HeightSheet$Reckoning" "circular" "I" ∈ aW := List.mem_filter.mpr ⟨List.mem_append_right _ (List.mem_of_getElem? (i := 105) (by decide +kernel)), by decide +kernel⟩
theorem w_fl_X3_86 : Cond.fieldLink RX3 86 "HeightSheet$Reckoning" "circles" "I" ∈ aW := List.mem_filter.mpr ⟨List.mem_append_right _ (List.mem_of_getElem? (i := 107) (by decide +kernel)), by decide +kernel⟩
theorem w_cl_X7_40 : Cond.classLink RX7 40 RX0 ∈ aW := List.mem_filter.mpr ⟨List.mem_append_right _ (List.mem_of_getElem? (i := 123) (by decide +kernel)), by decide +kernel⟩
theorem w_is_HeightSheet_Change : Cond.instantiable RX0 5 ∈ aW := List.mem_filter.mpr ⟨List.mem_append_right _ (List.mem_of_getElem? (i := 124) (by decide +kernel)), by decide +kernel⟩
theorem w_im_X0_init : Cond.instanceMethod yX0_init ∈ aW := List.mem_filter.mpr ⟨List.mem_append_right _ (List.mem_of_getElem? (i := 126) (by decide +kernel)), by decide +kernel⟩
theorem w_cd_X0_init : Cond.code yX0_init cX0_init 1 (none) ∈ aW := List.mem_filter.mpr ⟨List.mem_append_right _ (List.mem_of_getElem? (i := 127) (by decide +kernel)), by decide +kernel⟩
theorem w_ml_X0_3 : Cond.methodLink RX0 3 objectInit ∈ aW := List.mem_filter.mpr ⟨List.mem_append_right _ (List.mem_of_getElem? (i := 128) (by decide +kernel)), by decide +kernel⟩
theorem w_fl_X0_9 : Cond.fieldLink RX0 9 "HeightSheet$Change" "cell" "I" ∈ aW := List.mem_filter.mpr ⟨List.mem_append_right _ (List.mem_of_getElem? (i := 129) (by decide +kernel)), by decide +kernel⟩
theorem w_fl_X0_15 : Cond.fieldLink RX0 15 "HeightSheet$Change" "kind" "I" ∈ aW := List.mem_filter.mpr ⟨List.mem_append_right _ (List.mem_of_getElem? (i := 133) (by decide +kernel)), by decide +kernel⟩
theorem w_fl_X0_18 : Cond.fieldLink RX0 18 "HeightSheet$Change" "p" "I" ∈ aW := List.mem_filter.mpr ⟨List.mem_append_right _ (List.mem_of_getElem? (i := 136) (by decide +kernel)), by decide +kernel⟩
theorem w_fl_X0_21 : Cond.fieldLink RX0 21 "HeightSheet$Change" "q" "I" ∈ aW := List.mem_filter.mpr ⟨List.mem_append_right _ (List.mem_of_getElem? (i := 139) (by decide +kernel)), by decide +kernel⟩
theorem w_fl_X0_24 : Cond.fieldLink RX0 24 "HeightSheet$Change" "\x72" "I" ∈ aW := List.mem_filter.mpr ⟨List.mem_append_right _ (List.mem_of_getElem? (i := 142) (by decide +kernel)), by decide +kernel⟩
theorem w_cl_X7_50 : Cond.classLink RX7 50 RX2 ∈ aW := List.mem_filter.mpr ⟨List.mem_append_right _ (List.mem_of_getElem? (i := 156) (by decide +kernel)), by decide +kernel⟩
theorem w_is_HeightSheet_History : Cond.instantiable RX2 2 ∈ aW := List.mem_filter.mpr ⟨List.mem_append_right _ (List.mem_of_getElem? (i := 157) (by decide +kernel)), by decide +kernel⟩
theorem w_im_X2_init : Cond.instanceMethod yX2_init ∈ aW := List.mem_filter.mpr ⟨List.mem_append_right _ (List.mem_of_getElem? (i := 159) (by decide +kernel)), by decide +kernel⟩
theorem w_cd_X2_init : Cond.code yX2_init cX2_init 1 (none) ∈ aW := List.mem_filter.mpr ⟨List.mem_append_right _ (List.mem_of_getElem? (i := 160) (by decide +kernel)), by decide +kernel⟩
theorem w_ml_X2_3 : Cond.methodLink RX2 3 objectInit ∈ aW := List.mem_filter.mpr ⟨List.mem_append_right _ (List.mem_of_getElem? (i := 161) (by decide +kernel)), by decide +kernel⟩
theorem w_fl_X2_9 : Cond.fieldLink RX2 9 "HeightSheet$History" "entries" "[I" ∈ aW := List.mem_filter.mpr ⟨List.mem_append_right _ (List.mem_of_getElem? (i := 162) (by decide +kernel)), by decide +kernel⟩
theorem w_fl_X2_15 : Cond.fieldLink RX2 15 "HeightSheet$History" "size" "I" ∈ aW := List.mem_filter.mpr ⟨List.mem_append_right _ (List.mem_of_getElem? (i := 163) (by decide +kernel)), by decide +kernel⟩
theorem w_cl_X7_65 : Cond.classLink RX7 65 RX4 ∈ aW := List.mem_filter.mpr ⟨List.mem_append_right _ (List.mem_of_getElem? (i := 171) (by decide +kernel)), by decide +kernel⟩
theorem w_is_HeightSheet_Row : Cond.instantiable RX4 3 ∈ aW := List.mem_filter.mpr ⟨List.mem_append_right _ (List.mem_of_getElem? (i := 173) (by decide +kernel)), by decide +kernel⟩
theorem w_im_X4_init : Cond.instanceMethod yX4_init ∈ aW := List.mem_filter.mpr ⟨List.mem_append_right _ (List.mem_of_getElem? (i := 175) (by decide +kernel)), by decide +kernel⟩
theorem w_cd_X4_init : Cond.code yX4_init cX4_init 1 (none) ∈ aW := List.mem_filter.mpr ⟨List.mem_append_right _ (List.mem_of_getElem? (i := 176) (by decide +kernel)), by decide +kernel⟩
theorem w_ml_X4_3 : Cond.methodLink RX4 3 objectInit ∈ aW := List.mem_filter.mpr ⟨List.mem_append_right _ (List.mem_of_getElem? (i := 177) (by decide +kernel)), by decide +kernel⟩
theorem w_fl_X4_9 : Cond.fieldLink RX4 9 "HeightSheet$Row" "items" "[I" ∈ aW := List.mem_filter.mpr ⟨List.mem_append_right _ (List.mem_of_getElem? (i := 178) (by decide +kernel)), by decide +kernel⟩
theorem w_fl_X4_15 : Cond.fieldLink RX4 15 "HeightSheet$Row" "lane" "I" ∈ aW := List.mem_filter.mpr ⟨List.mem_append_right _ (List.mem_of_getElem? (i := 179) (by decide +kernel)), by decide +kernel⟩
theorem w_fl_X4_25 : Cond.fieldLink RX4 25 "HeightSheet$Row" "size" "I" ∈ aW := List.mem_filter.mpr ⟨List.mem_append_right _ (List.mem_of_getElem? (i := 181) (by decide +kernel)), by decide +kernel⟩
theorem w_ac_boolean : Cond.arrayClass .boolean ∈ aW := List.mem_filter.mpr ⟨List.mem_append_right _ (List.mem_of_getElem? (i := 190) (by decide +kernel)), by decide +kernel⟩
theorem w_im_X3_reckon : Cond.instanceMethod yX3_reckon ∈ aW := List.mem_filter.mpr ⟨List.mem_append_right _ (List.mem_of_getElem? (i := 193) (by decide +kernel)), by decide +kernel⟩
theorem w_cd_X3_reckon : Cond.code yX3_reckon cX3_reckon 6 (none) ∈ aW := List.mem_filter.mpr ⟨List.mem_append_right _ (List.mem_of_getElem? (i := 194) (by decide +kernel)), by decide +kernel⟩
theorem w_ml_X3_24 : Cond.methodLink RX3 24 yJ7_fill_53178 ∈ aW := List.mem_filter.mpr ⟨List.mem_append_right _ (List.mem_of_getElem? (i := 195) (by decide +kernel)), by decide +kernel⟩
theorem w_st_J7_fill_53178 : Cond.static yJ7_fill_53178 ∈ aW := List.mem_filter.mpr ⟨List.mem_append_right _ (List.mem_of_getElem? (i := 196) (by decide +kernel)), by decide +kernel⟩
theorem w_cd_J7_fill_53178 : Cond.code yJ7_fill_53178 cJ7_fill_53178 4 (none) ∈ aW := List.mem_filter.mpr ⟨List.mem_append_right _ (List.mem_of_getElem? (i := 197) (by decide +kernel)), by decide +kernel⟩
theorem w_st_X7_has : Cond.static yX7_has ∈ aW := List.mem_filter.mpr ⟨List.mem_append_right _ (List.mem_of_getElem? (i := 199) (by decide +kernel)), by decide +kernel⟩
theorem w_cd_X7_has : Cond.code yX7_has cX7_has 2 ((some .boolean)) ∈ aW := List.mem_filter.mpr ⟨List.mem_append_right _ (List.mem_of_getElem? (i := 200) (by decide +kernel)), by decide +kernel⟩
theorem w_ml_X3_38 : Cond.methodLink RX3 38 yX3_tryCell ∈ aW := List.mem_filter.mpr ⟨List.mem_append_right _ (List.mem_of_getElem? (i := 201) (by decide +kernel)), by decide +kernel⟩
theorem w_im_X3_tryCell : Cond.instanceMethod yX3_tryCell ∈ aW := List.mem_filter.mpr ⟨List.mem_append_right _ (List.mem_of_getElem? (i := 203) (by decide +kernel)), by decide +kernel⟩
theorem w_cd_X3_tryCell : Cond.code yX3_tryCell cX3_tryCell 5 (none) ∈ aW := List.mem_filter.mpr ⟨List.mem_append_right _ (List.mem_of_getElem? (i := 204) (by decide +kernel)), by decide +kernel⟩
theorem w_im_X1_part : Cond.instanceMethod yX1_part ∈ aW := List.mem_filter.mpr ⟨List.mem_append_right _ (List.mem_of_getElem? (i := 207) (by decide +kernel)), by decide +kernel⟩
theorem w_cd_X1_part : Cond.code yX1_part cX1_part 3 ((some .int)) ∈ aW := List.mem_filter.mpr ⟨List.mem_append_right _ (List.mem_of_getElem? (i := 208) (by decide +kernel)), by decide +kernel⟩
theorem w_ml_X3_51 : Cond.methodLink RX3 51 yX3_settle ∈ aW := List.mem_filter.mpr ⟨List.mem_append_right _ (List.mem_of_getElem? (i := 209) (by decide +kernel)), by decide +kernel⟩
theorem w_im_X3_settle : Cond.instanceMethod yX3_settle ∈ aW := List.mem_filter.mpr ⟨List.mem_append_right _ (List.mem_of_getElem? (i := 211) (by decide +kernel)), by decide +kernel⟩
theorem w_cd_X3_settle : Cond.code yX3_settle cX3_settle 3 (none) ∈ aW := List.mem_filter.mpr ⟨List.mem_append_right _ (List.mem_of_getElem? (i := 212) (by decide +kernel)), by decide +kernel⟩
theorem w_st_X7_bit : Cond.static yX7_bit ∈ aW := List.mem_filter.mpr ⟨List.mem_append_right _ (List.mem_of_getElem? (i := 214) (by decide +kernel)), by decide +kernel⟩
theorem w_cd_X7_bit : Cond.code yX7_bit cX7_bit 1 ((some .int)) ∈ aW := List.mem_filter.mpr ⟨List.mem_append_right _ (List.mem_of_getElem? (i := 215) (by decide +kernel)), by decide +kernel⟩
theorem w_ml_X3_55 : Cond.methodLink RX3 55 yX3_takes ∈ aW := List.mem_filter.mpr ⟨List.mem_append_right _ (List.mem_of_getElem? (i := 216) (by decide +kernel)), by decide +kernel⟩
theorem w_im_X3_takes : Cond.instanceMethod yX3_takes ∈ aW := List.mem_filter.mpr ⟨List.mem_append_right _ (List.mem_of_getElem? (i := 218) (by decide +kernel)), by decide +kernel⟩
theorem w_cd_X3_takes : Cond.code yX3_takes cX3_takes 3 ((some .boolean)) ∈ aW := List.mem_filter.mpr ⟨List.mem_append_right _ (List.mem_of_getElem? (i := 219) (by decide +kernel)), by decide +kernel⟩
theorem w_ml_X3_76 : Cond.methodLink RX3 76 Lib.Math.max.name ∈ aW := List.mem_filter.mpr ⟨List.mem_append_right _ (List.mem_of_getElem? (i := 220) (by decide +kernel)), by decide +kernel⟩
theorem w_st_max : Cond.static Lib.Math.max.name ∈ aW := List.mem_filter.mpr ⟨List.mem_append_right _ (List.mem_of_getElem? (i := 221) (by decide +kernel)), by decide +kernel⟩
theorem w_cd_max : Cond.code Lib.Math.max.name Lib.Math.max.code 2 (some .int) ∈ aW := List.mem_filter.mpr ⟨List.mem_append_right _ (List.mem_of_getElem? (i := 222) (by decide +kernel)), by decide +kernel⟩
theorem w_ml_X3_58 : Cond.methodLink RX3 58 yJ9_floorMod_7cf53 ∈ aW := List.mem_filter.mpr ⟨List.mem_append_right _ (List.mem_of_getElem? (i := 223) (by decide +kernel)), by decide +kernel⟩
theorem w_st_J9_floorMod_7cf53 : Cond.static yJ9_floorMod_7cf53 ∈ aW := List.mem_filter.mpr ⟨List.mem_append_right _ (List.mem_of_getElem? (i := 224) (by decide +kernel)), by decide +kernel⟩
theorem w_cd_J9_floorMod_7cf53 : Cond.code yJ9_floorMod_7cf53 cJ9_floorMod_7cf53 3 ((some .int)) ∈ aW := List.mem_filter.mpr ⟨List.mem_append_right _ (List.mem_of_getElem? (i := 225) (by decide +kernel)), by decide +kernel⟩
theorem w_ml_X3_63 : Cond.methodLink RX3 63 yX3_settleAs ∈ aW := List.mem_filter.mpr ⟨List.mem_append_right _ (List.mem_of_getElem? (i := 226) (by decide +kernel)), by decide +kernel⟩
theorem w_im_X3_settleAs : Cond.instanceMethod yX3_settleAs ∈ aW := List.mem_filter.mpr ⟨List.mem_append_right _ (List.mem_of_getElem? (i := 228) (by decide +kernel)), by decide +kernel⟩
theorem w_cd_X3_settleAs : Cond.code yX3_settleAs cX3_settleAs 3 (none) ∈ aW := List.mem_filter.mpr ⟨List.mem_append_right _ (List.mem_of_getElem? (i := 229) (by decide +kernel)), by decide +kernel⟩
theorem w_ml_X3_66 : Cond.methodLink RX3 66 yX3_trySpan ∈ aW := List.mem_filter.mpr ⟨List.mem_append_right _ (List.mem_of_getElem? (i := 230) (by decide +kernel)), by decide +kernel⟩
theorem w_im_X3_trySpan : Cond.instanceMethod yX3_trySpan ∈ aW := List.mem_filter.mpr ⟨List.mem_append_right _ (List.mem_of_getElem? (i := 232) (by decide +kernel)), by decide +kernel⟩
theorem w_cd_X3_trySpan : Cond.code yX3_trySpan cX3_trySpan 8 (none) ∈ aW := List.mem_filter.mpr ⟨List.mem_append_right _ (List.mem_of_getElem? (i := 233) (by decide +kernel)), by decide +kernel⟩
theorem w_co_X3_75 : Cond.constant RX3 75 (-2147483648) ∈ aW := List.mem_filter.mpr ⟨List.mem_append_right _ (List.mem_of_getElem? (i := 234) (by decide +kernel)), by decide +kernel⟩
theorem w_ml_X3_70 : Cond.methodLink RX3 70 yX3_tryTwo ∈ aW := List.mem_filter.mpr ⟨List.mem_append_right _ (List.mem_of_getElem? (i := 235) (by decide +kernel)), by decide +kernel⟩
theorem w_im_X3_tryTwo : Cond.instanceMethod yX3_tryTwo ∈ aW := List.mem_filter.mpr ⟨List.mem_append_right _ (List.mem_of_getElem? (i := 237) (by decide +kernel)), by decide +kernel⟩
theorem w_cd_X3_tryTwo : Cond.code yX3_tryTwo cX3_tryTwo 5 (none) ∈ aW := List.mem_filter.mpr ⟨List.mem_append_right _ (List.mem_of_getElem? (i := 238) (by decide +kernel)), by decide +kernel⟩
theorem w_ml_X3_42 : Cond.methodLink RX3 42 yX3_findCircles ∈ aW := List.mem_filter.mpr ⟨List.mem_append_right _ (List.mem_of_getElem? (i := 239) (by decide +kernel)), by decide +kernel⟩
theorem w_im_X3_findCircles : Cond.instanceMethod yX3_findCircles ∈ aW := List.mem_filter.mpr ⟨List.mem_append_right _ (List.mem_of_getElem? (i := 241) (by decide +kernel)), by decide +kernel⟩
theorem w_cd_X3_findCircles : Cond.code yX3_findCircles cX3_findCircles 3 (none) ∈ aW := List.mem_filter.mpr ⟨List.mem_append_right _ (List.mem_of_getElem? (i := 242) (by decide +kernel)), by decide +kernel⟩
theorem w_ml_X3_89 : Cond.methodLink RX3 89 yX3_leastOfCircle ∈ aW := List.mem_filter.mpr ⟨List.mem_append_right _ (List.mem_of_getElem? (i := 243) (by decide +kernel)), by decide +kernel⟩
theorem w_im_X3_leastOfCircle : Cond.instanceMethod yX3_leastOfCircle ∈ aW := List.mem_filter.mpr ⟨List.mem_append_right _ (List.mem_of_getElem? (i := 245) (by decide +kernel)), by decide +kernel⟩
theorem w_cd_X3_leastOfCircle : Cond.code yX3_leastOfCircle cX3_leastOfCircle 5 ((some .int)) ∈ aW := List.mem_filter.mpr ⟨List.mem_append_right _ (List.mem_of_getElem? (i := 246) (by decide +kernel)), by decide +kernel⟩
theorem w_ml_X3_92 : Cond.methodLink RX3 92 Lib.Math.min.name ∈ aW := List.mem_filter.mpr ⟨List.mem_append_right _ (List.mem_of_getElem? (i := 247) (by decide +kernel)), by decide +kernel⟩
theorem w_st_min : Cond.static Lib.Math.min.name ∈ aW := List.mem_filter.mpr ⟨List.mem_append_right _ (List.mem_of_getElem? (i := 248) (by decide +kernel)), by decide +kernel⟩
theorem w_cd_min : Cond.code Lib.Math.min.name Lib.Math.min.code 2 (some .int) ∈ aW := List.mem_filter.mpr ⟨List.mem_append_right _ (List.mem_of_getElem? (i := 249) (by decide +kernel)), by decide +kernel⟩
theorem w_fl_X7_10 : Cond.fieldLink RX7 10 "HeightSheet" "tape" "LHeightSheet$Tape;" ∈ aW := List.mem_filter.mpr ⟨List.mem_append_right _ (List.mem_of_getElem? (i := 250) (by decide +kernel)), by decide +kernel⟩
theorem w_fl_X7_19 : Cond.fieldLink RX7 19 "HeightSheet" "reading" "LHeightSheet$TextReader;" ∈ aW := List.mem_filter.mpr ⟨List.mem_append_right _ (List.mem_of_getElem? (i := 251) (by decide +kernel)), by decide +kernel⟩
theorem w_fl_X7_26 : Cond.fieldLink RX7 26 "HeightSheet" "formulas" "LHeightSheet$Formulas;" ∈ aW := List.mem_filter.mpr ⟨List.mem_append_right _ (List.mem_of_getElem? (i := 252) (by decide +kernel)), by decide +kernel⟩
theorem w_fl_X7_33 : Cond.fieldLink RX7 33 "HeightSheet" "now" "LHeightSheet$Reckoning;" ∈ aW := List.mem_filter.mpr ⟨List.mem_append_right _ (List.mem_of_getElem? (i := 253) (by decide +kernel)), by decide +kernel⟩
theorem w_fl_X7_37 : Cond.fieldLink RX7 37 "HeightSheet" "next" "LHeightSheet$Reckoning;" ∈ aW := List.mem_filter.mpr ⟨List.mem_append_right _ (List.mem_of_getElem? (i := 254) (by decide +kernel)), by decide +kernel⟩
theorem w_fl_X7_43 : Cond.fieldLink RX7 43 "HeightSheet" "asked" "LHeightSheet$Change;" ∈ aW := List.mem_filter.mpr ⟨List.mem_append_right _ (List.mem_of_getElem? (i := 255) (by decide +kernel)), by decide +kernel⟩
theorem w_fl_X7_47 : Cond.fieldLink RX7 47 "HeightSheet" "former" "LHeightSheet$Change;" ∈ aW := List.mem_filter.mpr ⟨List.mem_append_right _ (List.mem_of_getElem? (i := 256) (by decide +kernel)), by decide +kernel⟩
theorem w_fl_X7_53 : Cond.fieldLink RX7 53 "HeightSheet" "history" "LHeightSheet$History;" ∈ aW := List.mem_filter.mpr ⟨List.mem_append_right _ (List.mem_of_getElem? (i := 257) (by decide +kernel)), by decide +kernel⟩
theorem w_fl_X7_57 : Cond.fieldLink RX7 57 "HeightSheet" "images" "[LHeightSheet$Formulas;" ∈ aW := List.mem_filter.mpr ⟨List.mem_append_right _ (List.mem_of_getElem? (i := 258) (by decide +kernel)), by decide +kernel⟩
theorem w_fl_X7_61 : Cond.fieldLink RX7 61 "HeightSheet" "isKept" "[Z" ∈ aW := List.mem_filter.mpr ⟨List.mem_append_right _ (List.mem_of_getElem? (i := 259) (by decide +kernel)), by decide +kernel⟩
theorem w_fl_X7_67 : Cond.fieldLink RX7 67 "HeightSheet" "rows" "[LHeightSheet$Row;" ∈ aW := List.mem_filter.mpr ⟨List.mem_append_right _ (List.mem_of_getElem? (i := 260) (by decide +kernel)), by decide +kernel⟩
theorem w_fl_X7_204 : Cond.fieldLink RX7 204 "HeightSheet" "wasChanged" "Z" ∈ aW := List.mem_filter.mpr ⟨List.mem_append_right _ (List.mem_of_getElem? (i := 261) (by decide +kernel)), by decide +kernel⟩
theorem w_fl_X7_208 : Cond.fieldLink RX7 208 "HeightSheet" "evaluated" "I" ∈ aW := List.mem_filter.mpr ⟨List.mem_append_right _ (List.mem_of_getElem? (i := 262) (by decide +kernel)), by decide +kernel⟩
theorem w_fl_X7_211 : Cond.fieldLink RX7 211 "HeightSheet" "moved" "I" ∈ aW := List.mem_filter.mpr ⟨List.mem_append_right _ (List.mem_of_getElem? (i := 263) (by decide +kernel)), by decide +kernel⟩
theorem w_fl_X7_250 : Cond.fieldLink RX7 250 "HeightSheet" "tornBy" "I" ∈ aW := List.mem_filter.mpr ⟨List.mem_append_right _ (List.mem_of_getElem? (i := 264) (by decide +kernel)), by decide +kernel⟩
theorem w_ml_L_13 : Cond.methodLink RL 13 yX7_feed ∈ aW := List.mem_filter.mpr ⟨List.mem_append_right _ (List.mem_of_getElem? (i := 296) (by decide +kernel)), by decide +kernel⟩
theorem w_im_X7_feed : Cond.instanceMethod yX7_feed ∈ aW := List.mem_filter.mpr ⟨List.mem_append_right _ (List.mem_of_getElem? (i := 297) (by decide +kernel)), by decide +kernel⟩
theorem w_sel_X7_feed : Cond.selects RX7 yX7_feed yX7_feed ∈ aW := List.mem_filter.mpr ⟨List.mem_append_right _ (List.mem_of_getElem? (i := 298) (by decide +kernel)), by decide +kernel⟩
theorem w_cd_X7_feed : Cond.code yX7_feed cX7_feed 2 ((some .int)) ∈ aW := List.mem_filter.mpr ⟨List.mem_append_right _ (List.mem_of_getElem? (i := 299) (by decide +kernel)), by decide +kernel⟩
theorem w_im_X5_append : Cond.instanceMethod yX5_append ∈ aW := List.mem_filter.mpr ⟨List.mem_append_right _ (List.mem_of_getElem? (i := 302) (by decide +kernel)), by decide +kernel⟩
theorem w_cd_X5_append : Cond.code yX5_append cX5_append 2 (none) ∈ aW := List.mem_filter.mpr ⟨List.mem_append_right _ (List.mem_of_getElem? (i := 303) (by decide +kernel)), by decide +kernel⟩
theorem w_ml_L_18 : Cond.methodLink RL 18 yX7_end ∈ aW := List.mem_filter.mpr ⟨List.mem_append_right _ (List.mem_of_getElem? (i := 304) (by decide +kernel)), by decide +kernel⟩
theorem w_im_X7_end : Cond.instanceMethod yX7_end ∈ aW := List.mem_filter.mpr ⟨List.mem_append_right _ (List.mem_of_getElem? (i := 305) (by decide +kernel)), by decide +kernel⟩
theorem w_sel_X7_end : Cond.selects RX7 yX7_end yX7_end ∈ aW := List.mem_filter.mpr ⟨List.mem_append_right _ (List.mem_of_getElem? (i := 306) (by decide +kernel)), by decide +kernel⟩
theorem w_cd_X7_end : Cond.code yX7_end cX7_end 3 ((some .int)) ∈ aW := List.mem_filter.mpr ⟨List.mem_append_right _ (List.mem_of_getElem? (i := 307) (by decide +kernel)), by decide +kernel⟩
theorem w_ml_L_22 : Cond.methodLink RL 22 yX7_text ∈ aW := List.mem_filter.mpr ⟨List.mem_append_right _ (List.mem_of_getElem? (i := 308) (by decide +kernel)), by decide +kernel⟩
theorem w_im_X7_text : Cond.instanceMethod yX7_text ∈ aW := List.mem_filter.mpr ⟨List.mem_append_right _ (List.mem_of_getElem? (i := 309) (by decide +kernel)), by decide +kernel⟩
theorem w_sel_X7_text : Cond.selects RX7 yX7_text yX7_text ∈ aW := List.mem_filter.mpr ⟨List.mem_append_right _ (List.mem_of_getElem? (i := 310) (by decide +kernel)), by decide +kernel⟩
theorem w_cd_X7_text : Cond.code yX7_text cX7_text 3 ((some .int)) ∈ aW := List.mem_filter.mpr ⟨List.mem_append_right _ (List.mem_of_getElem? (i := 311) (by decide +kernel)), by decide +kernel⟩
theorem w_im_X6_takesAll : Cond.instanceMethod yX6_takesAll ∈ aW := List.mem_filter.mpr ⟨List.mem_append_right _ (List.mem_of_getElem? (i := 314) (by decide +kernel)), by decide +kernel⟩
theorem w_cd_X6_takesAll : Cond.code yX6_takesAll cX6_takesAll 2 ((some .boolean)) ∈ aW := List.mem_filter.mpr ⟨List.mem_append_right _ (List.mem_of_getElem? (i := 315) (by decide +kernel)), by decide +kernel⟩
theorem w_im_X1_clear : Cond.instanceMethod yX1_clear ∈ aW := List.mem_filter.mpr ⟨List.mem_append_right _ (List.mem_of_getElem? (i := 318) (by decide +kernel)), by decide +kernel⟩
theorem w_cd_X1_clear : Cond.code yX1_clear cX1_clear 1 (none) ∈ aW := List.mem_filter.mpr ⟨List.mem_append_right _ (List.mem_of_getElem? (i := 319) (by decide +kernel)), by decide +kernel⟩
theorem w_ml_X1_15 : Cond.methodLink RX1 15 yJ7_fill_53178 ∈ aW := List.mem_filter.mpr ⟨List.mem_append_right _ (List.mem_of_getElem? (i := 320) (by decide +kernel)), by decide +kernel⟩
theorem w_im_X5_rewind : Cond.instanceMethod yX5_rewind ∈ aW := List.mem_filter.mpr ⟨List.mem_append_right _ (List.mem_of_getElem? (i := 323) (by decide +kernel)), by decide +kernel⟩
theorem w_cd_X5_rewind : Cond.code yX5_rewind cX5_rewind 1 (none) ∈ aW := List.mem_filter.mpr ⟨List.mem_append_right _ (List.mem_of_getElem? (i := 324) (by decide +kernel)), by decide +kernel⟩
theorem w_im_X5_nextToken : Cond.instanceMethod yX5_nextToken ∈ aW := List.mem_filter.mpr ⟨List.mem_append_right _ (List.mem_of_getElem? (i := 327) (by decide +kernel)), by decide +kernel⟩
theorem w_cd_X5_nextToken : Cond.code yX5_nextToken cX5_nextToken 1 (none) ∈ aW := List.mem_filter.mpr ⟨List.mem_append_right _ (List.mem_of_getElem? (i := 328) (by decide +kernel)), by decide +kernel⟩
theorem w_ml_X5_28 : Cond.methodLink RX5 28 yX5_isLetter ∈ aW := List.mem_filter.mpr ⟨List.mem_append_right _ (List.mem_of_getElem? (i := 329) (by decide +kernel)), by decide +kernel⟩
theorem w_st_X5_isLetter : Cond.static yX5_isLetter ∈ aW := List.mem_filter.mpr ⟨List.mem_append_right _ (List.mem_of_getElem? (i := 330) (by decide +kernel)), by decide +kernel⟩
theorem w_cd_X5_isLetter : Cond.code yX5_isLetter cX5_isLetter 1 ((some .boolean)) ∈ aW := List.mem_filter.mpr ⟨List.mem_append_right _ (List.mem_of_getElem? (i := 331) (by decide +kernel)), by decide +kernel⟩
theorem w_ml_X5_32 : Cond.methodLink RX5 32 yX5_takeName ∈ aW := List.mem_filter.mpr ⟨List.mem_append_right _ (List.mem_of_getElem? (i := 332) (by decide +kernel)), by decide +kernel⟩
theorem w_im_X5_takeName : Cond.instanceMethod yX5_takeName ∈ aW := List.mem_filter.mpr ⟨List.mem_append_right _ (List.mem_of_getElem? (i := 334) (by decide +kernel)), by decide +kernel⟩
theorem w_cd_X5_takeName : Cond.code yX5_takeName cX5_takeName 1 (none) ∈ aW := List.mem_filter.mpr ⟨List.mem_append_right _ (List.mem_of_getElem? (i := 335) (by decide +kernel)), by decide +kernel⟩
theorem w_ml_X5_35 : Cond.methodLink RX5 35 yX5_isFigure ∈ aW := List.mem_filter.mpr ⟨List.mem_append_right _ (List.mem_of_getElem? (i := 336) (by decide +kernel)), by decide +kernel⟩
theorem w_st_X5_isFigure : Cond.static yX5_isFigure ∈ aW := List.mem_filter.mpr ⟨List.mem_append_right _ (List.mem_of_getElem? (i := 337) (by decide +kernel)), by decide +kernel⟩
theorem w_cd_X5_isFigure : Cond.code yX5_isFigure cX5_isFigure 1 ((some .boolean)) ∈ aW := List.mem_filter.mpr ⟨List.mem_append_right _ (List.mem_of_getElem? (i := 338) (by decide +kernel)), by decide +kernel⟩
theorem w_ml_X5_38 : Cond.methodLink RX5 38 yX5_takeNumber ∈ aW := List.mem_filter.mpr ⟨List.mem_append_right _ (List.mem_of_getElem? (i := 339) (by decide +kernel)), by decide +kernel⟩
theorem w_im_X5_takeNumber : Cond.instanceMethod yX5_takeNumber ∈ aW := List.mem_filter.mpr ⟨List.mem_append_right _ (List.mem_of_getElem? (i := 341) (by decide +kernel)), by decide +kernel⟩
theorem w_cd_X5_takeNumber : Cond.code yX5_takeNumber cX5_takeNumber 1 (none) ∈ aW := List.mem_filter.mpr ⟨List.mem_append_right _ (List.mem_of_getElem? (i := 342) (by decide +kernel)), by decide +kernel⟩
theorem w_ml_X6_39 : Cond.methodLink RX6 39 yX6_takesLine ∈ aW := List.mem_filter.mpr ⟨List.mem_append_right _ (List.mem_of_getElem? (i := 343) (by decide +kernel)), by decide +kernel⟩
theorem w_im_X6_takesLine : Cond.instanceMethod yX6_takesLine ∈ aW := List.mem_filter.mpr ⟨List.mem_append_right _ (List.mem_of_getElem? (i := 345) (by decide +kernel)), by decide +kernel⟩
theorem w_cd_X6_takesLine : Cond.code yX6_takesLine cX6_takesLine 8 ((some .boolean)) ∈ aW := List.mem_filter.mpr ⟨List.mem_append_right _ (List.mem_of_getElem? (i := 346) (by decide +kernel)), by decide +kernel⟩
theorem w_ml_X6_43 : Cond.methodLink RX6 43 yX6_kindTold ∈ aW := List.mem_filter.mpr ⟨List.mem_append_right _ (List.mem_of_getElem? (i := 347) (by decide +kernel)), by decide +kernel⟩
theorem w_st_X6_kindTold : Cond.static yX6_kindTold ∈ aW := List.mem_filter.mpr ⟨List.mem_append_right _ (List.mem_of_getElem? (i := 348) (by decide +kernel)), by decide +kernel⟩
theorem w_cd_X6_kindTold : Cond.code yX6_kindTold cX6_kindTold 2 ((some .int)) ∈ aW := List.mem_filter.mpr ⟨List.mem_append_right _ (List.mem_of_getElem? (i := 349) (by decide +kernel)), by decide +kernel⟩
theorem w_ml_X6_78 : Cond.methodLink RX6 78 yX6_wordOf ∈ aW := List.mem_filter.mpr ⟨List.mem_append_right _ (List.mem_of_getElem? (i := 350) (by decide +kernel)), by decide +kernel⟩
theorem w_st_X6_wordOf : Cond.static yX6_wordOf ∈ aW := List.mem_filter.mpr ⟨List.mem_append_right _ (List.mem_of_getElem? (i := 351) (by decide +kernel)), by decide +kernel⟩
theorem w_cd_X6_wordOf : Cond.code yX6_wordOf cX6_wordOf 1 ((some (.object "java/lang/String"))) ∈ aW := List.mem_filter.mpr ⟨List.mem_append_right _ (List.mem_of_getElem? (i := 352) (by decide +kernel)), by decide +kernel⟩
theorem w_im_X5_isWord : Cond.instanceMethod yX5_isWord ∈ aW := List.mem_filter.mpr ⟨List.mem_append_right _ (List.mem_of_getElem? (i := 363) (by decide +kernel)), by decide +kernel⟩
theorem w_cd_X5_isWord : Cond.code yX5_isWord cX5_isWord 3 ((some .boolean)) ∈ aW := List.mem_filter.mpr ⟨List.mem_append_right _ (List.mem_of_getElem? (i := 364) (by decide +kernel)), by decide +kernel⟩
theorem w_ml_X5_44 : Cond.methodLink RX5 44 yJ0_length_8abf5 ∈ aW := List.mem_filter.mpr ⟨List.mem_append_right _ (List.mem_of_getElem? (i := 365) (by decide +kernel)), by decide +kernel⟩
theorem w_im_J0_length_8abf5 : Cond.instanceMethod yJ0_length_8abf5 ∈ aW := List.mem_filter.mpr ⟨List.mem_append_right _ (List.mem_of_getElem? (i := 366) (by decide +kernel)), by decide +kernel⟩
theorem w_sel_J0_length_8abf5 : Cond.selects RJ0 yJ0_length_8abf5 yJ0_length_8abf5 ∈ aW := List.mem_filter.mpr ⟨List.mem_append_right _ (List.mem_of_getElem? (i := 367) (by decide +kernel)), by decide +kernel⟩
theorem w_cd_J0_length_8abf5 : Cond.code yJ0_length_8abf5 cJ0_length_8abf5 1 ((some .int)) ∈ aW := List.mem_filter.mpr ⟨List.mem_append_right _ (List.mem_of_getElem? (i := 368) (by decide +kernel)), by decide +kernel⟩
theorem w_ml_J0_335 : Cond.methodLink RJ0 335 yJ0_coder_7d493 ∈ aW := List.mem_filter.mpr ⟨List.mem_append_right _ (List.mem_of_getElem? (i := 369) (by decide +kernel)), by decide +kernel⟩
theorem w_im_J0_coder_7d493 : Cond.instanceMethod yJ0_coder_7d493 ∈ aW := List.mem_filter.mpr ⟨List.mem_append_right _ (List.mem_of_getElem? (i := 370) (by decide +kernel)), by decide +kernel⟩
theorem w_sel_J0_coder_7d493 : Cond.selects RJ0 yJ0_coder_7d493 yJ0_coder_7d493 ∈ aW := List.mem_filter.mpr ⟨List.mem_append_right _ (List.mem_of_getElem? (i := 371) (by decide +kernel)), by decide +kernel⟩
theorem w_cd_J0_coder_7d493 : Cond.code yJ0_coder_7d493 cJ0_coder_7d493 1 ((some .byte)) ∈ aW := List.mem_filter.mpr ⟨List.mem_append_right _ (List.mem_of_getElem? (i := 372) (by decide +kernel)), by decide +kernel⟩
theorem w_fl_J0_38 : Cond.fieldLink RJ0 38 "java/lang/String" "COMPACT_STRINGS" "Z" ∈ aW := List.mem_filter.mpr ⟨List.mem_append_right _ (List.mem_of_getElem? (i := 373) (by decide +kernel)), by decide +kernel⟩
theorem w_ml_X5_50 : Cond.methodLink RX5 50 yJ0_charAt_5068e ∈ aW := List.mem_filter.mpr ⟨List.mem_append_right _ (List.mem_of_getElem? (i := 375) (by decide +kernel)), by decide +kernel⟩
theorem w_im_J0_charAt_5068e : Cond.instanceMethod yJ0_charAt_5068e ∈ aW := List.mem_filter.mpr ⟨List.mem_append_right _ (List.mem_of_getElem? (i := 376) (by decide +kernel)), by decide +kernel⟩
theorem w_sel_J0_charAt_5068e : Cond.selects RJ0 yJ0_charAt_5068e yJ0_charAt_5068e ∈ aW := List.mem_filter.mpr ⟨List.mem_append_right _ (List.mem_of_getElem? (i := 377) (by decide +kernel)), by decide +kernel⟩
theorem w_cd_J0_charAt_5068e : Cond.code yJ0_charAt_5068e cJ0_charAt_5068e 2 ((some .char)) ∈ aW := List.mem_filter.mpr ⟨List.mem_append_right _ (List.mem_of_getElem? (i := 378) (by decide +kernel)), by decide +kernel⟩
theorem w_ml_J0_492 : Cond.methodLink RJ0 492 yJ0_isLatin1_aae02 ∈ aW := List.mem_filter.mpr ⟨List.mem_append_right _ (List.mem_of_getElem? (i := 379) (by decide +kernel)), by decide +kernel⟩
theorem w_im_J0_isLatin1_aae02 : Cond.instanceMethod yJ0_isLatin1_aae02 ∈ aW := List.mem_filter.mpr ⟨List.mem_append_right _ (List.mem_of_getElem? (i := 380) (by decide +kernel)), by decide +kernel⟩
theorem w_sel_J0_isLatin1_aae02 : Cond.selects RJ0 yJ0_isLatin1_aae02 yJ0_isLatin1_aae02 ∈ aW := List.mem_filter.mpr ⟨List.mem_append_right _ (List.mem_of_getElem? (i := 381) (by decide +kernel)), by decide +kernel⟩
theorem w_cd_J0_isLatin1_aae02 : Cond.code yJ0_isLatin1_aae02 cJ0_isLatin1_aae02 1 ((some .boolean)) ∈ aW := List.mem_filter.mpr ⟨List.mem_append_right _ (List.mem_of_getElem? (i := 382) (by decide +kernel)), by decide +kernel⟩
theorem w_ml_J0_495 : Cond.methodLink RJ0 495 yJ1_charAt_3b067 ∈ aW := List.mem_filter.mpr ⟨List.mem_append_right _ (List.mem_of_getElem? (i := 383) (by decide +kernel)), by decide +kernel⟩
theorem w_st_J1_charAt_3b067 : Cond.static yJ1_charAt_3b067 ∈ aW := List.mem_filter.mpr ⟨List.mem_append_right _ (List.mem_of_getElem? (i := 384) (by decide +kernel)), by decide +kernel⟩
theorem w_cd_J1_charAt_3b067 : Cond.code yJ1_charAt_3b067 cJ1_charAt_3b067 2 ((some .char)) ∈ aW := List.mem_filter.mpr ⟨List.mem_append_right _ (List.mem_of_getElem? (i := 385) (by decide +kernel)), by decide +kernel⟩
theorem w_ml_J1_9 : Cond.methodLink RJ1 9 yJ0_checkIndex_df160 ∈ aW := List.mem_filter.mpr ⟨List.mem_append_right _ (List.mem_of_getElem? (i := 386) (by decide +kernel)), by decide +kernel⟩
theorem w_st_J0_checkIndex_df160 : Cond.static yJ0_checkIndex_df160 ∈ aW := List.mem_filter.mpr ⟨List.mem_append_right _ (List.mem_of_getElem? (i := 387) (by decide +kernel)), by decide +kernel⟩
theorem w_cd_J0_checkIndex_df160 : Cond.code yJ0_checkIndex_df160 cJ0_checkIndex_df160 2 (none) ∈ aW := List.mem_filter.mpr ⟨List.mem_append_right _ (List.mem_of_getElem? (i := 388) (by decide +kernel)), by decide +kernel⟩
theorem w_fl_J0_1053 : Cond.fieldLink RJ0 1053 "jdk/internal/util/Preconditions" "SIOOBE_FORMATTER" "Ljava/util/function/BiFunction;" ∈ aW := List.mem_filter.mpr ⟨List.mem_append_right _ (List.mem_of_getElem? (i := 389) (by decide +kernel)), by decide +kernel⟩
theorem w_ml_J0_1059 : Cond.methodLink RJ0 1059 yJ3_checkIndex_8e157 ∈ aW := List.mem_filter.mpr ⟨List.mem_append_right _ (List.mem_of_getElem? (i := 391) (by decide +kernel)), by decide +kernel⟩
theorem w_st_J3_checkIndex_8e157 : Cond.static yJ3_checkIndex_8e157 ∈ aW := List.mem_filter.mpr ⟨List.mem_append_right _ (List.mem_of_getElem? (i := 392) (by decide +kernel)), by decide +kernel⟩
theorem w_cd_J3_checkIndex_8e157 : Cond.code yJ3_checkIndex_8e157 cJ3_checkIndex_8e157 3 ((some .int)) ∈ aW := List.mem_filter.mpr ⟨List.mem_append_right _ (List.mem_of_getElem? (i := 393) (by decide +kernel)), by decide +kernel⟩
theorem w_ml_J0_498 : Cond.methodLink RJ0 498 yJ2_charAt_3b067 ∈ aW := List.mem_filter.mpr ⟨List.mem_append_right _ (List.mem_of_getElem? (i := 394) (by decide +kernel)), by decide +kernel⟩
theorem w_st_J2_charAt_3b067 : Cond.static yJ2_charAt_3b067 ∈ aW := List.mem_filter.mpr ⟨List.mem_append_right _ (List.mem_of_getElem? (i := 395) (by decide +kernel)), by decide +kernel⟩
theorem w_cd_J2_charAt_3b067 : Cond.code yJ2_charAt_3b067 cJ2_charAt_3b067 2 ((some .char)) ∈ aW := List.mem_filter.mpr ⟨List.mem_append_right _ (List.mem_of_getElem? (i := 396) (by decide +kernel)), by decide +kernel⟩
theorem w_ml_J2_67 : Cond.methodLink RJ2 67 yJ2_checkIndex_2214a ∈ aW := List.mem_filter.mpr ⟨List.mem_append_right _ (List.mem_of_getElem? (i := 397) (by decide +kernel)), by decide +kernel⟩
theorem w_st_J2_checkIndex_2214a : Cond.static yJ2_checkIndex_2214a ∈ aW := List.mem_filter.mpr ⟨List.mem_append_right _ (List.mem_of_getElem? (i := 398) (by decide +kernel)), by decide +kernel⟩
theorem w_cd_J2_checkIndex_2214a : Cond.code yJ2_checkIndex_2214a cJ2_checkIndex_2214a 2 (none) ∈ aW := List.mem_filter.mpr ⟨List.mem_append_right _ (List.mem_of_getElem? (i := 399) (by decide +kernel)), by decide +kernel⟩
theorem w_ml_J2_48 : Cond.methodLink RJ2 48 yJ2_length_9d52b ∈ aW := List.mem_filter.mpr ⟨List.mem_append_right _ (List.mem_of_getElem? (i := 400) (by decide +kernel)), by decide +kernel⟩
theorem w_st_J2_length_9d52b : Cond.static yJ2_length_9d52b ∈ aW := List.mem_filter.mpr ⟨List.mem_append_right _ (List.mem_of_getElem? (i := 401) (by decide +kernel)), by decide +kernel⟩
theorem w_cd_J2_length_9d52b : Cond.code yJ2_length_9d52b cJ2_length_9d52b 1 ((some .int)) ∈ aW := List.mem_filter.mpr ⟨List.mem_append_right _ (List.mem_of_getElem? (i := 402) (by decide +kernel)), by decide +kernel⟩
theorem w_ml_J2_414 : Cond.methodLink RJ2 414 yJ0_checkIndex_df160 ∈ aW := List.mem_filter.mpr ⟨List.mem_append_right _ (List.mem_of_getElem? (i := 403) (by decide +kernel)), by decide +kernel⟩
theorem w_ml_J2_71 : Cond.methodLink RJ2 71 yJ2_getChar_3b067 ∈ aW := List.mem_filter.mpr ⟨List.mem_append_right _ (List.mem_of_getElem? (i := 404) (by decide +kernel)), by decide +kernel⟩
theorem w_st_J2_getChar_3b067 : Cond.static yJ2_getChar_3b067 ∈ aW := List.mem_filter.mpr ⟨List.mem_append_right _ (List.mem_of_getElem? (i := 405) (by decide +kernel)), by decide +kernel⟩
theorem w_cd_J2_getChar_3b067 : Cond.code yJ2_getChar_3b067 cJ2_getChar_3b067 2 ((some .char)) ∈ aW := List.mem_filter.mpr ⟨List.mem_append_right _ (List.mem_of_getElem? (i := 406) (by decide +kernel)), by decide +kernel⟩
theorem w_fl_J2_44 : Cond.fieldLink RJ2 44 "java/lang/StringUTF16" "$assertionsDisabled" "Z" ∈ aW := List.mem_filter.mpr ⟨List.mem_append_right _ (List.mem_of_getElem? (i := 407) (by decide +kernel)), by decide +kernel⟩
theorem w_fl_J2_59 : Cond.fieldLink RJ2 59 "java/lang/StringUTF16" "HI_BYTE_SHIFT" "I" ∈ aW := List.mem_filter.mpr ⟨List.mem_append_right _ (List.mem_of_getElem? (i := 409) (by decide +kernel)), by decide +kernel⟩
theorem w_fl_J2_63 : Cond.fieldLink RJ2 63 "java/lang/StringUTF16" "LO_BYTE_SHIFT" "I" ∈ aW := List.mem_filter.mpr ⟨List.mem_append_right _ (List.mem_of_getElem? (i := 411) (by decide +kernel)), by decide +kernel⟩
theorem w_ml_X6_47 : Cond.methodLink RX6 47 yX6_fails ∈ aW := List.mem_filter.mpr ⟨List.mem_append_right _ (List.mem_of_getElem? (i := 413) (by decide +kernel)), by decide +kernel⟩
theorem w_im_X6_fails : Cond.instanceMethod yX6_fails ∈ aW := List.mem_filter.mpr ⟨List.mem_append_right _ (List.mem_of_getElem? (i := 415) (by decide +kernel)), by decide +kernel⟩
theorem w_cd_X6_fails : Cond.code yX6_fails cX6_fails 3 ((some .boolean)) ∈ aW := List.mem_filter.mpr ⟨List.mem_append_right _ (List.mem_of_getElem? (i := 416) (by decide +kernel)), by decide +kernel⟩
theorem w_ml_X6_51 : Cond.methodLink RX6 51 yX6_takesNumber ∈ aW := List.mem_filter.mpr ⟨List.mem_append_right _ (List.mem_of_getElem? (i := 417) (by decide +kernel)), by decide +kernel⟩
theorem w_im_X6_takesNumber : Cond.instanceMethod yX6_takesNumber ∈ aW := List.mem_filter.mpr ⟨List.mem_append_right _ (List.mem_of_getElem? (i := 419) (by decide +kernel)), by decide +kernel⟩
theorem w_cd_X6_takesNumber : Cond.code yX6_takesNumber cX6_takesNumber 4 ((some .boolean)) ∈ aW := List.mem_filter.mpr ⟨List.mem_append_right _ (List.mem_of_getElem? (i := 420) (by decide +kernel)), by decide +kernel⟩
theorem w_im_X1_begin : Cond.instanceMethod yX1_begin ∈ aW := List.mem_filter.mpr ⟨List.mem_append_right _ (List.mem_of_getElem? (i := 423) (by decide +kernel)), by decide +kernel⟩
theorem w_cd_X1_begin : Cond.code yX1_begin cX1_begin 3 (none) ∈ aW := List.mem_filter.mpr ⟨List.mem_append_right _ (List.mem_of_getElem? (i := 424) (by decide +kernel)), by decide +kernel⟩
theorem w_st_X7_operandsOf : Cond.static yX7_operandsOf ∈ aW := List.mem_filter.mpr ⟨List.mem_append_right _ (List.mem_of_getElem? (i := 426) (by decide +kernel)), by decide +kernel⟩
theorem w_cd_X7_operandsOf : Cond.code yX7_operandsOf cX7_operandsOf 1 ((some .int)) ∈ aW := List.mem_filter.mpr ⟨List.mem_append_right _ (List.mem_of_getElem? (i := 427) (by decide +kernel)), by decide +kernel⟩
theorem w_fl_X7_287 : Cond.fieldLink RX7 287 "HeightSheet" "OPERANDS" "[I" ∈ aW := List.mem_filter.mpr ⟨List.mem_append_right _ (List.mem_of_getElem? (i := 428) (by decide +kernel)), by decide +kernel⟩
theorem w_st_X7_isSpan : Cond.static yX7_isSpan ∈ aW := List.mem_filter.mpr ⟨List.mem_append_right _ (List.mem_of_getElem? (i := 431) (by decide +kernel)), by decide +kernel⟩
theorem w_cd_X7_isSpan : Cond.code yX7_isSpan cX7_isSpan 1 ((some .boolean)) ∈ aW := List.mem_filter.mpr ⟨List.mem_append_right _ (List.mem_of_getElem? (i := 432) (by decide +kernel)), by decide +kernel⟩
theorem w_im_X1_setOperand : Cond.instanceMethod yX1_setOperand ∈ aW := List.mem_filter.mpr ⟨List.mem_append_right _ (List.mem_of_getElem? (i := 436) (by decide +kernel)), by decide +kernel⟩
theorem w_cd_X1_setOperand : Cond.code yX1_setOperand cX1_setOperand 4 (none) ∈ aW := List.mem_filter.mpr ⟨List.mem_append_right _ (List.mem_of_getElem? (i := 437) (by decide +kernel)), by decide +kernel⟩
theorem w_ml_X7_94 : Cond.methodLink RX7 94 yX7_beginWith ∈ aW := List.mem_filter.mpr ⟨List.mem_append_right _ (List.mem_of_getElem? (i := 438) (by decide +kernel)), by decide +kernel⟩
theorem w_im_X7_beginWith : Cond.instanceMethod yX7_beginWith ∈ aW := List.mem_filter.mpr ⟨List.mem_append_right _ (List.mem_of_getElem? (i := 440) (by decide +kernel)), by decide +kernel⟩
theorem w_cd_X7_beginWith : Cond.code yX7_beginWith cX7_beginWith 2 (none) ∈ aW := List.mem_filter.mpr ⟨List.mem_append_right _ (List.mem_of_getElem? (i := 441) (by decide +kernel)), by decide +kernel⟩
theorem w_im_X1_become : Cond.instanceMethod yX1_become ∈ aW := List.mem_filter.mpr ⟨List.mem_append_right _ (List.mem_of_getElem? (i := 444) (by decide +kernel)), by decide +kernel⟩
theorem w_cd_X1_become : Cond.code yX1_become cX1_become 2 (none) ∈ aW := List.mem_filter.mpr ⟨List.mem_append_right _ (List.mem_of_getElem? (i := 445) (by decide +kernel)), by decide +kernel⟩
theorem w_ml_X1_21 : Cond.methodLink RX1 21 arraycopyName ∈ aW := List.mem_filter.mpr ⟨List.mem_append_right _ (List.mem_of_getElem? (i := 446) (by decide +kernel)), by decide +kernel⟩
theorem w_st_arraycopy : Cond.static arraycopyName ∈ aW := List.mem_filter.mpr ⟨List.mem_append_right _ (List.mem_of_getElem? (i := 447) (by decide +kernel)), by decide +kernel⟩
theorem w_na_arraycopy : Cond.native arraycopyName ∈ aW := List.mem_filter.mpr ⟨List.mem_append_right _ (List.mem_of_getElem? (i := 448) (by decide +kernel)), by decide +kernel⟩
theorem w_im_X2_clear : Cond.instanceMethod yX2_clear ∈ aW := List.mem_filter.mpr ⟨List.mem_append_right _ (List.mem_of_getElem? (i := 451) (by decide +kernel)), by decide +kernel⟩
theorem w_cd_X2_clear : Cond.code yX2_clear cX2_clear 1 (none) ∈ aW := List.mem_filter.mpr ⟨List.mem_append_right _ (List.mem_of_getElem? (i := 452) (by decide +kernel)), by decide +kernel⟩
theorem w_ml_L_27 : Cond.methodLink RL 27 yX7_fault ∈ aW := List.mem_filter.mpr ⟨List.mem_append_right _ (List.mem_of_getElem? (i := 453) (by decide +kernel)), by decide +kernel⟩
theorem w_im_X7_fault : Cond.instanceMethod yX7_fault ∈ aW := List.mem_filter.mpr ⟨List.mem_append_right _ (List.mem_of_getElem? (i := 454) (by decide +kernel)), by decide +kernel⟩
theorem w_sel_X7_fault : Cond.selects RX7 yX7_fault yX7_fault ∈ aW := List.mem_filter.mpr ⟨List.mem_append_right _ (List.mem_of_getElem? (i := 455) (by decide +kernel)), by decide +kernel⟩
theorem w_cd_X7_fault : Cond.code yX7_fault cX7_fault 1 ((some .int)) ∈ aW := List.mem_filter.mpr ⟨List.mem_append_right _ (List.mem_of_getElem? (i := 456) (by decide +kernel)), by decide +kernel⟩
theorem w_ml_L_31 : Cond.methodLink RL 31 yX7_rule ∈ aW := List.mem_filter.mpr ⟨List.mem_append_right _ (List.mem_of_getElem? (i := 457) (by decide +kernel)), by decide +kernel⟩
theorem w_im_X7_rule : Cond.instanceMethod yX7_rule ∈ aW := List.mem_filter.mpr ⟨List.mem_append_right _ (List.mem_of_getElem? (i := 458) (by decide +kernel)), by decide +kernel⟩
theorem w_sel_X7_rule : Cond.selects RX7 yX7_rule yX7_rule ∈ aW := List.mem_filter.mpr ⟨List.mem_append_right _ (List.mem_of_getElem? (i := 459) (by decide +kernel)), by decide +kernel⟩
theorem w_cd_X7_rule : Cond.code yX7_rule cX7_rule 2 ((some .int)) ∈ aW := List.mem_filter.mpr ⟨List.mem_append_right _ (List.mem_of_getElem? (i := 460) (by decide +kernel)), by decide +kernel⟩
theorem w_im_X1_countTold : Cond.instanceMethod yX1_countTold ∈ aW := List.mem_filter.mpr ⟨List.mem_append_right _ (List.mem_of_getElem? (i := 463) (by decide +kernel)), by decide +kernel⟩
theorem w_cd_X1_countTold : Cond.code yX1_countTold cX1_countTold 3 ((some .int)) ∈ aW := List.mem_filter.mpr ⟨List.mem_append_right _ (List.mem_of_getElem? (i := 464) (by decide +kernel)), by decide +kernel⟩
theorem w_ml_X1_57 : Cond.methodLink RX1 57 yX1_part ∈ aW := List.mem_filter.mpr ⟨List.mem_append_right _ (List.mem_of_getElem? (i := 465) (by decide +kernel)), by decide +kernel⟩
theorem w_ml_X7_110 : Cond.methodLink RX7 110 yJ6_bitCount_0f7a4 ∈ aW := List.mem_filter.mpr ⟨List.mem_append_right _ (List.mem_of_getElem? (i := 466) (by decide +kernel)), by decide +kernel⟩
theorem w_st_J6_bitCount_0f7a4 : Cond.static yJ6_bitCount_0f7a4 ∈ aW := List.mem_filter.mpr ⟨List.mem_append_right _ (List.mem_of_getElem? (i := 467) (by decide +kernel)), by decide +kernel⟩
theorem w_cd_J6_bitCount_0f7a4 : Cond.code yJ6_bitCount_0f7a4 cJ6_bitCount_0f7a4 1 ((some .int)) ∈ aW := List.mem_filter.mpr ⟨List.mem_append_right _ (List.mem_of_getElem? (i := 468) (by decide +kernel)), by decide +kernel⟩
theorem w_co_J6_265 : Cond.constant RJ6 265 (1431655765) ∈ aW := List.mem_filter.mpr ⟨List.mem_append_right _ (List.mem_of_getElem? (i := 469) (by decide +kernel)), by decide +kernel⟩
theorem w_co_J6_266 : Cond.constant RJ6 266 (858993459) ∈ aW := List.mem_filter.mpr ⟨List.mem_append_right _ (List.mem_of_getElem? (i := 470) (by decide +kernel)), by decide +kernel⟩
theorem w_co_J6_267 : Cond.constant RJ6 267 (252645135) ∈ aW := List.mem_filter.mpr ⟨List.mem_append_right _ (List.mem_of_getElem? (i := 471) (by decide +kernel)), by decide +kernel⟩
theorem w_im_X3_greatestHeight : Cond.instanceMethod yX3_greatestHeight ∈ aW := List.mem_filter.mpr ⟨List.mem_append_right _ (List.mem_of_getElem? (i := 474) (by decide +kernel)), by decide +kernel⟩
theorem w_cd_X3_greatestHeight : Cond.code yX3_greatestHeight cX3_greatestHeight 3 ((some .int)) ∈ aW := List.mem_filter.mpr ⟨List.mem_append_right _ (List.mem_of_getElem? (i := 475) (by decide +kernel)), by decide +kernel⟩
theorem w_im_X3_countReads : Cond.instanceMethod yX3_countReads ∈ aW := List.mem_filter.mpr ⟨List.mem_append_right _ (List.mem_of_getElem? (i := 478) (by decide +kernel)), by decide +kernel⟩
theorem w_cd_X3_countReads : Cond.code yX3_countReads cX3_countReads 3 ((some .int)) ∈ aW := List.mem_filter.mpr ⟨List.mem_append_right _ (List.mem_of_getElem? (i := 479) (by decide +kernel)), by decide +kernel⟩
theorem w_ml_X3_95 : Cond.methodLink RX3 95 yJ6_bitCount_0f7a4 ∈ aW := List.mem_filter.mpr ⟨List.mem_append_right _ (List.mem_of_getElem? (i := 480) (by decide +kernel)), by decide +kernel⟩
theorem w_ml_L_35 : Cond.methodLink RL 35 yX7_cell ∈ aW := List.mem_filter.mpr ⟨List.mem_append_right _ (List.mem_of_getElem? (i := 481) (by decide +kernel)), by decide +kernel⟩
theorem w_im_X7_cell : Cond.instanceMethod yX7_cell ∈ aW := List.mem_filter.mpr ⟨List.mem_append_right _ (List.mem_of_getElem? (i := 482) (by decide +kernel)), by decide +kernel⟩
theorem w_sel_X7_cell : Cond.selects RX7 yX7_cell yX7_cell ∈ aW := List.mem_filter.mpr ⟨List.mem_append_right _ (List.mem_of_getElem? (i := 483) (by decide +kernel)), by decide +kernel⟩
theorem w_cd_X7_cell : Cond.code yX7_cell cX7_cell 3 ((some .int)) ∈ aW := List.mem_filter.mpr ⟨List.mem_append_right _ (List.mem_of_getElem? (i := 484) (by decide +kernel)), by decide +kernel⟩
theorem w_ml_X7_129 : Cond.methodLink RX7 129 yX7_isCell ∈ aW := List.mem_filter.mpr ⟨List.mem_append_right _ (List.mem_of_getElem? (i := 485) (by decide +kernel)), by decide +kernel⟩
theorem w_st_X7_isCell : Cond.static yX7_isCell ∈ aW := List.mem_filter.mpr ⟨List.mem_append_right _ (List.mem_of_getElem? (i := 486) (by decide +kernel)), by decide +kernel⟩
theorem w_cd_X7_isCell : Cond.code yX7_isCell cX7_isCell 1 ((some .boolean)) ∈ aW := List.mem_filter.mpr ⟨List.mem_append_right _ (List.mem_of_getElem? (i := 487) (by decide +kernel)), by decide +kernel⟩
theorem w_im_X3_standing : Cond.instanceMethod yX3_standing ∈ aW := List.mem_filter.mpr ⟨List.mem_append_right _ (List.mem_of_getElem? (i := 491) (by decide +kernel)), by decide +kernel⟩
theorem w_cd_X3_standing : Cond.code yX3_standing cX3_standing 2 ((some .int)) ∈ aW := List.mem_filter.mpr ⟨List.mem_append_right _ (List.mem_of_getElem? (i := 492) (by decide +kernel)), by decide +kernel⟩
theorem w_ml_X7_140 : Cond.methodLink RX7 140 yX7_has ∈ aW := List.mem_filter.mpr ⟨List.mem_append_right _ (List.mem_of_getElem? (i := 493) (by decide +kernel)), by decide +kernel⟩
theorem w_ml_X7_154 : Cond.methodLink RX7 154 yX7_bit ∈ aW := List.mem_filter.mpr ⟨List.mem_append_right _ (List.mem_of_getElem? (i := 494) (by decide +kernel)), by decide +kernel⟩
theorem w_im_X3_readersOf : Cond.instanceMethod yX3_readersOf ∈ aW := List.mem_filter.mpr ⟨List.mem_append_right _ (List.mem_of_getElem? (i := 497) (by decide +kernel)), by decide +kernel⟩
theorem w_cd_X3_readersOf : Cond.code yX3_readersOf cX3_readersOf 4 ((some .int)) ∈ aW := List.mem_filter.mpr ⟨List.mem_append_right _ (List.mem_of_getElem? (i := 498) (by decide +kernel)), by decide +kernel⟩
theorem w_ml_L_40 : Cond.methodLink RL 40 yX7_value ∈ aW := List.mem_filter.mpr ⟨List.mem_append_right _ (List.mem_of_getElem? (i := 499) (by decide +kernel)), by decide +kernel⟩
theorem w_im_X7_value : Cond.instanceMethod yX7_value ∈ aW := List.mem_filter.mpr ⟨List.mem_append_right _ (List.mem_of_getElem? (i := 500) (by decide +kernel)), by decide +kernel⟩
theorem w_sel_X7_value : Cond.selects RX7 yX7_value yX7_value ∈ aW := List.mem_filter.mpr ⟨List.mem_append_right _ (List.mem_of_getElem? (i := 501) (by decide +kernel)), by decide +kernel⟩
theorem w_cd_X7_value : Cond.code yX7_value cX7_value 2 ((some .int)) ∈ aW := List.mem_filter.mpr ⟨List.mem_append_right _ (List.mem_of_getElem? (i := 502) (by decide +kernel)), by decide +kernel⟩
theorem w_ml_L_44 : Cond.methodLink RL 44 yX7_reads ∈ aW := List.mem_filter.mpr ⟨List.mem_append_right _ (List.mem_of_getElem? (i := 503) (by decide +kernel)), by decide +kernel⟩
theorem w_im_X7_reads : Cond.instanceMethod yX7_reads ∈ aW := List.mem_filter.mpr ⟨List.mem_append_right _ (List.mem_of_getElem? (i := 504) (by decide +kernel)), by decide +kernel⟩
theorem w_sel_X7_reads : Cond.selects RX7 yX7_reads yX7_reads ∈ aW := List.mem_filter.mpr ⟨List.mem_append_right _ (List.mem_of_getElem? (i := 505) (by decide +kernel)), by decide +kernel⟩
theorem w_cd_X7_reads : Cond.code yX7_reads cX7_reads 5 ((some .int)) ∈ aW := List.mem_filter.mpr ⟨List.mem_append_right _ (List.mem_of_getElem? (i := 506) (by decide +kernel)), by decide +kernel⟩
theorem w_ml_X7_163 : Cond.methodLink RX7 163 yX7_nthOf ∈ aW := List.mem_filter.mpr ⟨List.mem_append_right _ (List.mem_of_getElem? (i := 507) (by decide +kernel)), by decide +kernel⟩
theorem w_st_X7_nthOf : Cond.static yX7_nthOf ∈ aW := List.mem_filter.mpr ⟨List.mem_append_right _ (List.mem_of_getElem? (i := 508) (by decide +kernel)), by decide +kernel⟩
theorem w_cd_X7_nthOf : Cond.code yX7_nthOf cX7_nthOf 4 ((some .int)) ∈ aW := List.mem_filter.mpr ⟨List.mem_append_right _ (List.mem_of_getElem? (i := 509) (by decide +kernel)), by decide +kernel⟩
theorem w_ml_L_48 : Cond.methodLink RL 48 yX7_reader ∈ aW := List.mem_filter.mpr ⟨List.mem_append_right _ (List.mem_of_getElem? (i := 510) (by decide +kernel)), by decide +kernel⟩
theorem w_im_X7_reader : Cond.instanceMethod yX7_reader ∈ aW := List.mem_filter.mpr ⟨List.mem_append_right _ (List.mem_of_getElem? (i := 511) (by decide +kernel)), by decide +kernel⟩
theorem w_sel_X7_reader : Cond.selects RX7 yX7_reader yX7_reader ∈ aW := List.mem_filter.mpr ⟨List.mem_append_right _ (List.mem_of_getElem? (i := 512) (by decide +kernel)), by decide +kernel⟩
theorem w_cd_X7_reader : Cond.code yX7_reader cX7_reader 3 ((some .int)) ∈ aW := List.mem_filter.mpr ⟨List.mem_append_right _ (List.mem_of_getElem? (i := 513) (by decide +kernel)), by decide +kernel⟩
theorem w_ml_L_52 : Cond.methodLink RL 52 yX7_far ∈ aW := List.mem_filter.mpr ⟨List.mem_append_right _ (List.mem_of_getElem? (i := 514) (by decide +kernel)), by decide +kernel⟩
theorem w_im_X7_far : Cond.instanceMethod yX7_far ∈ aW := List.mem_filter.mpr ⟨List.mem_append_right _ (List.mem_of_getElem? (i := 515) (by decide +kernel)), by decide +kernel⟩
theorem w_sel_X7_far : Cond.selects RX7 yX7_far yX7_far ∈ aW := List.mem_filter.mpr ⟨List.mem_append_right _ (List.mem_of_getElem? (i := 516) (by decide +kernel)), by decide +kernel⟩
theorem w_cd_X7_far : Cond.code yX7_far cX7_far 3 ((some .int)) ∈ aW := List.mem_filter.mpr ⟨List.mem_append_right _ (List.mem_of_getElem? (i := 517) (by decide +kernel)), by decide +kernel⟩
theorem w_im_X3_neededBy : Cond.instanceMethod yX3_neededBy ∈ aW := List.mem_filter.mpr ⟨List.mem_append_right _ (List.mem_of_getElem? (i := 520) (by decide +kernel)), by decide +kernel⟩
theorem w_cd_X3_neededBy : Cond.code yX3_neededBy cX3_neededBy 7 ((some .int)) ∈ aW := List.mem_filter.mpr ⟨List.mem_append_right _ (List.mem_of_getElem? (i := 521) (by decide +kernel)), by decide +kernel⟩
theorem w_im_X3_hangingOn : Cond.instanceMethod yX3_hangingOn ∈ aW := List.mem_filter.mpr ⟨List.mem_append_right _ (List.mem_of_getElem? (i := 524) (by decide +kernel)), by decide +kernel⟩
theorem w_cd_X3_hangingOn : Cond.code yX3_hangingOn cX3_hangingOn 6 ((some .int)) ∈ aW := List.mem_filter.mpr ⟨List.mem_append_right _ (List.mem_of_getElem? (i := 525) (by decide +kernel)), by decide +kernel⟩
theorem w_ml_X3_98 : Cond.methodLink RX3 98 yX3_readersOf ∈ aW := List.mem_filter.mpr ⟨List.mem_append_right _ (List.mem_of_getElem? (i := 526) (by decide +kernel)), by decide +kernel⟩
theorem w_ml_L_56 : Cond.methodLink RL 56 yX7_order ∈ aW := List.mem_filter.mpr ⟨List.mem_append_right _ (List.mem_of_getElem? (i := 527) (by decide +kernel)), by decide +kernel⟩
theorem w_im_X7_order : Cond.instanceMethod yX7_order ∈ aW := List.mem_filter.mpr ⟨List.mem_append_right _ (List.mem_of_getElem? (i := 528) (by decide +kernel)), by decide +kernel⟩
theorem w_sel_X7_order : Cond.selects RX7 yX7_order yX7_order ∈ aW := List.mem_filter.mpr ⟨List.mem_append_right _ (List.mem_of_getElem? (i := 529) (by decide +kernel)), by decide +kernel⟩
theorem w_cd_X7_order : Cond.code yX7_order cX7_order 2 ((some .int)) ∈ aW := List.mem_filter.mpr ⟨List.mem_append_right _ (List.mem_of_getElem? (i := 530) (by decide +kernel)), by decide +kernel⟩
theorem w_im_X3_nthByHeight : Cond.instanceMethod yX3_nthByHeight ∈ aW := List.mem_filter.mpr ⟨List.mem_append_right _ (List.mem_of_getElem? (i := 533) (by decide +kernel)), by decide +kernel⟩
theorem w_cd_X3_nthByHeight : Cond.code yX3_nthByHeight cX3_nthByHeight 5 ((some .int)) ∈ aW := List.mem_filter.mpr ⟨List.mem_append_right _ (List.mem_of_getElem? (i := 534) (by decide +kernel)), by decide +kernel⟩
theorem w_ml_L_60 : Cond.methodLink RL 60 yX7_circle ∈ aW := List.mem_filter.mpr ⟨List.mem_append_right _ (List.mem_of_getElem? (i := 535) (by decide +kernel)), by decide +kernel⟩
theorem w_im_X7_circle : Cond.instanceMethod yX7_circle ∈ aW := List.mem_filter.mpr ⟨List.mem_append_right _ (List.mem_of_getElem? (i := 536) (by decide +kernel)), by decide +kernel⟩
theorem w_sel_X7_circle : Cond.selects RX7 yX7_circle yX7_circle ∈ aW := List.mem_filter.mpr ⟨List.mem_append_right _ (List.mem_of_getElem? (i := 537) (by decide +kernel)), by decide +kernel⟩
theorem w_cd_X7_circle : Cond.code yX7_circle cX7_circle 3 ((some .int)) ∈ aW := List.mem_filter.mpr ⟨List.mem_append_right _ (List.mem_of_getElem? (i := 538) (by decide +kernel)), by decide +kernel⟩
theorem w_im_X3_nthOfCircle : Cond.instanceMethod yX3_nthOfCircle ∈ aW := List.mem_filter.mpr ⟨List.mem_append_right _ (List.mem_of_getElem? (i := 541) (by decide +kernel)), by decide +kernel⟩
theorem w_cd_X3_nthOfCircle : Cond.code yX3_nthOfCircle cX3_nthOfCircle 5 ((some .int)) ∈ aW := List.mem_filter.mpr ⟨List.mem_append_right _ (List.mem_of_getElem? (i := 542) (by decide +kernel)), by decide +kernel⟩
theorem w_ml_L_64 : Cond.methodLink RL 64 yX7_put ∈ aW := List.mem_filter.mpr ⟨List.mem_append_right _ (List.mem_of_getElem? (i := 543) (by decide +kernel)), by decide +kernel⟩
theorem w_im_X7_put : Cond.instanceMethod yX7_put ∈ aW := List.mem_filter.mpr ⟨List.mem_append_right _ (List.mem_of_getElem? (i := 544) (by decide +kernel)), by decide +kernel⟩
theorem w_sel_X7_put : Cond.selects RX7 yX7_put yX7_put ∈ aW := List.mem_filter.mpr ⟨List.mem_append_right _ (List.mem_of_getElem? (i := 545) (by decide +kernel)), by decide +kernel⟩
theorem w_cd_X7_put : Cond.code yX7_put cX7_put 6 ((some .int)) ∈ aW := List.mem_filter.mpr ⟨List.mem_append_right _ (List.mem_of_getElem? (i := 546) (by decide +kernel)), by decide +kernel⟩
theorem w_im_X0_tell : Cond.instanceMethod yX0_tell ∈ aW := List.mem_filter.mpr ⟨List.mem_append_right _ (List.mem_of_getElem? (i := 549) (by decide +kernel)), by decide +kernel⟩
theorem w_cd_X0_tell : Cond.code yX0_tell cX0_tell 6 (none) ∈ aW := List.mem_filter.mpr ⟨List.mem_append_right _ (List.mem_of_getElem? (i := 550) (by decide +kernel)), by decide +kernel⟩
theorem w_im_X0_isAllowed : Cond.instanceMethod yX0_isAllowed ∈ aW := List.mem_filter.mpr ⟨List.mem_append_right _ (List.mem_of_getElem? (i := 553) (by decide +kernel)), by decide +kernel⟩
theorem w_cd_X0_isAllowed : Cond.code yX0_isAllowed cX0_isAllowed 1 ((some .boolean)) ∈ aW := List.mem_filter.mpr ⟨List.mem_append_right _ (List.mem_of_getElem? (i := 554) (by decide +kernel)), by decide +kernel⟩
theorem w_ml_X0_41 : Cond.methodLink RX0 41 yX0_operandsFit ∈ aW := List.mem_filter.mpr ⟨List.mem_append_right _ (List.mem_of_getElem? (i := 556) (by decide +kernel)), by decide +kernel⟩
theorem w_im_X0_operandsFit : Cond.instanceMethod yX0_operandsFit ∈ aW := List.mem_filter.mpr ⟨List.mem_append_right _ (List.mem_of_getElem? (i := 558) (by decide +kernel)), by decide +kernel⟩
theorem w_cd_X0_operandsFit : Cond.code yX0_operandsFit cX0_operandsFit 3 ((some .boolean)) ∈ aW := List.mem_filter.mpr ⟨List.mem_append_right _ (List.mem_of_getElem? (i := 559) (by decide +kernel)), by decide +kernel⟩
theorem w_ml_X7_186 : Cond.methodLink RX7 186 yX7_remember ∈ aW := List.mem_filter.mpr ⟨List.mem_append_right _ (List.mem_of_getElem? (i := 562) (by decide +kernel)), by decide +kernel⟩
theorem w_im_X7_remember : Cond.instanceMethod yX7_remember ∈ aW := List.mem_filter.mpr ⟨List.mem_append_right _ (List.mem_of_getElem? (i := 564) (by decide +kernel)), by decide +kernel⟩
theorem w_cd_X7_remember : Cond.code yX7_remember cX7_remember 1 (none) ∈ aW := List.mem_filter.mpr ⟨List.mem_append_right _ (List.mem_of_getElem? (i := 565) (by decide +kernel)), by decide +kernel⟩
theorem w_im_X0_tellAsIn : Cond.instanceMethod yX0_tellAsIn ∈ aW := List.mem_filter.mpr ⟨List.mem_append_right _ (List.mem_of_getElem? (i := 568) (by decide +kernel)), by decide +kernel⟩
theorem w_cd_X0_tellAsIn : Cond.code yX0_tellAsIn cX0_tellAsIn 3 (none) ∈ aW := List.mem_filter.mpr ⟨List.mem_append_right _ (List.mem_of_getElem? (i := 569) (by decide +kernel)), by decide +kernel⟩
theorem w_ml_X0_33 : Cond.methodLink RX0 33 yX0_tell ∈ aW := List.mem_filter.mpr ⟨List.mem_append_right _ (List.mem_of_getElem? (i := 571) (by decide +kernel)), by decide +kernel⟩
theorem w_im_X2_push : Cond.instanceMethod yX2_push ∈ aW := List.mem_filter.mpr ⟨List.mem_append_right _ (List.mem_of_getElem? (i := 574) (by decide +kernel)), by decide +kernel⟩
theorem w_cd_X2_push : Cond.code yX2_push cX2_push 3 (none) ∈ aW := List.mem_filter.mpr ⟨List.mem_append_right _ (List.mem_of_getElem? (i := 575) (by decide +kernel)), by decide +kernel⟩
theorem w_ml_X2_19 : Cond.methodLink RX2 19 arraycopyName ∈ aW := List.mem_filter.mpr ⟨List.mem_append_right _ (List.mem_of_getElem? (i := 576) (by decide +kernel)), by decide +kernel⟩
theorem w_ml_X7_189 : Cond.methodLink RX7 189 yX7_make ∈ aW := List.mem_filter.mpr ⟨List.mem_append_right _ (List.mem_of_getElem? (i := 577) (by decide +kernel)), by decide +kernel⟩
theorem w_im_X7_make : Cond.instanceMethod yX7_make ∈ aW := List.mem_filter.mpr ⟨List.mem_append_right _ (List.mem_of_getElem? (i := 579) (by decide +kernel)), by decide +kernel⟩
theorem w_cd_X7_make : Cond.code yX7_make cX7_make 2 ((some .int)) ∈ aW := List.mem_filter.mpr ⟨List.mem_append_right _ (List.mem_of_getElem? (i := 580) (by decide +kernel)), by decide +kernel⟩
theorem w_im_X1_take : Cond.instanceMethod yX1_take ∈ aW := List.mem_filter.mpr ⟨List.mem_append_right _ (List.mem_of_getElem? (i := 583) (by decide +kernel)), by decide +kernel⟩
theorem w_cd_X1_take : Cond.code yX1_take cX1_take 3 (none) ∈ aW := List.mem_filter.mpr ⟨List.mem_append_right _ (List.mem_of_getElem? (i := 584) (by decide +kernel)), by decide +kernel⟩
theorem w_ml_X1_40 : Cond.methodLink RX1 40 yX1_begin ∈ aW := List.mem_filter.mpr ⟨List.mem_append_right _ (List.mem_of_getElem? (i := 586) (by decide +kernel)), by decide +kernel⟩
theorem w_ml_X1_47 : Cond.methodLink RX1 47 yX1_setOperand ∈ aW := List.mem_filter.mpr ⟨List.mem_append_right _ (List.mem_of_getElem? (i := 587) (by decide +kernel)), by decide +kernel⟩
theorem w_im_X3_movedTo : Cond.instanceMethod yX3_movedTo ∈ aW := List.mem_filter.mpr ⟨List.mem_append_right _ (List.mem_of_getElem? (i := 590) (by decide +kernel)), by decide +kernel⟩
theorem w_cd_X3_movedTo : Cond.code yX3_movedTo cX3_movedTo 4 ((some .int)) ∈ aW := List.mem_filter.mpr ⟨List.mem_append_right _ (List.mem_of_getElem? (i := 591) (by decide +kernel)), by decide +kernel⟩
theorem w_ml_L_69 : Cond.methodLink RL 69 yX7_would ∈ aW := List.mem_filter.mpr ⟨List.mem_append_right _ (List.mem_of_getElem? (i := 592) (by decide +kernel)), by decide +kernel⟩
theorem w_im_X7_would : Cond.instanceMethod yX7_would ∈ aW := List.mem_filter.mpr ⟨List.mem_append_right _ (List.mem_of_getElem? (i := 593) (by decide +kernel)), by decide +kernel⟩
theorem w_sel_X7_would : Cond.selects RX7 yX7_would yX7_would ∈ aW := List.mem_filter.mpr ⟨List.mem_append_right _ (List.mem_of_getElem? (i := 594) (by decide +kernel)), by decide +kernel⟩
theorem w_cd_X7_would : Cond.code yX7_would cX7_would 8 ((some .int)) ∈ aW := List.mem_filter.mpr ⟨List.mem_append_right _ (List.mem_of_getElem? (i := 595) (by decide +kernel)), by decide +kernel⟩
theorem w_ml_L_74 : Cond.methodLink RL 74 yX7_latest ∈ aW := List.mem_filter.mpr ⟨List.mem_append_right _ (List.mem_of_getElem? (i := 596) (by decide +kernel)), by decide +kernel⟩
theorem w_im_X7_latest : Cond.instanceMethod yX7_latest ∈ aW := List.mem_filter.mpr ⟨List.mem_append_right _ (List.mem_of_getElem? (i := 597) (by decide +kernel)), by decide +kernel⟩
theorem w_sel_X7_latest : Cond.selects RX7 yX7_latest yX7_latest ∈ aW := List.mem_filter.mpr ⟨List.mem_append_right _ (List.mem_of_getElem? (i := 598) (by decide +kernel)), by decide +kernel⟩
theorem w_cd_X7_latest : Cond.code yX7_latest cX7_latest 2 ((some .int)) ∈ aW := List.mem_filter.mpr ⟨List.mem_append_right _ (List.mem_of_getElem? (i := 599) (by decide +kernel)), by decide +kernel⟩
theorem w_ml_L_78 : Cond.methodLink RL 78 yX7_undo ∈ aW := List.mem_filter.mpr ⟨List.mem_append_right _ (List.mem_of_getElem? (i := 600) (by decide +kernel)), by decide +kernel⟩
theorem w_im_X7_undo : Cond.instanceMethod yX7_undo ∈ aW := List.mem_filter.mpr ⟨List.mem_append_right _ (List.mem_of_getElem? (i := 601) (by decide +kernel)), by decide +kernel⟩
theorem w_sel_X7_undo : Cond.selects RX7 yX7_undo yX7_undo ∈ aW := List.mem_filter.mpr ⟨List.mem_append_right _ (List.mem_of_getElem? (i := 602) (by decide +kernel)), by decide +kernel⟩
theorem w_cd_X7_undo : Cond.code yX7_undo cX7_undo 1 ((some .int)) ∈ aW := List.mem_filter.mpr ⟨List.mem_append_right _ (List.mem_of_getElem? (i := 603) (by decide +kernel)), by decide +kernel⟩
theorem w_im_X2_popInto : Cond.instanceMethod yX2_popInto ∈ aW := List.mem_filter.mpr ⟨List.mem_append_right _ (List.mem_of_getElem? (i := 606) (by decide +kernel)), by decide +kernel⟩
theorem w_cd_X2_popInto : Cond.code yX2_popInto cX2_popInto 3 (none) ∈ aW := List.mem_filter.mpr ⟨List.mem_append_right _ (List.mem_of_getElem? (i := 607) (by decide +kernel)), by decide +kernel⟩
theorem w_ml_L_82 : Cond.methodLink RL 82 yX7_storm ∈ aW := List.mem_filter.mpr ⟨List.mem_append_right _ (List.mem_of_getElem? (i := 609) (by decide +kernel)), by decide +kernel⟩
theorem w_im_X7_storm : Cond.instanceMethod yX7_storm ∈ aW := List.mem_filter.mpr ⟨List.mem_append_right _ (List.mem_of_getElem? (i := 610) (by decide +kernel)), by decide +kernel⟩
theorem w_sel_X7_storm : Cond.selects RX7 yX7_storm yX7_storm ∈ aW := List.mem_filter.mpr ⟨List.mem_append_right _ (List.mem_of_getElem? (i := 611) (by decide +kernel)), by decide +kernel⟩
theorem w_cd_X7_storm : Cond.code yX7_storm cX7_storm 8 ((some .int)) ∈ aW := List.mem_filter.mpr ⟨List.mem_append_right _ (List.mem_of_getElem? (i := 612) (by decide +kernel)), by decide +kernel⟩
theorem w_ml_X7_217 : Cond.methodLink RX7 217 yX7_stir ∈ aW := List.mem_filter.mpr ⟨List.mem_append_right _ (List.mem_of_getElem? (i := 613) (by decide +kernel)), by decide +kernel⟩
theorem w_st_X7_stir : Cond.static yX7_stir ∈ aW := List.mem_filter.mpr ⟨List.mem_append_right _ (List.mem_of_getElem? (i := 614) (by decide +kernel)), by decide +kernel⟩
theorem w_cd_X7_stir : Cond.code yX7_stir cX7_stir 1 ((some .int)) ∈ aW := List.mem_filter.mpr ⟨List.mem_append_right _ (List.mem_of_getElem? (i := 615) (by decide +kernel)), by decide +kernel⟩
theorem w_co_X7_286 : Cond.constant RX7 286 (1103515245) ∈ aW := List.mem_filter.mpr ⟨List.mem_append_right _ (List.mem_of_getElem? (i := 616) (by decide +kernel)), by decide +kernel⟩
theorem w_ml_X7_220 : Cond.methodLink RX7 220 yX7_drawn ∈ aW := List.mem_filter.mpr ⟨List.mem_append_right _ (List.mem_of_getElem? (i := 617) (by decide +kernel)), by decide +kernel⟩
theorem w_st_X7_drawn : Cond.static yX7_drawn ∈ aW := List.mem_filter.mpr ⟨List.mem_append_right _ (List.mem_of_getElem? (i := 618) (by decide +kernel)), by decide +kernel⟩
theorem w_cd_X7_drawn : Cond.code yX7_drawn cX7_drawn 1 ((some .int)) ∈ aW := List.mem_filter.mpr ⟨List.mem_append_right _ (List.mem_of_getElem? (i := 619) (by decide +kernel)), by decide +kernel⟩
theorem w_ml_X7_223 : Cond.methodLink RX7 223 yX7_askByDraws ∈ aW := List.mem_filter.mpr ⟨List.mem_append_right _ (List.mem_of_getElem? (i := 620) (by decide +kernel)), by decide +kernel⟩
theorem w_im_X7_askByDraws : Cond.instanceMethod yX7_askByDraws ∈ aW := List.mem_filter.mpr ⟨List.mem_append_right _ (List.mem_of_getElem? (i := 622) (by decide +kernel)), by decide +kernel⟩
theorem w_cd_X7_askByDraws : Cond.code yX7_askByDraws cX7_askByDraws 7 (none) ∈ aW := List.mem_filter.mpr ⟨List.mem_append_right _ (List.mem_of_getElem? (i := 623) (by decide +kernel)), by decide +kernel⟩
theorem w_ml_X7_275 : Cond.methodLink RX7 275 yX7_isSpan ∈ aW := List.mem_filter.mpr ⟨List.mem_append_right _ (List.mem_of_getElem? (i := 624) (by decide +kernel)), by decide +kernel⟩
theorem w_ml_X7_278 : Cond.methodLink RX7 278 Lib.Math.min.name ∈ aW := List.mem_filter.mpr ⟨List.mem_append_right _ (List.mem_of_getElem? (i := 625) (by decide +kernel)), by decide +kernel⟩
theorem w_ml_X7_283 : Cond.methodLink RX7 283 Lib.Math.max.name ∈ aW := List.mem_filter.mpr ⟨List.mem_append_right _ (List.mem_of_getElem? (i := 626) (by decide +kernel)), by decide +kernel⟩
theorem w_ml_L_86 : Cond.methodLink RL 86 yX7_keep ∈ aW := List.mem_filter.mpr ⟨List.mem_append_right _ (List.mem_of_getElem? (i := 627) (by decide +kernel)), by decide +kernel⟩
theorem w_im_X7_keep : Cond.instanceMethod yX7_keep ∈ aW := List.mem_filter.mpr ⟨List.mem_append_right _ (List.mem_of_getElem? (i := 628) (by decide +kernel)), by decide +kernel⟩
theorem w_sel_X7_keep : Cond.selects RX7 yX7_keep yX7_keep ∈ aW := List.mem_filter.mpr ⟨List.mem_append_right _ (List.mem_of_getElem? (i := 629) (by decide +kernel)), by decide +kernel⟩
theorem w_cd_X7_keep : Cond.code yX7_keep cX7_keep 3 ((some .int)) ∈ aW := List.mem_filter.mpr ⟨List.mem_append_right _ (List.mem_of_getElem? (i := 630) (by decide +kernel)), by decide +kernel⟩
theorem w_ml_L_90 : Cond.methodLink RL 90 yX7_back ∈ aW := List.mem_filter.mpr ⟨List.mem_append_right _ (List.mem_of_getElem? (i := 631) (by decide +kernel)), by decide +kernel⟩
theorem w_im_X7_back : Cond.instanceMethod yX7_back ∈ aW := List.mem_filter.mpr ⟨List.mem_append_right _ (List.mem_of_getElem? (i := 632) (by decide +kernel)), by decide +kernel⟩
theorem w_sel_X7_back : Cond.selects RX7 yX7_back yX7_back ∈ aW := List.mem_filter.mpr ⟨List.mem_append_right _ (List.mem_of_getElem? (i := 633) (by decide +kernel)), by decide +kernel⟩
theorem w_cd_X7_back : Cond.code yX7_back cX7_back 2 ((some .int)) ∈ aW := List.mem_filter.mpr ⟨List.mem_append_right _ (List.mem_of_getElem? (i := 634) (by decide +kernel)), by decide +kernel⟩
theorem w_ml_L_94 : Cond.methodLink RL 94 yX7_sheet ∈ aW := List.mem_filter.mpr ⟨List.mem_append_right _ (List.mem_of_getElem? (i := 635) (by decide +kernel)), by decide +kernel⟩
theorem w_im_X7_sheet : Cond.instanceMethod yX7_sheet ∈ aW := List.mem_filter.mpr ⟨List.mem_append_right _ (List.mem_of_getElem? (i := 636) (by decide +kernel)), by decide +kernel⟩
theorem w_sel_X7_sheet : Cond.selects RX7 yX7_sheet yX7_sheet ∈ aW := List.mem_filter.mpr ⟨List.mem_append_right _ (List.mem_of_getElem? (i := 637) (by decide +kernel)), by decide +kernel⟩
theorem w_cd_X7_sheet : Cond.code yX7_sheet cX7_sheet 4 ((some .int)) ∈ aW := List.mem_filter.mpr ⟨List.mem_append_right _ (List.mem_of_getElem? (i := 638) (by decide +kernel)), by decide +kernel⟩
theorem w_im_X4_renew : Cond.instanceMethod yX4_renew ∈ aW := List.mem_filter.mpr ⟨List.mem_append_right _ (List.mem_of_getElem? (i := 641) (by decide +kernel)), by decide +kernel⟩
theorem w_cd_X4_renew : Cond.code yX4_renew cX4_renew 3 (none) ∈ aW := List.mem_filter.mpr ⟨List.mem_append_right _ (List.mem_of_getElem? (i := 642) (by decide +kernel)), by decide +kernel⟩
theorem w_ml_X4_19 : Cond.methodLink RX4 19 yJ7_fill_53178 ∈ aW := List.mem_filter.mpr ⟨List.mem_append_right _ (List.mem_of_getElem? (i := 643) (by decide +kernel)), by decide +kernel⟩
theorem w_ml_L_99 : Cond.methodLink RL 99 yX7_lay ∈ aW := List.mem_filter.mpr ⟨List.mem_append_right _ (List.mem_of_getElem? (i := 644) (by decide +kernel)), by decide +kernel⟩
theorem w_im_X7_lay : Cond.instanceMethod yX7_lay ∈ aW := List.mem_filter.mpr ⟨List.mem_append_right _ (List.mem_of_getElem? (i := 645) (by decide +kernel)), by decide +kernel⟩
theorem w_sel_X7_lay : Cond.selects RX7 yX7_lay yX7_lay ∈ aW := List.mem_filter.mpr ⟨List.mem_append_right _ (List.mem_of_getElem? (i := 646) (by decide +kernel)), by decide +kernel⟩
theorem w_cd_X7_lay : Cond.code yX7_lay cX7_lay 5 ((some .int)) ∈ aW := List.mem_filter.mpr ⟨List.mem_append_right _ (List.mem_of_getElem? (i := 647) (by decide +kernel)), by decide +kernel⟩
theorem w_im_X4_faultAt : Cond.instanceMethod yX4_faultAt ∈ aW := List.mem_filter.mpr ⟨List.mem_append_right _ (List.mem_of_getElem? (i := 650) (by decide +kernel)), by decide +kernel⟩
theorem w_cd_X4_faultAt : Cond.code yX4_faultAt cX4_faultAt 3 ((some .int)) ∈ aW := List.mem_filter.mpr ⟨List.mem_append_right _ (List.mem_of_getElem? (i := 651) (by decide +kernel)), by decide +kernel⟩
theorem w_ml_X4_28 : Cond.methodLink RX4 28 yX4_isNothing ∈ aW := List.mem_filter.mpr ⟨List.mem_append_right _ (List.mem_of_getElem? (i := 652) (by decide +kernel)), by decide +kernel⟩
theorem w_im_X4_isNothing : Cond.instanceMethod yX4_isNothing ∈ aW := List.mem_filter.mpr ⟨List.mem_append_right _ (List.mem_of_getElem? (i := 654) (by decide +kernel)), by decide +kernel⟩
theorem w_cd_X4_isNothing : Cond.code yX4_isNothing cX4_isNothing 1 ((some .boolean)) ∈ aW := List.mem_filter.mpr ⟨List.mem_append_right _ (List.mem_of_getElem? (i := 655) (by decide +kernel)), by decide +kernel⟩
theorem w_im_X4_set : Cond.instanceMethod yX4_set ∈ aW := List.mem_filter.mpr ⟨List.mem_append_right _ (List.mem_of_getElem? (i := 658) (by decide +kernel)), by decide +kernel⟩
theorem w_cd_X4_set : Cond.code yX4_set cX4_set 3 (none) ∈ aW := List.mem_filter.mpr ⟨List.mem_append_right _ (List.mem_of_getElem? (i := 659) (by decide +kernel)), by decide +kernel⟩
theorem w_ml_L_103 : Cond.methodLink RL 103 yX7_read ∈ aW := List.mem_filter.mpr ⟨List.mem_append_right _ (List.mem_of_getElem? (i := 660) (by decide +kernel)), by decide +kernel⟩
theorem w_im_X7_read : Cond.instanceMethod yX7_read ∈ aW := List.mem_filter.mpr ⟨List.mem_append_right _ (List.mem_of_getElem? (i := 661) (by decide +kernel)), by decide +kernel⟩
theorem w_sel_X7_read : Cond.selects RX7 yX7_read yX7_read ∈ aW := List.mem_filter.mpr ⟨List.mem_append_right _ (List.mem_of_getElem? (i := 662) (by decide +kernel)), by decide +kernel⟩
theorem w_cd_X7_read : Cond.code yX7_read cX7_read 8 ((some .int)) ∈ aW := List.mem_filter.mpr ⟨List.mem_append_right _ (List.mem_of_getElem? (i := 663) (by decide +kernel)), by decide +kernel⟩
theorem w_im_X4_faultOfChange : Cond.instanceMethod yX4_faultOfChange ∈ aW := List.mem_filter.mpr ⟨List.mem_append_right _ (List.mem_of_getElem? (i := 666) (by decide +kernel)), by decide +kernel⟩
theorem w_cd_X4_faultOfChange : Cond.code yX4_faultOfChange cX4_faultOfChange 5 ((some .int)) ∈ aW := List.mem_filter.mpr ⟨List.mem_append_right _ (List.mem_of_getElem? (i := 667) (by decide +kernel)), by decide +kernel⟩
theorem w_ml_X4_32 : Cond.methodLink RX4 32 yX4_faultAt ∈ aW := List.mem_filter.mpr ⟨List.mem_append_right _ (List.mem_of_getElem? (i := 668) (by decide +kernel)), by decide +kernel⟩
theorem w_im_X4_askFrom : Cond.instanceMethod yX4_askFrom ∈ aW := List.mem_filter.mpr ⟨List.mem_append_right _ (List.mem_of_getElem? (i := 671) (by decide +kernel)), by decide +kernel⟩
theorem w_cd_X4_askFrom : Cond.code yX4_askFrom cX4_askFrom 3 (none) ∈ aW := List.mem_filter.mpr ⟨List.mem_append_right _ (List.mem_of_getElem? (i := 672) (by decide +kernel)), by decide +kernel⟩
theorem w_ml_L_108 : Cond.methodLink RL 108 yX7_torn ∈ aW := List.mem_filter.mpr ⟨List.mem_append_right _ (List.mem_of_getElem? (i := 674) (by decide +kernel)), by decide +kernel⟩
theorem w_im_X7_torn : Cond.instanceMethod yX7_torn ∈ aW := List.mem_filter.mpr ⟨List.mem_append_right _ (List.mem_of_getElem? (i := 675) (by decide +kernel)), by decide +kernel⟩
theorem w_sel_X7_torn : Cond.selects RX7 yX7_torn yX7_torn ∈ aW := List.mem_filter.mpr ⟨List.mem_append_right _ (List.mem_of_getElem? (i := 676) (by decide +kernel)), by decide +kernel⟩
theorem w_cd_X7_torn : Cond.code yX7_torn cX7_torn 1 ((some .int)) ∈ aW := List.mem_filter.mpr ⟨List.mem_append_right _ (List.mem_of_getElem? (i := 677) (by decide +kernel)), by decide +kernel⟩
theorem w_ml_L_112 : Cond.methodLink RL 112 yX7_count ∈ aW := List.mem_filter.mpr ⟨List.mem_append_right _ (List.mem_of_getElem? (i := 678) (by decide +kernel)), by decide +kernel⟩
theorem w_im_X7_count : Cond.instanceMethod yX7_count ∈ aW := List.mem_filter.mpr ⟨List.mem_append_right _ (List.mem_of_getElem? (i := 679) (by decide +kernel)), by decide +kernel⟩
theorem w_sel_X7_count : Cond.selects RX7 yX7_count yX7_count ∈ aW := List.mem_filter.mpr ⟨List.mem_append_right _ (List.mem_of_getElem? (i := 680) (by decide +kernel)), by decide +kernel⟩
theorem w_cd_X7_count : Cond.code yX7_count cX7_count 2 ((some .int)) ∈ aW := List.mem_filter.mpr ⟨List.mem_append_right _ (List.mem_of_getElem? (i := 681) (by decide +kernel)), by decide +kernel⟩
theorem w_ml_X7_253 : Cond.methodLink RX7 253 yX7_countImages ∈ aW := List.mem_filter.mpr ⟨List.mem_append_right _ (List.mem_of_getElem? (i := 682) (by decide +kernel)), by decide +kernel⟩
theorem w_im_X7_countImages : Cond.instanceMethod yX7_countImages ∈ aW := List.mem_filter.mpr ⟨List.mem_append_right _ (List.mem_of_getElem? (i := 684) (by decide +kernel)), by decide +kernel⟩
theorem w_cd_X7_countImages : Cond.code yX7_countImages cX7_countImages 3 ((some .int)) ∈ aW := List.mem_filter.mpr ⟨List.mem_append_right _ (List.mem_of_getElem? (i := 685) (by decide +kernel)), by decide +kernel⟩
theorem w_im_X1_countSpans : Cond.instanceMethod yX1_countSpans ∈ aW := List.mem_filter.mpr ⟨List.mem_append_right _ (List.mem_of_getElem? (i := 689) (by decide +kernel)), by decide +kernel⟩
theorem w_cd_X1_countSpans : Cond.code yX1_countSpans cX1_countSpans 3 ((some .int)) ∈ aW := List.mem_filter.mpr ⟨List.mem_append_right _ (List.mem_of_getElem? (i := 690) (by decide +kernel)), by decide +kernel⟩
theorem w_im_X3_sumOfValues : Cond.instanceMethod yX3_sumOfValues ∈ aW := List.mem_filter.mpr ⟨List.mem_append_right _ (List.mem_of_getElem? (i := 694) (by decide +kernel)), by decide +kernel⟩
theorem w_cd_X3_sumOfValues : Cond.code yX3_sumOfValues cX3_sumOfValues 3 ((some .int)) ∈ aW := List.mem_filter.mpr ⟨List.mem_append_right _ (List.mem_of_getElem? (i := 695) (by decide +kernel)), by decide +kernel⟩
theorem w_cl_L_10 : Cond.classLink RL 10 RX8 ∈ aW := List.mem_filter.mpr ⟨List.mem_append_right _ (List.mem_of_getElem? (i := 696) (by decide +kernel)), by decide +kernel⟩
theorem w_is_HeightSheetModel : Cond.instantiable RX8 35 ∈ aW := List.mem_filter.mpr ⟨List.mem_append_right _ (List.mem_of_getElem? (i := 697) (by decide +kernel)), by decide +kernel⟩
theorem w_ml_L_12 : Cond.methodLink RL 12 yX8_init ∈ aW := List.mem_filter.mpr ⟨List.mem_append_right _ (List.mem_of_getElem? (i := 698) (by decide +kernel)), by decide +kernel⟩
theorem w_im_X8_init : Cond.instanceMethod yX8_init ∈ aW := List.mem_filter.mpr ⟨List.mem_append_right _ (List.mem_of_getElem? (i := 699) (by decide +kernel)), by decide +kernel⟩
theorem w_cd_X8_init : Cond.code yX8_init cX8_init 1 (none) ∈ aW := List.mem_filter.mpr ⟨List.mem_append_right _ (List.mem_of_getElem? (i := 700) (by decide +kernel)), by decide +kernel⟩
theorem w_ml_X8_1 : Cond.methodLink RX8 1 objectInit ∈ aW := List.mem_filter.mpr ⟨List.mem_append_right _ (List.mem_of_getElem? (i := 701) (by decide +kernel)), by decide +kernel⟩
theorem w_fl_X8_7 : Cond.fieldLink RX8 7 "HeightSheetModel" "state" "[I" ∈ aW := List.mem_filter.mpr ⟨List.mem_append_right _ (List.mem_of_getElem? (i := 702) (by decide +kernel)), by decide +kernel⟩
theorem w_fl_X8_13 : Cond.fieldLink RX8 13 "HeightSheetModel" "tape" "[I" ∈ aW := List.mem_filter.mpr ⟨List.mem_append_right _ (List.mem_of_getElem? (i := 703) (by decide +kernel)), by decide +kernel⟩
theorem w_fl_X8_77 : Cond.fieldLink RX8 77 "HeightSheetModel" "taped" "I" ∈ aW := List.mem_filter.mpr ⟨List.mem_append_right _ (List.mem_of_getElem? (i := 704) (by decide +kernel)), by decide +kernel⟩
theorem w_fl_X8_132 : Cond.fieldLink RX8 132 "HeightSheetModel" "fault" "I" ∈ aW := List.mem_filter.mpr ⟨List.mem_append_right _ (List.mem_of_getElem? (i := 705) (by decide +kernel)), by decide +kernel⟩
theorem w_fl_X8_81 : Cond.fieldLink RX8 81 "HeightSheetModel" "broken" "I" ∈ aW := List.mem_filter.mpr ⟨List.mem_append_right _ (List.mem_of_getElem? (i := 706) (by decide +kernel)), by decide +kernel⟩
theorem w_fl_X8_87 : Cond.fieldLink RX8 87 "HeightSheetModel" "brokenAt" "I" ∈ aW := List.mem_filter.mpr ⟨List.mem_append_right _ (List.mem_of_getElem? (i := 707) (by decide +kernel)), by decide +kernel⟩
theorem w_fl_X8_93 : Cond.fieldLink RX8 93 "HeightSheetModel" "spot" "I" ∈ aW := List.mem_filter.mpr ⟨List.mem_append_right _ (List.mem_of_getElem? (i := 708) (by decide +kernel)), by decide +kernel⟩
theorem w_fl_X8_84 : Cond.fieldLink RX8 84 "HeightSheetModel" "here" "I" ∈ aW := List.mem_filter.mpr ⟨List.mem_append_right _ (List.mem_of_getElem? (i := 709) (by decide +kernel)), by decide +kernel⟩
theorem w_fl_X8_90 : Cond.fieldLink RX8 90 "HeightSheetModel" "token" "I" ∈ aW := List.mem_filter.mpr ⟨List.mem_append_right _ (List.mem_of_getElem? (i := 710) (by decide +kernel)), by decide +kernel⟩
theorem w_fl_X8_100 : Cond.fieldLink RX8 100 "HeightSheetModel" "number" "I" ∈ aW := List.mem_filter.mpr ⟨List.mem_append_right _ (List.mem_of_getElem? (i := 711) (by decide +kernel)), by decide +kernel⟩
theorem w_fl_X8_16 : Cond.fieldLink RX8 16 "HeightSheetModel" "ends" "[I" ∈ aW := List.mem_filter.mpr ⟨List.mem_append_right _ (List.mem_of_getElem? (i := 712) (by decide +kernel)), by decide +kernel⟩
theorem w_fl_X8_19 : Cond.fieldLink RX8 19 "HeightSheetModel" "letters" "[I" ∈ aW := List.mem_filter.mpr ⟨List.mem_append_right _ (List.mem_of_getElem? (i := 713) (by decide +kernel)), by decide +kernel⟩
theorem w_fl_X8_22 : Cond.fieldLink RX8 22 "HeightSheetModel" "values" "[I" ∈ aW := List.mem_filter.mpr ⟨List.mem_append_right _ (List.mem_of_getElem? (i := 714) (by decide +kernel)), by decide +kernel⟩
theorem w_fl_X8_25 : Cond.fieldLink RX8 25 "HeightSheetModel" "isTold" "[Z" ∈ aW := List.mem_filter.mpr ⟨List.mem_append_right _ (List.mem_of_getElem? (i := 715) (by decide +kernel)), by decide +kernel⟩
theorem w_fl_X8_29 : Cond.fieldLink RX8 29 "HeightSheetModel" "waits" "[I" ∈ aW := List.mem_filter.mpr ⟨List.mem_append_right _ (List.mem_of_getElem? (i := 716) (by decide +kernel)), by decide +kernel⟩
theorem w_fl_X8_32 : Cond.fieldLink RX8 32 "HeightSheetModel" "readsOf" "[I" ∈ aW := List.mem_filter.mpr ⟨List.mem_append_right _ (List.mem_of_getElem? (i := 717) (by decide +kernel)), by decide +kernel⟩
theorem w_fl_X8_35 : Cond.fieldLink RX8 35 "HeightSheetModel" "readMany" "[I" ∈ aW := List.mem_filter.mpr ⟨List.mem_append_right _ (List.mem_of_getElem? (i := 718) (by decide +kernel)), by decide +kernel⟩
theorem w_fl_X8_38 : Cond.fieldLink RX8 38 "HeightSheetModel" "heights" "[I" ∈ aW := List.mem_filter.mpr ⟨List.mem_append_right _ (List.mem_of_getElem? (i := 719) (by decide +kernel)), by decide +kernel⟩
theorem w_fl_X8_180 : Cond.fieldLink RX8 180 "HeightSheetModel" "isStarted" "Z" ∈ aW := List.mem_filter.mpr ⟨List.mem_append_right _ (List.mem_of_getElem? (i := 720) (by decide +kernel)), by decide +kernel⟩
theorem w_fl_X8_41 : Cond.fieldLink RX8 41 "HeightSheetModel" "oldValues" "[I" ∈ aW := List.mem_filter.mpr ⟨List.mem_append_right _ (List.mem_of_getElem? (i := 721) (by decide +kernel)), by decide +kernel⟩
theorem w_fl_X8_44 : Cond.fieldLink RX8 44 "HeightSheetModel" "isOldTold" "[Z" ∈ aW := List.mem_filter.mpr ⟨List.mem_append_right _ (List.mem_of_getElem? (i := 722) (by decide +kernel)), by decide +kernel⟩
theorem w_fl_X8_47 : Cond.fieldLink RX8 47 "HeightSheetModel" "oldReads" "[I" ∈ aW := List.mem_filter.mpr ⟨List.mem_append_right _ (List.mem_of_getElem? (i := 723) (by decide +kernel)), by decide +kernel⟩
theorem w_fl_X8_216 : Cond.fieldLink RX8 216 "HeightSheetModel" "evaluated" "I" ∈ aW := List.mem_filter.mpr ⟨List.mem_append_right _ (List.mem_of_getElem? (i := 724) (by decide +kernel)), by decide +kernel⟩
theorem w_fl_X8_213 : Cond.fieldLink RX8 213 "HeightSheetModel" "moved" "I" ∈ aW := List.mem_filter.mpr ⟨List.mem_append_right _ (List.mem_of_getElem? (i := 725) (by decide +kernel)), by decide +kernel⟩
theorem w_fl_X8_142 : Cond.fieldLink RX8 142 "HeightSheetModel" "isChanged" "Z" ∈ aW := List.mem_filter.mpr ⟨List.mem_append_right _ (List.mem_of_getElem? (i := 726) (by decide +kernel)), by decide +kernel⟩
theorem w_fl_X8_50 : Cond.fieldLink RX8 50 "HeightSheetModel" "undos" "[I" ∈ aW := List.mem_filter.mpr ⟨List.mem_append_right _ (List.mem_of_getElem? (i := 727) (by decide +kernel)), by decide +kernel⟩
theorem w_fl_X8_146 : Cond.fieldLink RX8 146 "HeightSheetModel" "undoMany" "I" ∈ aW := List.mem_filter.mpr ⟨List.mem_append_right _ (List.mem_of_getElem? (i := 728) (by decide +kernel)), by decide +kernel⟩
theorem w_fl_X8_53 : Cond.fieldLink RX8 53 "HeightSheetModel" "undoAside" "[I" ∈ aW := List.mem_filter.mpr ⟨List.mem_append_right _ (List.mem_of_getElem? (i := 729) (by decide +kernel)), by decide +kernel⟩
theorem w_fl_X8_56 : Cond.fieldLink RX8 56 "HeightSheetModel" "formula" "[I" ∈ aW := List.mem_filter.mpr ⟨List.mem_append_right _ (List.mem_of_getElem? (i := 730) (by decide +kernel)), by decide +kernel⟩
theorem w_fl_X8_59 : Cond.fieldLink RX8 59 "HeightSheetModel" "isKept" "[Z" ∈ aW := List.mem_filter.mpr ⟨List.mem_append_right _ (List.mem_of_getElem? (i := 731) (by decide +kernel)), by decide +kernel⟩
theorem w_fl_X8_62 : Cond.fieldLink RX8 62 "HeightSheetModel" "lanes" "[I" ∈ aW := List.mem_filter.mpr ⟨List.mem_append_right _ (List.mem_of_getElem? (i := 732) (by decide +kernel)), by decide +kernel⟩
theorem w_fl_X8_65 : Cond.fieldLink RX8 65 "HeightSheetModel" "lengths" "[I" ∈ aW := List.mem_filter.mpr ⟨List.mem_append_right _ (List.mem_of_getElem? (i := 733) (by decide +kernel)), by decide +kernel⟩
theorem w_fl_X8_68 : Cond.fieldLink RX8 68 "HeightSheetModel" "items" "[I" ∈ aW := List.mem_filter.mpr ⟨List.mem_append_right _ (List.mem_of_getElem? (i := 734) (by decide +kernel)), by decide +kernel⟩
theorem w_fl_X8_259 : Cond.fieldLink RX8 259 "HeightSheetModel" "torn" "I" ∈ aW := List.mem_filter.mpr ⟨List.mem_append_right _ (List.mem_of_getElem? (i := 735) (by decide +kernel)), by decide +kernel⟩
theorem w_fl_X8_250 : Cond.fieldLink RX8 250 "HeightSheetModel" "isAsideChanged" "Z" ∈ aW := List.mem_filter.mpr ⟨List.mem_append_right _ (List.mem_of_getElem? (i := 736) (by decide +kernel)), by decide +kernel⟩
theorem w_ml_L_17 : Cond.methodLink RL 17 yX8_feed ∈ aW := List.mem_filter.mpr ⟨List.mem_append_right _ (List.mem_of_getElem? (i := 808) (by decide +kernel)), by decide +kernel⟩
theorem w_im_X8_feed : Cond.instanceMethod yX8_feed ∈ aW := List.mem_filter.mpr ⟨List.mem_append_right _ (List.mem_of_getElem? (i := 809) (by decide +kernel)), by decide +kernel⟩
theorem w_sel_X8_feed : Cond.selects RX8 yX8_feed yX8_feed ∈ aW := List.mem_filter.mpr ⟨List.mem_append_right _ (List.mem_of_getElem? (i := 810) (by decide +kernel)), by decide +kernel⟩
theorem w_cd_X8_feed : Cond.code yX8_feed cX8_feed 2 ((some .int)) ∈ aW := List.mem_filter.mpr ⟨List.mem_append_right _ (List.mem_of_getElem? (i := 811) (by decide +kernel)), by decide +kernel⟩
theorem w_cL_X8_71 : Cond.constantLong RX8 71 (127) ∈ aW := List.mem_filter.mpr ⟨List.mem_append_right _ (List.mem_of_getElem? (i := 812) (by decide +kernel)), by decide +kernel⟩
theorem w_ml_X8_73 : Cond.methodLink RX8 73 yX8_in ∈ aW := List.mem_filter.mpr ⟨List.mem_append_right _ (List.mem_of_getElem? (i := 813) (by decide +kernel)), by decide +kernel⟩
theorem w_st_X8_in : Cond.static yX8_in ∈ aW := List.mem_filter.mpr ⟨List.mem_append_right _ (List.mem_of_getElem? (i := 814) (by decide +kernel)), by decide +kernel⟩
theorem w_cd_X8_in : Cond.code yX8_in cX8_in 6 ((some .boolean)) ∈ aW := List.mem_filter.mpr ⟨List.mem_append_right _ (List.mem_of_getElem? (i := 815) (by decide +kernel)), by decide +kernel⟩
theorem w_ml_L_21 : Cond.methodLink RL 21 yX8_end ∈ aW := List.mem_filter.mpr ⟨List.mem_append_right _ (List.mem_of_getElem? (i := 816) (by decide +kernel)), by decide +kernel⟩
theorem w_im_X8_end : Cond.instanceMethod yX8_end ∈ aW := List.mem_filter.mpr ⟨List.mem_append_right _ (List.mem_of_getElem? (i := 817) (by decide +kernel)), by decide +kernel⟩
theorem w_sel_X8_end : Cond.selects RX8 yX8_end yX8_end ∈ aW := List.mem_filter.mpr ⟨List.mem_append_right _ (List.mem_of_getElem? (i := 818) (by decide +kernel)), by decide +kernel⟩
theorem w_cd_X8_end : Cond.code yX8_end cX8_end 3 ((some .int)) ∈ aW := List.mem_filter.mpr ⟨List.mem_append_right _ (List.mem_of_getElem? (i := 819) (by decide +kernel)), by decide +kernel⟩
theorem w_ml_L_26 : Cond.methodLink RL 26 yX8_text ∈ aW := List.mem_filter.mpr ⟨List.mem_append_right _ (List.mem_of_getElem? (i := 820) (by decide +kernel)), by decide +kernel⟩
theorem w_im_X8_text : Cond.instanceMethod yX8_text ∈ aW := List.mem_filter.mpr ⟨List.mem_append_right _ (List.mem_of_getElem? (i := 821) (by decide +kernel)), by decide +kernel⟩
theorem w_sel_X8_text : Cond.selects RX8 yX8_text yX8_text ∈ aW := List.mem_filter.mpr ⟨List.mem_append_right _ (List.mem_of_getElem? (i := 822) (by decide +kernel)), by decide +kernel⟩
theorem w_cd_X8_text : Cond.code yX8_text cX8_text 3 ((some .int)) ∈ aW := List.mem_filter.mpr ⟨List.mem_append_right _ (List.mem_of_getElem? (i := 823) (by decide +kernel)), by decide +kernel⟩
theorem w_ml_X8_115 : Cond.methodLink RX8 115 yX8_readsOn ∈ aW := List.mem_filter.mpr ⟨List.mem_append_right _ (List.mem_of_getElem? (i := 824) (by decide +kernel)), by decide +kernel⟩
theorem w_im_X8_readsOn : Cond.instanceMethod yX8_readsOn ∈ aW := List.mem_filter.mpr ⟨List.mem_append_right _ (List.mem_of_getElem? (i := 826) (by decide +kernel)), by decide +kernel⟩
theorem w_cd_X8_readsOn : Cond.code yX8_readsOn cX8_readsOn 2 (none) ∈ aW := List.mem_filter.mpr ⟨List.mem_append_right _ (List.mem_of_getElem? (i := 827) (by decide +kernel)), by decide +kernel⟩
theorem w_ml_X8_96 : Cond.methodLink RX8 96 yX8_byteAt ∈ aW := List.mem_filter.mpr ⟨List.mem_append_right _ (List.mem_of_getElem? (i := 828) (by decide +kernel)), by decide +kernel⟩
theorem w_im_X8_byteAt : Cond.instanceMethod yX8_byteAt ∈ aW := List.mem_filter.mpr ⟨List.mem_append_right _ (List.mem_of_getElem? (i := 830) (by decide +kernel)), by decide +kernel⟩
theorem w_cd_X8_byteAt : Cond.code yX8_byteAt cX8_byteAt 2 ((some .int)) ∈ aW := List.mem_filter.mpr ⟨List.mem_append_right _ (List.mem_of_getElem? (i := 831) (by decide +kernel)), by decide +kernel⟩
theorem w_cL_X8_103 : Cond.constantLong RX8 103 (97) ∈ aW := List.mem_filter.mpr ⟨List.mem_append_right _ (List.mem_of_getElem? (i := 832) (by decide +kernel)), by decide +kernel⟩
theorem w_cL_X8_105 : Cond.constantLong RX8 105 (122) ∈ aW := List.mem_filter.mpr ⟨List.mem_append_right _ (List.mem_of_getElem? (i := 833) (by decide +kernel)), by decide +kernel⟩
theorem w_cL_X8_107 : Cond.constantLong RX8 107 (48) ∈ aW := List.mem_filter.mpr ⟨List.mem_append_right _ (List.mem_of_getElem? (i := 834) (by decide +kernel)), by decide +kernel⟩
theorem w_cL_X8_109 : Cond.constantLong RX8 109 (57) ∈ aW := List.mem_filter.mpr ⟨List.mem_append_right _ (List.mem_of_getElem? (i := 835) (by decide +kernel)), by decide +kernel⟩
theorem w_ml_X8_111 : Cond.methodLink RX8 111 yX8_fails ∈ aW := List.mem_filter.mpr ⟨List.mem_append_right _ (List.mem_of_getElem? (i := 836) (by decide +kernel)), by decide +kernel⟩
theorem w_im_X8_fails : Cond.instanceMethod yX8_fails ∈ aW := List.mem_filter.mpr ⟨List.mem_append_right _ (List.mem_of_getElem? (i := 838) (by decide +kernel)), by decide +kernel⟩
theorem w_cd_X8_fails : Cond.code yX8_fails cX8_fails 2 (none) ∈ aW := List.mem_filter.mpr ⟨List.mem_append_right _ (List.mem_of_getElem? (i := 839) (by decide +kernel)), by decide +kernel⟩
theorem w_ml_X8_129 : Cond.methodLink RX8 129 yX8_readLine ∈ aW := List.mem_filter.mpr ⟨List.mem_append_right _ (List.mem_of_getElem? (i := 840) (by decide +kernel)), by decide +kernel⟩
theorem w_im_X8_readLine : Cond.instanceMethod yX8_readLine ∈ aW := List.mem_filter.mpr ⟨List.mem_append_right _ (List.mem_of_getElem? (i := 842) (by decide +kernel)), by decide +kernel⟩
theorem w_cd_X8_readLine : Cond.code yX8_readLine cX8_readLine 5 (none) ∈ aW := List.mem_filter.mpr ⟨List.mem_append_right _ (List.mem_of_getElem? (i := 843) (by decide +kernel)), by decide +kernel⟩
theorem w_ml_X8_118 : Cond.methodLink RX8 118 yX8_kindHere ∈ aW := List.mem_filter.mpr ⟨List.mem_append_right _ (List.mem_of_getElem? (i := 844) (by decide +kernel)), by decide +kernel⟩
theorem w_im_X8_kindHere : Cond.instanceMethod yX8_kindHere ∈ aW := List.mem_filter.mpr ⟨List.mem_append_right _ (List.mem_of_getElem? (i := 846) (by decide +kernel)), by decide +kernel⟩
theorem w_cd_X8_kindHere : Cond.code yX8_kindHere cX8_kindHere 4 ((some .int)) ∈ aW := List.mem_filter.mpr ⟨List.mem_append_right _ (List.mem_of_getElem? (i := 847) (by decide +kernel)), by decide +kernel⟩
theorem w_ml_X8_122 : Cond.methodLink RX8 122 yX8_numberRead ∈ aW := List.mem_filter.mpr ⟨List.mem_append_right _ (List.mem_of_getElem? (i := 848) (by decide +kernel)), by decide +kernel⟩
theorem w_im_X8_numberRead : Cond.instanceMethod yX8_numberRead ∈ aW := List.mem_filter.mpr ⟨List.mem_append_right _ (List.mem_of_getElem? (i := 850) (by decide +kernel)), by decide +kernel⟩
theorem w_cd_X8_numberRead : Cond.code yX8_numberRead cX8_numberRead 4 ((some .int)) ∈ aW := List.mem_filter.mpr ⟨List.mem_append_right _ (List.mem_of_getElem? (i := 851) (by decide +kernel)), by decide +kernel⟩
theorem w_ml_X8_126 : Cond.methodLink RX8 126 yX8_operandsOf ∈ aW := List.mem_filter.mpr ⟨List.mem_append_right _ (List.mem_of_getElem? (i := 852) (by decide +kernel)), by decide +kernel⟩
theorem w_st_X8_operandsOf : Cond.static yX8_operandsOf ∈ aW := List.mem_filter.mpr ⟨List.mem_append_right _ (List.mem_of_getElem? (i := 853) (by decide +kernel)), by decide +kernel⟩
theorem w_cd_X8_operandsOf : Cond.code yX8_operandsOf cX8_operandsOf 1 ((some .int)) ∈ aW := List.mem_filter.mpr ⟨List.mem_append_right _ (List.mem_of_getElem? (i := 854) (by decide +kernel)), by decide +kernel⟩
theorem w_ml_X8_135 : Cond.methodLink RX8 135 yX8_copies ∈ aW := List.mem_filter.mpr ⟨List.mem_append_right _ (List.mem_of_getElem? (i := 855) (by decide +kernel)), by decide +kernel⟩
theorem w_im_X8_copies : Cond.instanceMethod yX8_copies ∈ aW := List.mem_filter.mpr ⟨List.mem_append_right _ (List.mem_of_getElem? (i := 857) (by decide +kernel)), by decide +kernel⟩
theorem w_cd_X8_copies : Cond.code yX8_copies cX8_copies 4 (none) ∈ aW := List.mem_filter.mpr ⟨List.mem_append_right _ (List.mem_of_getElem? (i := 858) (by decide +kernel)), by decide +kernel⟩
theorem w_ml_X8_139 : Cond.methodLink RX8 139 yX8_settles ∈ aW := List.mem_filter.mpr ⟨List.mem_append_right _ (List.mem_of_getElem? (i := 859) (by decide +kernel)), by decide +kernel⟩
theorem w_im_X8_settles : Cond.instanceMethod yX8_settles ∈ aW := List.mem_filter.mpr ⟨List.mem_append_right _ (List.mem_of_getElem? (i := 861) (by decide +kernel)), by decide +kernel⟩
theorem w_cd_X8_settles : Cond.code yX8_settles cX8_settles 3 (none) ∈ aW := List.mem_filter.mpr ⟨List.mem_append_right _ (List.mem_of_getElem? (i := 862) (by decide +kernel)), by decide +kernel⟩
theorem w_ml_X8_165 : Cond.methodLink RX8 165 yX8_isEvaluated ∈ aW := List.mem_filter.mpr ⟨List.mem_append_right _ (List.mem_of_getElem? (i := 863) (by decide +kernel)), by decide +kernel⟩
theorem w_im_X8_isEvaluated : Cond.instanceMethod yX8_isEvaluated ∈ aW := List.mem_filter.mpr ⟨List.mem_append_right _ (List.mem_of_getElem? (i := 865) (by decide +kernel)), by decide +kernel⟩
theorem w_cd_X8_isEvaluated : Cond.code yX8_isEvaluated cX8_isEvaluated 3 ((some .boolean)) ∈ aW := List.mem_filter.mpr ⟨List.mem_append_right _ (List.mem_of_getElem? (i := 866) (by decide +kernel)), by decide +kernel⟩
theorem w_ml_X8_162 : Cond.methodLink RX8 162 yX8_valueIfTold ∈ aW := List.mem_filter.mpr ⟨List.mem_append_right _ (List.mem_of_getElem? (i := 867) (by decide +kernel)), by decide +kernel⟩
theorem w_im_X8_valueIfTold : Cond.instanceMethod yX8_valueIfTold ∈ aW := List.mem_filter.mpr ⟨List.mem_append_right _ (List.mem_of_getElem? (i := 869) (by decide +kernel)), by decide +kernel⟩
theorem w_cd_X8_valueIfTold : Cond.code yX8_valueIfTold cX8_valueIfTold 4 ((some .int)) ∈ aW := List.mem_filter.mpr ⟨List.mem_append_right _ (List.mem_of_getElem? (i := 870) (by decide +kernel)), by decide +kernel⟩
theorem w_ml_X8_149 : Cond.methodLink RX8 149 yX8_isReadBy ∈ aW := List.mem_filter.mpr ⟨List.mem_append_right _ (List.mem_of_getElem? (i := 871) (by decide +kernel)), by decide +kernel⟩
theorem w_im_X8_isReadBy : Cond.instanceMethod yX8_isReadBy ∈ aW := List.mem_filter.mpr ⟨List.mem_append_right _ (List.mem_of_getElem? (i := 873) (by decide +kernel)), by decide +kernel⟩
theorem w_cd_X8_isReadBy : Cond.code yX8_isReadBy cX8_isReadBy 5 ((some .boolean)) ∈ aW := List.mem_filter.mpr ⟨List.mem_append_right _ (List.mem_of_getElem? (i := 874) (by decide +kernel)), by decide +kernel⟩
theorem w_ml_X8_153 : Cond.methodLink RX8 153 yX8_modulo ∈ aW := List.mem_filter.mpr ⟨List.mem_append_right _ (List.mem_of_getElem? (i := 875) (by decide +kernel)), by decide +kernel⟩
theorem w_st_X8_modulo : Cond.static yX8_modulo ∈ aW := List.mem_filter.mpr ⟨List.mem_append_right _ (List.mem_of_getElem? (i := 876) (by decide +kernel)), by decide +kernel⟩
theorem w_cd_X8_modulo : Cond.code yX8_modulo cX8_modulo 2 ((some .int)) ∈ aW := List.mem_filter.mpr ⟨List.mem_append_right _ (List.mem_of_getElem? (i := 877) (by decide +kernel)), by decide +kernel⟩
theorem w_ml_X8_156 : Cond.methodLink RX8 156 yX8_spanned ∈ aW := List.mem_filter.mpr ⟨List.mem_append_right _ (List.mem_of_getElem? (i := 878) (by decide +kernel)), by decide +kernel⟩
theorem w_im_X8_spanned : Cond.instanceMethod yX8_spanned ∈ aW := List.mem_filter.mpr ⟨List.mem_append_right _ (List.mem_of_getElem? (i := 880) (by decide +kernel)), by decide +kernel⟩
theorem w_cd_X8_spanned : Cond.code yX8_spanned cX8_spanned 6 ((some .int)) ∈ aW := List.mem_filter.mpr ⟨List.mem_append_right _ (List.mem_of_getElem? (i := 881) (by decide +kernel)), by decide +kernel⟩
theorem w_ml_X8_159 : Cond.methodLink RX8 159 yX8_paired ∈ aW := List.mem_filter.mpr ⟨List.mem_append_right _ (List.mem_of_getElem? (i := 882) (by decide +kernel)), by decide +kernel⟩
theorem w_im_X8_paired : Cond.instanceMethod yX8_paired ∈ aW := List.mem_filter.mpr ⟨List.mem_append_right _ (List.mem_of_getElem? (i := 884) (by decide +kernel)), by decide +kernel⟩
theorem w_cd_X8_paired : Cond.code yX8_paired cX8_paired 6 ((some .int)) ∈ aW := List.mem_filter.mpr ⟨List.mem_append_right _ (List.mem_of_getElem? (i := 885) (by decide +kernel)), by decide +kernel⟩
theorem w_ml_X8_169 : Cond.methodLink RX8 169 yX8_heightOf ∈ aW := List.mem_filter.mpr ⟨List.mem_append_right _ (List.mem_of_getElem? (i := 886) (by decide +kernel)), by decide +kernel⟩
theorem w_im_X8_heightOf : Cond.instanceMethod yX8_heightOf ∈ aW := List.mem_filter.mpr ⟨List.mem_append_right _ (List.mem_of_getElem? (i := 888) (by decide +kernel)), by decide +kernel⟩
theorem w_cd_X8_heightOf : Cond.code yX8_heightOf cX8_heightOf 5 (none) ∈ aW := List.mem_filter.mpr ⟨List.mem_append_right _ (List.mem_of_getElem? (i := 889) (by decide +kernel)), by decide +kernel⟩
theorem w_ml_L_30 : Cond.methodLink RL 30 yX8_fault ∈ aW := List.mem_filter.mpr ⟨List.mem_append_right _ (List.mem_of_getElem? (i := 890) (by decide +kernel)), by decide +kernel⟩
theorem w_im_X8_fault : Cond.instanceMethod yX8_fault ∈ aW := List.mem_filter.mpr ⟨List.mem_append_right _ (List.mem_of_getElem? (i := 891) (by decide +kernel)), by decide +kernel⟩
theorem w_sel_X8_fault : Cond.selects RX8 yX8_fault yX8_fault ∈ aW := List.mem_filter.mpr ⟨List.mem_append_right _ (List.mem_of_getElem? (i := 892) (by decide +kernel)), by decide +kernel⟩
theorem w_cd_X8_fault : Cond.code yX8_fault cX8_fault 1 ((some .int)) ∈ aW := List.mem_filter.mpr ⟨List.mem_append_right _ (List.mem_of_getElem? (i := 893) (by decide +kernel)), by decide +kernel⟩
theorem w_ml_L_34 : Cond.methodLink RL 34 yX8_rule ∈ aW := List.mem_filter.mpr ⟨List.mem_append_right _ (List.mem_of_getElem? (i := 894) (by decide +kernel)), by decide +kernel⟩
theorem w_im_X8_rule : Cond.instanceMethod yX8_rule ∈ aW := List.mem_filter.mpr ⟨List.mem_append_right _ (List.mem_of_getElem? (i := 895) (by decide +kernel)), by decide +kernel⟩
theorem w_sel_X8_rule : Cond.selects RX8 yX8_rule yX8_rule ∈ aW := List.mem_filter.mpr ⟨List.mem_append_right _ (List.mem_of_getElem? (i := 896) (by decide +kernel)), by decide +kernel⟩
theorem w_cd_X8_rule : Cond.code yX8_rule cX8_rule 5 ((some .int)) ∈ aW := List.mem_filter.mpr ⟨List.mem_append_right _ (List.mem_of_getElem? (i := 897) (by decide +kernel)), by decide +kernel⟩
theorem w_ml_X8_183 : Cond.methodLink RX8 183 yX8_starts ∈ aW := List.mem_filter.mpr ⟨List.mem_append_right _ (List.mem_of_getElem? (i := 898) (by decide +kernel)), by decide +kernel⟩
theorem w_im_X8_starts : Cond.instanceMethod yX8_starts ∈ aW := List.mem_filter.mpr ⟨List.mem_append_right _ (List.mem_of_getElem? (i := 900) (by decide +kernel)), by decide +kernel⟩
theorem w_cd_X8_starts : Cond.code yX8_starts cX8_starts 1 (none) ∈ aW := List.mem_filter.mpr ⟨List.mem_append_right _ (List.mem_of_getElem? (i := 901) (by decide +kernel)), by decide +kernel⟩
theorem w_ml_X8_186 : Cond.methodLink RX8 186 yX8_ruled ∈ aW := List.mem_filter.mpr ⟨List.mem_append_right _ (List.mem_of_getElem? (i := 902) (by decide +kernel)), by decide +kernel⟩
theorem w_im_X8_ruled : Cond.instanceMethod yX8_ruled ∈ aW := List.mem_filter.mpr ⟨List.mem_append_right _ (List.mem_of_getElem? (i := 904) (by decide +kernel)), by decide +kernel⟩
theorem w_cd_X8_ruled : Cond.code yX8_ruled cX8_ruled 3 ((some .int)) ∈ aW := List.mem_filter.mpr ⟨List.mem_append_right _ (List.mem_of_getElem? (i := 905) (by decide +kernel)), by decide +kernel⟩
theorem w_ml_X8_174 : Cond.methodLink RX8 174 yX8_circleOf ∈ aW := List.mem_filter.mpr ⟨List.mem_append_right _ (List.mem_of_getElem? (i := 906) (by decide +kernel)), by decide +kernel⟩
theorem w_im_X8_circleOf : Cond.instanceMethod yX8_circleOf ∈ aW := List.mem_filter.mpr ⟨List.mem_append_right _ (List.mem_of_getElem? (i := 908) (by decide +kernel)), by decide +kernel⟩
theorem w_cd_X8_circleOf : Cond.code yX8_circleOf cX8_circleOf 4 ((some .int)) ∈ aW := List.mem_filter.mpr ⟨List.mem_append_right _ (List.mem_of_getElem? (i := 909) (by decide +kernel)), by decide +kernel⟩
theorem w_ml_X8_177 : Cond.methodLink RX8 177 yX8_isFirst ∈ aW := List.mem_filter.mpr ⟨List.mem_append_right _ (List.mem_of_getElem? (i := 910) (by decide +kernel)), by decide +kernel⟩
theorem w_im_X8_isFirst : Cond.instanceMethod yX8_isFirst ∈ aW := List.mem_filter.mpr ⟨List.mem_append_right _ (List.mem_of_getElem? (i := 912) (by decide +kernel)), by decide +kernel⟩
theorem w_cd_X8_isFirst : Cond.code yX8_isFirst cX8_isFirst 6 ((some .boolean)) ∈ aW := List.mem_filter.mpr ⟨List.mem_append_right _ (List.mem_of_getElem? (i := 913) (by decide +kernel)), by decide +kernel⟩
theorem w_ml_X8_189 : Cond.methodLink RX8 189 yX8_formulas ∈ aW := List.mem_filter.mpr ⟨List.mem_append_right _ (List.mem_of_getElem? (i := 914) (by decide +kernel)), by decide +kernel⟩
theorem w_im_X8_formulas : Cond.instanceMethod yX8_formulas ∈ aW := List.mem_filter.mpr ⟨List.mem_append_right _ (List.mem_of_getElem? (i := 916) (by decide +kernel)), by decide +kernel⟩
theorem w_cd_X8_formulas : Cond.code yX8_formulas cX8_formulas 3 ((some .int)) ∈ aW := List.mem_filter.mpr ⟨List.mem_append_right _ (List.mem_of_getElem? (i := 917) (by decide +kernel)), by decide +kernel⟩
theorem w_cL_X8_192 : Cond.constantLong RX8 192 (6) ∈ aW := List.mem_filter.mpr ⟨List.mem_append_right _ (List.mem_of_getElem? (i := 918) (by decide +kernel)), by decide +kernel⟩
theorem w_ml_L_39 : Cond.methodLink RL 39 yX8_cell ∈ aW := List.mem_filter.mpr ⟨List.mem_append_right _ (List.mem_of_getElem? (i := 919) (by decide +kernel)), by decide +kernel⟩
theorem w_im_X8_cell : Cond.instanceMethod yX8_cell ∈ aW := List.mem_filter.mpr ⟨List.mem_append_right _ (List.mem_of_getElem? (i := 920) (by decide +kernel)), by decide +kernel⟩
theorem w_sel_X8_cell : Cond.selects RX8 yX8_cell yX8_cell ∈ aW := List.mem_filter.mpr ⟨List.mem_append_right _ (List.mem_of_getElem? (i := 921) (by decide +kernel)), by decide +kernel⟩
theorem w_cd_X8_cell : Cond.code yX8_cell cX8_cell 3 ((some .int)) ∈ aW := List.mem_filter.mpr ⟨List.mem_append_right _ (List.mem_of_getElem? (i := 922) (by decide +kernel)), by decide +kernel⟩
theorem w_ml_X8_197 : Cond.methodLink RX8 197 yX8_isCell ∈ aW := List.mem_filter.mpr ⟨List.mem_append_right _ (List.mem_of_getElem? (i := 923) (by decide +kernel)), by decide +kernel⟩
theorem w_st_X8_isCell : Cond.static yX8_isCell ∈ aW := List.mem_filter.mpr ⟨List.mem_append_right _ (List.mem_of_getElem? (i := 924) (by decide +kernel)), by decide +kernel⟩
theorem w_cd_X8_isCell : Cond.code yX8_isCell cX8_isCell 1 ((some .boolean)) ∈ aW := List.mem_filter.mpr ⟨List.mem_append_right _ (List.mem_of_getElem? (i := 925) (by decide +kernel)), by decide +kernel⟩
theorem w_cL_X8_172 : Cond.constantLong RX8 172 (29) ∈ aW := List.mem_filter.mpr ⟨List.mem_append_right _ (List.mem_of_getElem? (i := 926) (by decide +kernel)), by decide +kernel⟩
theorem w_ml_X8_200 : Cond.methodLink RX8 200 yX8_readersOf ∈ aW := List.mem_filter.mpr ⟨List.mem_append_right _ (List.mem_of_getElem? (i := 927) (by decide +kernel)), by decide +kernel⟩
theorem w_im_X8_readersOf : Cond.instanceMethod yX8_readersOf ∈ aW := List.mem_filter.mpr ⟨List.mem_append_right _ (List.mem_of_getElem? (i := 929) (by decide +kernel)), by decide +kernel⟩
theorem w_cd_X8_readersOf : Cond.code yX8_readersOf cX8_readersOf 4 ((some .int)) ∈ aW := List.mem_filter.mpr ⟨List.mem_append_right _ (List.mem_of_getElem? (i := 930) (by decide +kernel)), by decide +kernel⟩
theorem w_ml_X8_194 : Cond.methodLink RX8 194 yX8_isReading ∈ aW := List.mem_filter.mpr ⟨List.mem_append_right _ (List.mem_of_getElem? (i := 931) (by decide +kernel)), by decide +kernel⟩
theorem w_im_X8_isReading : Cond.instanceMethod yX8_isReading ∈ aW := List.mem_filter.mpr ⟨List.mem_append_right _ (List.mem_of_getElem? (i := 933) (by decide +kernel)), by decide +kernel⟩
theorem w_cd_X8_isReading : Cond.code yX8_isReading cX8_isReading 5 ((some .boolean)) ∈ aW := List.mem_filter.mpr ⟨List.mem_append_right _ (List.mem_of_getElem? (i := 934) (by decide +kernel)), by decide +kernel⟩
theorem w_ml_L_43 : Cond.methodLink RL 43 yX8_value ∈ aW := List.mem_filter.mpr ⟨List.mem_append_right _ (List.mem_of_getElem? (i := 935) (by decide +kernel)), by decide +kernel⟩
theorem w_im_X8_value : Cond.instanceMethod yX8_value ∈ aW := List.mem_filter.mpr ⟨List.mem_append_right _ (List.mem_of_getElem? (i := 936) (by decide +kernel)), by decide +kernel⟩
theorem w_sel_X8_value : Cond.selects RX8 yX8_value yX8_value ∈ aW := List.mem_filter.mpr ⟨List.mem_append_right _ (List.mem_of_getElem? (i := 937) (by decide +kernel)), by decide +kernel⟩
theorem w_cd_X8_value : Cond.code yX8_value cX8_value 2 ((some .int)) ∈ aW := List.mem_filter.mpr ⟨List.mem_append_right _ (List.mem_of_getElem? (i := 938) (by decide +kernel)), by decide +kernel⟩
theorem w_ml_L_47 : Cond.methodLink RL 47 yX8_reads ∈ aW := List.mem_filter.mpr ⟨List.mem_append_right _ (List.mem_of_getElem? (i := 939) (by decide +kernel)), by decide +kernel⟩
theorem w_im_X8_reads : Cond.instanceMethod yX8_reads ∈ aW := List.mem_filter.mpr ⟨List.mem_append_right _ (List.mem_of_getElem? (i := 940) (by decide +kernel)), by decide +kernel⟩
theorem w_sel_X8_reads : Cond.selects RX8 yX8_reads yX8_reads ∈ aW := List.mem_filter.mpr ⟨List.mem_append_right _ (List.mem_of_getElem? (i := 941) (by decide +kernel)), by decide +kernel⟩
theorem w_cd_X8_reads : Cond.code yX8_reads cX8_reads 3 ((some .int)) ∈ aW := List.mem_filter.mpr ⟨List.mem_append_right _ (List.mem_of_getElem? (i := 942) (by decide +kernel)), by decide +kernel⟩
theorem w_ml_L_51 : Cond.methodLink RL 51 yX8_reader ∈ aW := List.mem_filter.mpr ⟨List.mem_append_right _ (List.mem_of_getElem? (i := 943) (by decide +kernel)), by decide +kernel⟩
theorem w_im_X8_reader : Cond.instanceMethod yX8_reader ∈ aW := List.mem_filter.mpr ⟨List.mem_append_right _ (List.mem_of_getElem? (i := 944) (by decide +kernel)), by decide +kernel⟩
theorem w_sel_X8_reader : Cond.selects RX8 yX8_reader yX8_reader ∈ aW := List.mem_filter.mpr ⟨List.mem_append_right _ (List.mem_of_getElem? (i := 945) (by decide +kernel)), by decide +kernel⟩
theorem w_cd_X8_reader : Cond.code yX8_reader cX8_reader 5 ((some .int)) ∈ aW := List.mem_filter.mpr ⟨List.mem_append_right _ (List.mem_of_getElem? (i := 946) (by decide +kernel)), by decide +kernel⟩
theorem w_ml_L_55 : Cond.methodLink RL 55 yX8_far ∈ aW := List.mem_filter.mpr ⟨List.mem_append_right _ (List.mem_of_getElem? (i := 947) (by decide +kernel)), by decide +kernel⟩
theorem w_im_X8_far : Cond.instanceMethod yX8_far ∈ aW := List.mem_filter.mpr ⟨List.mem_append_right _ (List.mem_of_getElem? (i := 948) (by decide +kernel)), by decide +kernel⟩
theorem w_sel_X8_far : Cond.selects RX8 yX8_far yX8_far ∈ aW := List.mem_filter.mpr ⟨List.mem_append_right _ (List.mem_of_getElem? (i := 949) (by decide +kernel)), by decide +kernel⟩
theorem w_cd_X8_far : Cond.code yX8_far cX8_far 5 ((some .int)) ∈ aW := List.mem_filter.mpr ⟨List.mem_append_right _ (List.mem_of_getElem? (i := 950) (by decide +kernel)), by decide +kernel⟩
theorem w_ml_X8_206 : Cond.methodLink RX8 206 yX8_needsOf ∈ aW := List.mem_filter.mpr ⟨List.mem_append_right _ (List.mem_of_getElem? (i := 951) (by decide +kernel)), by decide +kernel⟩
theorem w_im_X8_needsOf : Cond.instanceMethod yX8_needsOf ∈ aW := List.mem_filter.mpr ⟨List.mem_append_right _ (List.mem_of_getElem? (i := 953) (by decide +kernel)), by decide +kernel⟩
theorem w_cd_X8_needsOf : Cond.code yX8_needsOf cX8_needsOf 5 ((some .int)) ∈ aW := List.mem_filter.mpr ⟨List.mem_append_right _ (List.mem_of_getElem? (i := 954) (by decide +kernel)), by decide +kernel⟩
theorem w_ml_X8_203 : Cond.methodLink RX8 203 yX8_bitsRead ∈ aW := List.mem_filter.mpr ⟨List.mem_append_right _ (List.mem_of_getElem? (i := 955) (by decide +kernel)), by decide +kernel⟩
theorem w_im_X8_bitsRead : Cond.instanceMethod yX8_bitsRead ∈ aW := List.mem_filter.mpr ⟨List.mem_append_right _ (List.mem_of_getElem? (i := 957) (by decide +kernel)), by decide +kernel⟩
theorem w_cd_X8_bitsRead : Cond.code yX8_bitsRead cX8_bitsRead 4 ((some .int)) ∈ aW := List.mem_filter.mpr ⟨List.mem_append_right _ (List.mem_of_getElem? (i := 958) (by decide +kernel)), by decide +kernel⟩
theorem w_ml_L_59 : Cond.methodLink RL 59 yX8_order ∈ aW := List.mem_filter.mpr ⟨List.mem_append_right _ (List.mem_of_getElem? (i := 959) (by decide +kernel)), by decide +kernel⟩
theorem w_im_X8_order : Cond.instanceMethod yX8_order ∈ aW := List.mem_filter.mpr ⟨List.mem_append_right _ (List.mem_of_getElem? (i := 960) (by decide +kernel)), by decide +kernel⟩
theorem w_sel_X8_order : Cond.selects RX8 yX8_order yX8_order ∈ aW := List.mem_filter.mpr ⟨List.mem_append_right _ (List.mem_of_getElem? (i := 961) (by decide +kernel)), by decide +kernel⟩
theorem w_cd_X8_order : Cond.code yX8_order cX8_order 5 ((some .int)) ∈ aW := List.mem_filter.mpr ⟨List.mem_append_right _ (List.mem_of_getElem? (i := 962) (by decide +kernel)), by decide +kernel⟩
theorem w_ml_L_63 : Cond.methodLink RL 63 yX8_circle ∈ aW := List.mem_filter.mpr ⟨List.mem_append_right _ (List.mem_of_getElem? (i := 963) (by decide +kernel)), by decide +kernel⟩
theorem w_im_X8_circle : Cond.instanceMethod yX8_circle ∈ aW := List.mem_filter.mpr ⟨List.mem_append_right _ (List.mem_of_getElem? (i := 964) (by decide +kernel)), by decide +kernel⟩
theorem w_sel_X8_circle : Cond.selects RX8 yX8_circle yX8_circle ∈ aW := List.mem_filter.mpr ⟨List.mem_append_right _ (List.mem_of_getElem? (i := 965) (by decide +kernel)), by decide +kernel⟩
theorem w_cd_X8_circle : Cond.code yX8_circle cX8_circle 5 ((some .int)) ∈ aW := List.mem_filter.mpr ⟨List.mem_append_right _ (List.mem_of_getElem? (i := 966) (by decide +kernel)), by decide +kernel⟩
theorem w_ml_L_68 : Cond.methodLink RL 68 yX8_put ∈ aW := List.mem_filter.mpr ⟨List.mem_append_right _ (List.mem_of_getElem? (i := 967) (by decide +kernel)), by decide +kernel⟩
theorem w_im_X8_put : Cond.instanceMethod yX8_put ∈ aW := List.mem_filter.mpr ⟨List.mem_append_right _ (List.mem_of_getElem? (i := 968) (by decide +kernel)), by decide +kernel⟩
theorem w_sel_X8_put : Cond.selects RX8 yX8_put yX8_put ∈ aW := List.mem_filter.mpr ⟨List.mem_append_right _ (List.mem_of_getElem? (i := 969) (by decide +kernel)), by decide +kernel⟩
theorem w_cd_X8_put : Cond.code yX8_put cX8_put 6 ((some .int)) ∈ aW := List.mem_filter.mpr ⟨List.mem_append_right _ (List.mem_of_getElem? (i := 970) (by decide +kernel)), by decide +kernel⟩
theorem w_ml_X8_236 : Cond.methodLink RX8 236 yX8_putsFormula ∈ aW := List.mem_filter.mpr ⟨List.mem_append_right _ (List.mem_of_getElem? (i := 971) (by decide +kernel)), by decide +kernel⟩
theorem w_im_X8_putsFormula : Cond.instanceMethod yX8_putsFormula ∈ aW := List.mem_filter.mpr ⟨List.mem_append_right _ (List.mem_of_getElem? (i := 973) (by decide +kernel)), by decide +kernel⟩
theorem w_cd_X8_putsFormula : Cond.code yX8_putsFormula cX8_putsFormula 6 ((some .int)) ∈ aW := List.mem_filter.mpr ⟨List.mem_append_right _ (List.mem_of_getElem? (i := 974) (by decide +kernel)), by decide +kernel⟩
theorem w_ml_X8_225 : Cond.methodLink RX8 225 yX8_isFormula ∈ aW := List.mem_filter.mpr ⟨List.mem_append_right _ (List.mem_of_getElem? (i := 975) (by decide +kernel)), by decide +kernel⟩
theorem w_st_X8_isFormula : Cond.static yX8_isFormula ∈ aW := List.mem_filter.mpr ⟨List.mem_append_right _ (List.mem_of_getElem? (i := 976) (by decide +kernel)), by decide +kernel⟩
theorem w_cd_X8_isFormula : Cond.code yX8_isFormula cX8_isFormula 7 ((some .boolean)) ∈ aW := List.mem_filter.mpr ⟨List.mem_append_right _ (List.mem_of_getElem? (i := 977) (by decide +kernel)), by decide +kernel⟩
theorem w_cL_X8_209 : Cond.constantLong RX8 209 (8) ∈ aW := List.mem_filter.mpr ⟨List.mem_append_right _ (List.mem_of_getElem? (i := 978) (by decide +kernel)), by decide +kernel⟩
theorem w_cL_X8_211 : Cond.constantLong RX8 211 (999) ∈ aW := List.mem_filter.mpr ⟨List.mem_append_right _ (List.mem_of_getElem? (i := 979) (by decide +kernel)), by decide +kernel⟩
theorem w_ml_X8_229 : Cond.methodLink RX8 229 yX8_formulaIs ∈ aW := List.mem_filter.mpr ⟨List.mem_append_right _ (List.mem_of_getElem? (i := 980) (by decide +kernel)), by decide +kernel⟩
theorem w_im_X8_formulaIs : Cond.instanceMethod yX8_formulaIs ∈ aW := List.mem_filter.mpr ⟨List.mem_append_right _ (List.mem_of_getElem? (i := 982) (by decide +kernel)), by decide +kernel⟩
theorem w_cd_X8_formulaIs : Cond.code yX8_formulaIs cX8_formulaIs 6 (none) ∈ aW := List.mem_filter.mpr ⟨List.mem_append_right _ (List.mem_of_getElem? (i := 983) (by decide +kernel)), by decide +kernel⟩
theorem w_ml_X8_233 : Cond.methodLink RX8 233 yX8_puts ∈ aW := List.mem_filter.mpr ⟨List.mem_append_right _ (List.mem_of_getElem? (i := 984) (by decide +kernel)), by decide +kernel⟩
theorem w_im_X8_puts : Cond.instanceMethod yX8_puts ∈ aW := List.mem_filter.mpr ⟨List.mem_append_right _ (List.mem_of_getElem? (i := 986) (by decide +kernel)), by decide +kernel⟩
theorem w_cd_X8_puts : Cond.code yX8_puts cX8_puts 3 ((some .int)) ∈ aW := List.mem_filter.mpr ⟨List.mem_append_right _ (List.mem_of_getElem? (i := 987) (by decide +kernel)), by decide +kernel⟩
theorem w_ml_X8_219 : Cond.methodLink RX8 219 yX8_changes ∈ aW := List.mem_filter.mpr ⟨List.mem_append_right _ (List.mem_of_getElem? (i := 988) (by decide +kernel)), by decide +kernel⟩
theorem w_im_X8_changes : Cond.instanceMethod yX8_changes ∈ aW := List.mem_filter.mpr ⟨List.mem_append_right _ (List.mem_of_getElem? (i := 990) (by decide +kernel)), by decide +kernel⟩
theorem w_cd_X8_changes : Cond.code yX8_changes cX8_changes 4 (none) ∈ aW := List.mem_filter.mpr ⟨List.mem_append_right _ (List.mem_of_getElem? (i := 991) (by decide +kernel)), by decide +kernel⟩
theorem w_ml_X8_222 : Cond.methodLink RX8 222 yX8_bitsOf ∈ aW := List.mem_filter.mpr ⟨List.mem_append_right _ (List.mem_of_getElem? (i := 992) (by decide +kernel)), by decide +kernel⟩
theorem w_st_X8_bitsOf : Cond.static yX8_bitsOf ∈ aW := List.mem_filter.mpr ⟨List.mem_append_right _ (List.mem_of_getElem? (i := 993) (by decide +kernel)), by decide +kernel⟩
theorem w_cd_X8_bitsOf : Cond.code yX8_bitsOf cX8_bitsOf 3 ((some .int)) ∈ aW := List.mem_filter.mpr ⟨List.mem_append_right _ (List.mem_of_getElem? (i := 994) (by decide +kernel)), by decide +kernel⟩
theorem w_ml_L_73 : Cond.methodLink RL 73 yX8_would ∈ aW := List.mem_filter.mpr ⟨List.mem_append_right _ (List.mem_of_getElem? (i := 995) (by decide +kernel)), by decide +kernel⟩
theorem w_im_X8_would : Cond.instanceMethod yX8_would ∈ aW := List.mem_filter.mpr ⟨List.mem_append_right _ (List.mem_of_getElem? (i := 996) (by decide +kernel)), by decide +kernel⟩
theorem w_sel_X8_would : Cond.selects RX8 yX8_would yX8_would ∈ aW := List.mem_filter.mpr ⟨List.mem_append_right _ (List.mem_of_getElem? (i := 997) (by decide +kernel)), by decide +kernel⟩
theorem w_cd_X8_would : Cond.code yX8_would cX8_would 11 ((some .int)) ∈ aW := List.mem_filter.mpr ⟨List.mem_append_right _ (List.mem_of_getElem? (i := 998) (by decide +kernel)), by decide +kernel⟩
theorem w_cL_X8_240 : Cond.constantLong RX8 240 (2) ∈ aW := List.mem_filter.mpr ⟨List.mem_append_right _ (List.mem_of_getElem? (i := 999) (by decide +kernel)), by decide +kernel⟩
theorem w_ml_L_77 : Cond.methodLink RL 77 yX8_latest ∈ aW := List.mem_filter.mpr ⟨List.mem_append_right _ (List.mem_of_getElem? (i := 1000) (by decide +kernel)), by decide +kernel⟩
theorem w_im_X8_latest : Cond.instanceMethod yX8_latest ∈ aW := List.mem_filter.mpr ⟨List.mem_append_right _ (List.mem_of_getElem? (i := 1001) (by decide +kernel)), by decide +kernel⟩
theorem w_sel_X8_latest : Cond.selects RX8 yX8_latest yX8_latest ∈ aW := List.mem_filter.mpr ⟨List.mem_append_right _ (List.mem_of_getElem? (i := 1002) (by decide +kernel)), by decide +kernel⟩
theorem w_cd_X8_latest : Cond.code yX8_latest cX8_latest 2 ((some .int)) ∈ aW := List.mem_filter.mpr ⟨List.mem_append_right _ (List.mem_of_getElem? (i := 1003) (by decide +kernel)), by decide +kernel⟩
theorem w_ml_L_81 : Cond.methodLink RL 81 yX8_undo ∈ aW := List.mem_filter.mpr ⟨List.mem_append_right _ (List.mem_of_getElem? (i := 1004) (by decide +kernel)), by decide +kernel⟩
theorem w_im_X8_undo : Cond.instanceMethod yX8_undo ∈ aW := List.mem_filter.mpr ⟨List.mem_append_right _ (List.mem_of_getElem? (i := 1005) (by decide +kernel)), by decide +kernel⟩
theorem w_sel_X8_undo : Cond.selects RX8 yX8_undo yX8_undo ∈ aW := List.mem_filter.mpr ⟨List.mem_append_right _ (List.mem_of_getElem? (i := 1006) (by decide +kernel)), by decide +kernel⟩
theorem w_cd_X8_undo : Cond.code yX8_undo cX8_undo 2 ((some .int)) ∈ aW := List.mem_filter.mpr ⟨List.mem_append_right _ (List.mem_of_getElem? (i := 1007) (by decide +kernel)), by decide +kernel⟩
theorem w_ml_L_85 : Cond.methodLink RL 85 yX8_storm ∈ aW := List.mem_filter.mpr ⟨List.mem_append_right _ (List.mem_of_getElem? (i := 1008) (by decide +kernel)), by decide +kernel⟩
theorem w_im_X8_storm : Cond.instanceMethod yX8_storm ∈ aW := List.mem_filter.mpr ⟨List.mem_append_right _ (List.mem_of_getElem? (i := 1009) (by decide +kernel)), by decide +kernel⟩
theorem w_sel_X8_storm : Cond.selects RX8 yX8_storm yX8_storm ∈ aW := List.mem_filter.mpr ⟨List.mem_append_right _ (List.mem_of_getElem? (i := 1010) (by decide +kernel)), by decide +kernel⟩
theorem w_cd_X8_storm : Cond.code yX8_storm cX8_storm 13 ((some .int)) ∈ aW := List.mem_filter.mpr ⟨List.mem_append_right _ (List.mem_of_getElem? (i := 1011) (by decide +kernel)), by decide +kernel⟩
theorem w_cL_X8_243 : Cond.constantLong RX8 243 (20) ∈ aW := List.mem_filter.mpr ⟨List.mem_append_right _ (List.mem_of_getElem? (i := 1012) (by decide +kernel)), by decide +kernel⟩
theorem w_ml_X8_245 : Cond.methodLink RX8 245 yX8_drawn ∈ aW := List.mem_filter.mpr ⟨List.mem_append_right _ (List.mem_of_getElem? (i := 1013) (by decide +kernel)), by decide +kernel⟩
theorem w_st_X8_drawn : Cond.static yX8_drawn ∈ aW := List.mem_filter.mpr ⟨List.mem_append_right _ (List.mem_of_getElem? (i := 1014) (by decide +kernel)), by decide +kernel⟩
theorem w_cd_X8_drawn : Cond.code yX8_drawn cX8_drawn 1 ((some .int)) ∈ aW := List.mem_filter.mpr ⟨List.mem_append_right _ (List.mem_of_getElem? (i := 1015) (by decide +kernel)), by decide +kernel⟩
theorem w_co_X8_242 : Cond.constant RX8 242 (1103515245) ∈ aW := List.mem_filter.mpr ⟨List.mem_append_right _ (List.mem_of_getElem? (i := 1016) (by decide +kernel)), by decide +kernel⟩
theorem w_ml_L_89 : Cond.methodLink RL 89 yX8_keep ∈ aW := List.mem_filter.mpr ⟨List.mem_append_right _ (List.mem_of_getElem? (i := 1017) (by decide +kernel)), by decide +kernel⟩
theorem w_im_X8_keep : Cond.instanceMethod yX8_keep ∈ aW := List.mem_filter.mpr ⟨List.mem_append_right _ (List.mem_of_getElem? (i := 1018) (by decide +kernel)), by decide +kernel⟩
theorem w_sel_X8_keep : Cond.selects RX8 yX8_keep yX8_keep ∈ aW := List.mem_filter.mpr ⟨List.mem_append_right _ (List.mem_of_getElem? (i := 1019) (by decide +kernel)), by decide +kernel⟩
theorem w_cd_X8_keep : Cond.code yX8_keep cX8_keep 3 ((some .int)) ∈ aW := List.mem_filter.mpr ⟨List.mem_append_right _ (List.mem_of_getElem? (i := 1020) (by decide +kernel)), by decide +kernel⟩
theorem w_ml_L_93 : Cond.methodLink RL 93 yX8_back ∈ aW := List.mem_filter.mpr ⟨List.mem_append_right _ (List.mem_of_getElem? (i := 1021) (by decide +kernel)), by decide +kernel⟩
theorem w_im_X8_back : Cond.instanceMethod yX8_back ∈ aW := List.mem_filter.mpr ⟨List.mem_append_right _ (List.mem_of_getElem? (i := 1022) (by decide +kernel)), by decide +kernel⟩
theorem w_sel_X8_back : Cond.selects RX8 yX8_back yX8_back ∈ aW := List.mem_filter.mpr ⟨List.mem_append_right _ (List.mem_of_getElem? (i := 1023) (by decide +kernel)), by decide +kernel⟩
theorem w_cd_X8_back : Cond.code yX8_back cX8_back 2 ((some .int)) ∈ aW := List.mem_filter.mpr ⟨List.mem_append_right _ (List.mem_of_getElem? (i := 1024) (by decide +kernel)), by decide +kernel⟩
theorem w_ml_L_98 : Cond.methodLink RL 98 yX8_sheet ∈ aW := List.mem_filter.mpr ⟨List.mem_append_right _ (List.mem_of_getElem? (i := 1025) (by decide +kernel)), by decide +kernel⟩
theorem w_im_X8_sheet : Cond.instanceMethod yX8_sheet ∈ aW := List.mem_filter.mpr ⟨List.mem_append_right _ (List.mem_of_getElem? (i := 1026) (by decide +kernel)), by decide +kernel⟩
theorem w_sel_X8_sheet : Cond.selects RX8 yX8_sheet yX8_sheet ∈ aW := List.mem_filter.mpr ⟨List.mem_append_right _ (List.mem_of_getElem? (i := 1027) (by decide +kernel)), by decide +kernel⟩
theorem w_cd_X8_sheet : Cond.code yX8_sheet cX8_sheet 5 ((some .int)) ∈ aW := List.mem_filter.mpr ⟨List.mem_append_right _ (List.mem_of_getElem? (i := 1028) (by decide +kernel)), by decide +kernel⟩
theorem w_cL_X8_248 : Cond.constantLong RX8 248 (3) ∈ aW := List.mem_filter.mpr ⟨List.mem_append_right _ (List.mem_of_getElem? (i := 1029) (by decide +kernel)), by decide +kernel⟩
theorem w_ml_L_102 : Cond.methodLink RL 102 yX8_lay ∈ aW := List.mem_filter.mpr ⟨List.mem_append_right _ (List.mem_of_getElem? (i := 1030) (by decide +kernel)), by decide +kernel⟩
theorem w_im_X8_lay : Cond.instanceMethod yX8_lay ∈ aW := List.mem_filter.mpr ⟨List.mem_append_right _ (List.mem_of_getElem? (i := 1031) (by decide +kernel)), by decide +kernel⟩
theorem w_sel_X8_lay : Cond.selects RX8 yX8_lay yX8_lay ∈ aW := List.mem_filter.mpr ⟨List.mem_append_right _ (List.mem_of_getElem? (i := 1032) (by decide +kernel)), by decide +kernel⟩
theorem w_cd_X8_lay : Cond.code yX8_lay cX8_lay 4 ((some .int)) ∈ aW := List.mem_filter.mpr ⟨List.mem_append_right _ (List.mem_of_getElem? (i := 1033) (by decide +kernel)), by decide +kernel⟩
theorem w_ml_L_107 : Cond.methodLink RL 107 yX8_read ∈ aW := List.mem_filter.mpr ⟨List.mem_append_right _ (List.mem_of_getElem? (i := 1034) (by decide +kernel)), by decide +kernel⟩
theorem w_im_X8_read : Cond.instanceMethod yX8_read ∈ aW := List.mem_filter.mpr ⟨List.mem_append_right _ (List.mem_of_getElem? (i := 1035) (by decide +kernel)), by decide +kernel⟩
theorem w_sel_X8_read : Cond.selects RX8 yX8_read yX8_read ∈ aW := List.mem_filter.mpr ⟨List.mem_append_right _ (List.mem_of_getElem? (i := 1036) (by decide +kernel)), by decide +kernel⟩
theorem w_cd_X8_read : Cond.code yX8_read cX8_read 11 ((some .int)) ∈ aW := List.mem_filter.mpr ⟨List.mem_append_right _ (List.mem_of_getElem? (i := 1037) (by decide +kernel)), by decide +kernel⟩
theorem w_ml_X8_253 : Cond.methodLink RX8 253 yX8_setsAside ∈ aW := List.mem_filter.mpr ⟨List.mem_append_right _ (List.mem_of_getElem? (i := 1038) (by decide +kernel)), by decide +kernel⟩
theorem w_im_X8_setsAside : Cond.instanceMethod yX8_setsAside ∈ aW := List.mem_filter.mpr ⟨List.mem_append_right _ (List.mem_of_getElem? (i := 1040) (by decide +kernel)), by decide +kernel⟩
theorem w_cd_X8_setsAside : Cond.code yX8_setsAside cX8_setsAside 2 (none) ∈ aW := List.mem_filter.mpr ⟨List.mem_append_right _ (List.mem_of_getElem? (i := 1041) (by decide +kernel)), by decide +kernel⟩
theorem w_ml_X8_256 : Cond.methodLink RX8 256 yX8_getsAside ∈ aW := List.mem_filter.mpr ⟨List.mem_append_right _ (List.mem_of_getElem? (i := 1042) (by decide +kernel)), by decide +kernel⟩
theorem w_im_X8_getsAside : Cond.instanceMethod yX8_getsAside ∈ aW := List.mem_filter.mpr ⟨List.mem_append_right _ (List.mem_of_getElem? (i := 1044) (by decide +kernel)), by decide +kernel⟩
theorem w_cd_X8_getsAside : Cond.code yX8_getsAside cX8_getsAside 2 (none) ∈ aW := List.mem_filter.mpr ⟨List.mem_append_right _ (List.mem_of_getElem? (i := 1045) (by decide +kernel)), by decide +kernel⟩
theorem w_ml_L_111 : Cond.methodLink RL 111 yX8_torn ∈ aW := List.mem_filter.mpr ⟨List.mem_append_right _ (List.mem_of_getElem? (i := 1046) (by decide +kernel)), by decide +kernel⟩
theorem w_im_X8_torn : Cond.instanceMethod yX8_torn ∈ aW := List.mem_filter.mpr ⟨List.mem_append_right _ (List.mem_of_getElem? (i := 1047) (by decide +kernel)), by decide +kernel⟩
theorem w_sel_X8_torn : Cond.selects RX8 yX8_torn yX8_torn ∈ aW := List.mem_filter.mpr ⟨List.mem_append_right _ (List.mem_of_getElem? (i := 1048) (by decide +kernel)), by decide +kernel⟩
theorem w_cd_X8_torn : Cond.code yX8_torn cX8_torn 1 ((some .int)) ∈ aW := List.mem_filter.mpr ⟨List.mem_append_right _ (List.mem_of_getElem? (i := 1049) (by decide +kernel)), by decide +kernel⟩
theorem w_ml_L_115 : Cond.methodLink RL 115 yX8_count ∈ aW := List.mem_filter.mpr ⟨List.mem_append_right _ (List.mem_of_getElem? (i := 1050) (by decide +kernel)), by decide +kernel⟩
theorem w_im_X8_count : Cond.instanceMethod yX8_count ∈ aW := List.mem_filter.mpr ⟨List.mem_append_right _ (List.mem_of_getElem? (i := 1051) (by decide +kernel)), by decide +kernel⟩
theorem w_sel_X8_count : Cond.selects RX8 yX8_count yX8_count ∈ aW := List.mem_filter.mpr ⟨List.mem_append_right _ (List.mem_of_getElem? (i := 1052) (by decide +kernel)), by decide +kernel⟩
theorem w_cd_X8_count : Cond.code yX8_count cX8_count 5 ((some .int)) ∈ aW := List.mem_filter.mpr ⟨List.mem_append_right _ (List.mem_of_getElem? (i := 1053) (by decide +kernel)), by decide +kernel⟩
theorem w_fl_J0_9 : Cond.fieldLink RJ0 9 "java/lang/String" "value" "[B" ∈ aW := List.mem_filter.mpr ⟨List.mem_append_right _ (List.mem_of_getElem? (i := 1054) (by decide +kernel)), by decide +kernel⟩
theorem w_fl_J0_15 : Cond.fieldLink RJ0 15 "java/lang/String" "coder" "B" ∈ aW := List.mem_filter.mpr ⟨List.mem_append_right _ (List.mem_of_getElem? (i := 1055) (by decide +kernel)), by decide +kernel⟩
theorem w_sel_X3_reckon : Cond.selects RX3 yX3_reckon yX3_reckon ∈ aW := List.mem_filter.mpr ⟨List.mem_append_left _ (List.mem_of_getElem? (i := 0) (by decide +kernel)), by decide +kernel⟩
theorem w_sel_X3_tryCell : Cond.selects RX3 yX3_tryCell yX3_tryCell ∈ aW := List.mem_filter.mpr ⟨List.mem_append_left _ (List.mem_of_getElem? (i := 1) (by decide +kernel)), by decide +kernel⟩
theorem w_sel_X1_part : Cond.selects RX1 yX1_part yX1_part ∈ aW := List.mem_filter.mpr ⟨List.mem_append_left _ (List.mem_of_getElem? (i := 2) (by decide +kernel)), by decide +kernel⟩
theorem w_sel_X3_settle : Cond.selects RX3 yX3_settle yX3_settle ∈ aW := List.mem_filter.mpr ⟨List.mem_append_left _ (List.mem_of_getElem? (i := 3) (by decide +kernel)), by decide +kernel⟩
theorem w_sel_X3_takes : Cond.selects RX3 yX3_takes yX3_takes ∈ aW := List.mem_filter.mpr ⟨List.mem_append_left _ (List.mem_of_getElem? (i := 4) (by decide +kernel)), by decide +kernel⟩
theorem w_sel_X3_settleAs : Cond.selects RX3 yX3_settleAs yX3_settleAs ∈ aW := List.mem_filter.mpr ⟨List.mem_append_left _ (List.mem_of_getElem? (i := 5) (by decide +kernel)), by decide +kernel⟩
theorem w_sel_X3_trySpan : Cond.selects RX3 yX3_trySpan yX3_trySpan ∈ aW := List.mem_filter.mpr ⟨List.mem_append_left _ (List.mem_of_getElem? (i := 6) (by decide +kernel)), by decide +kernel⟩
theorem w_sel_X3_tryTwo : Cond.selects RX3 yX3_tryTwo yX3_tryTwo ∈ aW := List.mem_filter.mpr ⟨List.mem_append_left _ (List.mem_of_getElem? (i := 7) (by decide +kernel)), by decide +kernel⟩
theorem w_sel_X3_findCircles : Cond.selects RX3 yX3_findCircles yX3_findCircles ∈ aW := List.mem_filter.mpr ⟨List.mem_append_left _ (List.mem_of_getElem? (i := 8) (by decide +kernel)), by decide +kernel⟩
theorem w_sel_X3_leastOfCircle : Cond.selects RX3 yX3_leastOfCircle yX3_leastOfCircle ∈ aW := List.mem_filter.mpr ⟨List.mem_append_left _ (List.mem_of_getElem? (i := 9) (by decide +kernel)), by decide +kernel⟩
theorem w_sel_X5_append : Cond.selects RX5 yX5_append yX5_append ∈ aW := List.mem_filter.mpr ⟨List.mem_append_left _ (List.mem_of_getElem? (i := 10) (by decide +kernel)), by decide +kernel⟩
theorem w_sel_X6_takesAll : Cond.selects RX6 yX6_takesAll yX6_takesAll ∈ aW := List.mem_filter.mpr ⟨List.mem_append_left _ (List.mem_of_getElem? (i := 11) (by decide +kernel)), by decide +kernel⟩
theorem w_sel_X1_clear : Cond.selects RX1 yX1_clear yX1_clear ∈ aW := List.mem_filter.mpr ⟨List.mem_append_left _ (List.mem_of_getElem? (i := 12) (by decide +kernel)), by decide +kernel⟩
theorem w_sel_X5_rewind : Cond.selects RX5 yX5_rewind yX5_rewind ∈ aW := List.mem_filter.mpr ⟨List.mem_append_left _ (List.mem_of_getElem? (i := 13) (by decide +kernel)), by decide +kernel⟩
theorem w_sel_X5_nextToken : Cond.selects RX5 yX5_nextToken yX5_nextToken ∈ aW := List.mem_filter.mpr ⟨List.mem_append_left _ (List.mem_of_getElem? (i := 14) (by decide +kernel)), by decide +kernel⟩
theorem w_sel_X5_takeName : Cond.selects RX5 yX5_takeName yX5_takeName ∈ aW := List.mem_filter.mpr ⟨List.mem_append_left _ (List.mem_of_getElem? (i := 15) (by decide +kernel)), by decide +kernel⟩
theorem w_sel_X5_takeNumber : Cond.selects RX5 yX5_takeNumber yX5_takeNumber ∈ aW := List.mem_filter.mpr ⟨List.mem_append_left _ (List.mem_of_getElem? (i := 16) (by decide +kernel)), by decide +kernel⟩
theorem w_sel_X6_takesLine : Cond.selects RX6 yX6_takesLine yX6_takesLine ∈ aW := List.mem_filter.mpr ⟨List.mem_append_left _ (List.mem_of_getElem? (i := 17) (by decide +kernel)), by decide +kernel⟩
theorem w_sel_X5_isWord : Cond.selects RX5 yX5_isWord yX5_isWord ∈ aW := List.mem_filter.mpr ⟨List.mem_append_left _ (List.mem_of_getElem? (i := 18) (by decide +kernel)), by decide +kernel⟩
theorem w_sel_X6_fails : Cond.selects RX6 yX6_fails yX6_fails ∈ aW := List.mem_filter.mpr ⟨List.mem_append_left _ (List.mem_of_getElem? (i := 19) (by decide +kernel)), by decide +kernel⟩
theorem w_sel_X6_takesNumber : Cond.selects RX6 yX6_takesNumber yX6_takesNumber ∈ aW := List.mem_filter.mpr ⟨List.mem_append_left _ (List.mem_of_getElem? (i := 20) (by decide +kernel)), by decide +kernel⟩
theorem w_sel_X1_begin : Cond.selects RX1 yX1_begin yX1_begin ∈ aW := List.mem_filter.mpr ⟨List.mem_append_left _ (List.mem_of_getElem? (i := 21) (by decide +kernel)), by decide +kernel⟩
theorem w_sel_X1_setOperand : Cond.selects RX1 yX1_setOperand yX1_setOperand ∈ aW := List.mem_filter.mpr ⟨List.mem_append_left _ (List.mem_of_getElem? (i := 22) (by decide +kernel)), by decide +kernel⟩
theorem w_sel_X7_beginWith : Cond.selects RX7 yX7_beginWith yX7_beginWith ∈ aW := List.mem_filter.mpr ⟨List.mem_append_left _ (List.mem_of_getElem? (i := 23) (by decide +kernel)), by decide +kernel⟩
theorem w_sel_X1_become : Cond.selects RX1 yX1_become yX1_become ∈ aW := List.mem_filter.mpr ⟨List.mem_append_left _ (List.mem_of_getElem? (i := 24) (by decide +kernel)), by decide +kernel⟩
theorem w_sel_X2_clear : Cond.selects RX2 yX2_clear yX2_clear ∈ aW := List.mem_filter.mpr ⟨List.mem_append_left _ (List.mem_of_getElem? (i := 25) (by decide +kernel)), by decide +kernel⟩
theorem w_sel_X1_countTold : Cond.selects RX1 yX1_countTold yX1_countTold ∈ aW := List.mem_filter.mpr ⟨List.mem_append_left _ (List.mem_of_getElem? (i := 26) (by decide +kernel)), by decide +kernel⟩
theorem w_sel_X3_greatestHeight : Cond.selects RX3 yX3_greatestHeight yX3_greatestHeight ∈ aW := List.mem_filter.mpr ⟨List.mem_append_left _ (List.mem_of_getElem? (i := 27) (by decide +kernel)), by decide +kernel⟩
theorem w_sel_X3_countReads : Cond.selects RX3 yX3_countReads yX3_countReads ∈ aW := List.mem_filter.mpr ⟨List.mem_append_left _ (List.mem_of_getElem? (i := 28) (by decide +kernel)), by decide +kernel⟩
theorem w_sel_X3_standing : Cond.selects RX3 yX3_standing yX3_standing ∈ aW := List.mem_filter.mpr ⟨List.mem_append_left _ (List.mem_of_getElem? (i := 29) (by decide +kernel)), by decide +kernel⟩
theorem w_sel_X3_readersOf : Cond.selects RX3 yX3_readersOf yX3_readersOf ∈ aW := List.mem_filter.mpr ⟨List.mem_append_left _ (List.mem_of_getElem? (i := 30) (by decide +kernel)), by decide +kernel⟩
theorem w_sel_X3_neededBy : Cond.selects RX3 yX3_neededBy yX3_neededBy ∈ aW := List.mem_filter.mpr ⟨List.mem_append_left _ (List.mem_of_getElem? (i := 31) (by decide +kernel)), by decide +kernel⟩
theorem w_sel_X3_hangingOn : Cond.selects RX3 yX3_hangingOn yX3_hangingOn ∈ aW := List.mem_filter.mpr ⟨List.mem_append_left _ (List.mem_of_getElem? (i := 32) (by decide +kernel)), by decide +kernel⟩
theorem w_sel_X3_nthByHeight : Cond.selects RX3 yX3_nthByHeight yX3_nthByHeight ∈ aW := List.mem_filter.mpr ⟨List.mem_append_left _ (List.mem_of_getElem? (i := 33) (by decide +kernel)), by decide +kernel⟩
theorem w_sel_X3_nthOfCircle : Cond.selects RX3 yX3_nthOfCircle yX3_nthOfCircle ∈ aW := List.mem_filter.mpr ⟨List.mem_append_left _ (List.mem_of_getElem? (i := 34) (by decide +kernel)), by decide +kernel⟩
theorem w_sel_X0_tell : Cond.selects RX0 yX0_tell yX0_tell ∈ aW := List.mem_filter.mpr ⟨List.mem_append_left _ (List.mem_of_getElem? (i := 35) (by decide +kernel)), by decide +kernel⟩
theorem w_sel_X0_isAllowed : Cond.selects RX0 yX0_isAllowed yX0_isAllowed ∈ aW := List.mem_filter.mpr ⟨List.mem_append_left _ (List.mem_of_getElem? (i := 36) (by decide +kernel)), by decide +kernel⟩
theorem w_sel_X0_operandsFit : Cond.selects RX0 yX0_operandsFit yX0_operandsFit ∈ aW := List.mem_filter.mpr ⟨List.mem_append_left _ (List.mem_of_getElem? (i := 37) (by decide +kernel)), by decide +kernel⟩
theorem w_sel_X7_remember : Cond.selects RX7 yX7_remember yX7_remember ∈ aW := List.mem_filter.mpr ⟨List.mem_append_left _ (List.mem_of_getElem? (i := 38) (by decide +kernel)), by decide +kernel⟩
theorem w_sel_X0_tellAsIn : Cond.selects RX0 yX0_tellAsIn yX0_tellAsIn ∈ aW := List.mem_filter.mpr ⟨List.mem_append_left _ (List.mem_of_getElem? (i := 39) (by decide +kernel)), by decide +kernel⟩
theorem w_sel_X2_push : Cond.selects RX2 yX2_push yX2_push ∈ aW := List.mem_filter.mpr ⟨List.mem_append_left _ (List.mem_of_getElem? (i := 40) (by decide +kernel)), by decide +kernel⟩
theorem w_sel_X7_make : Cond.selects RX7 yX7_make yX7_make ∈ aW := List.mem_filter.mpr ⟨List.mem_append_left _ (List.mem_of_getElem? (i := 41) (by decide +kernel)), by decide +kernel⟩
theorem w_sel_X1_take : Cond.selects RX1 yX1_take yX1_take ∈ aW := List.mem_filter.mpr ⟨List.mem_append_left _ (List.mem_of_getElem? (i := 42) (by decide +kernel)), by decide +kernel⟩
theorem w_sel_X3_movedTo : Cond.selects RX3 yX3_movedTo yX3_movedTo ∈ aW := List.mem_filter.mpr ⟨List.mem_append_left _ (List.mem_of_getElem? (i := 43) (by decide +kernel)), by decide +kernel⟩
theorem w_sel_X2_popInto : Cond.selects RX2 yX2_popInto yX2_popInto ∈ aW := List.mem_filter.mpr ⟨List.mem_append_left _ (List.mem_of_getElem? (i := 44) (by decide +kernel)), by decide +kernel⟩
theorem w_sel_X7_askByDraws : Cond.selects RX7 yX7_askByDraws yX7_askByDraws ∈ aW := List.mem_filter.mpr ⟨List.mem_append_left _ (List.mem_of_getElem? (i := 45) (by decide +kernel)), by decide +kernel⟩
theorem w_sel_X4_renew : Cond.selects RX4 yX4_renew yX4_renew ∈ aW := List.mem_filter.mpr ⟨List.mem_append_left _ (List.mem_of_getElem? (i := 46) (by decide +kernel)), by decide +kernel⟩
theorem w_sel_X4_faultAt : Cond.selects RX4 yX4_faultAt yX4_faultAt ∈ aW := List.mem_filter.mpr ⟨List.mem_append_left _ (List.mem_of_getElem? (i := 47) (by decide +kernel)), by decide +kernel⟩
theorem w_sel_X4_isNothing : Cond.selects RX4 yX4_isNothing yX4_isNothing ∈ aW := List.mem_filter.mpr ⟨List.mem_append_left _ (List.mem_of_getElem? (i := 48) (by decide +kernel)), by decide +kernel⟩
theorem w_sel_X4_set : Cond.selects RX4 yX4_set yX4_set ∈ aW := List.mem_filter.mpr ⟨List.mem_append_left _ (List.mem_of_getElem? (i := 49) (by decide +kernel)), by decide +kernel⟩
theorem w_sel_X4_faultOfChange : Cond.selects RX4 yX4_faultOfChange yX4_faultOfChange ∈ aW := List.mem_filter.mpr ⟨List.mem_append_left _ (List.mem_of_getElem? (i := 50) (by decide +kernel)), by decide +kernel⟩
theorem w_sel_X4_askFrom : Cond.selects RX4 yX4_askFrom yX4_askFrom ∈ aW := List.mem_filter.mpr ⟨List.mem_append_left _ (List.mem_of_getElem? (i := 51) (by decide +kernel)), by decide +kernel⟩
theorem w_sel_X7_countImages : Cond.selects RX7 yX7_countImages yX7_countImages ∈ aW := List.mem_filter.mpr ⟨List.mem_append_left _ (List.mem_of_getElem? (i := 52) (by decide +kernel)), by decide +kernel⟩
theorem w_sel_X1_countSpans : Cond.selects RX1 yX1_countSpans yX1_countSpans ∈ aW := List.mem_filter.mpr ⟨List.mem_append_left _ (List.mem_of_getElem? (i := 53) (by decide +kernel)), by decide +kernel⟩
theorem w_sel_X3_sumOfValues : Cond.selects RX3 yX3_sumOfValues yX3_sumOfValues ∈ aW := List.mem_filter.mpr ⟨List.mem_append_left _ (List.mem_of_getElem? (i := 54) (by decide +kernel)), by decide +kernel⟩
theorem w_sel_X8_readsOn : Cond.selects RX8 yX8_readsOn yX8_readsOn ∈ aW := List.mem_filter.mpr ⟨List.mem_append_left _ (List.mem_of_getElem? (i := 55) (by decide +kernel)), by decide +kernel⟩
theorem w_sel_X8_byteAt : Cond.selects RX8 yX8_byteAt yX8_byteAt ∈ aW := List.mem_filter.mpr ⟨List.mem_append_left _ (List.mem_of_getElem? (i := 56) (by decide +kernel)), by decide +kernel⟩
theorem w_sel_X8_fails : Cond.selects RX8 yX8_fails yX8_fails ∈ aW := List.mem_filter.mpr ⟨List.mem_append_left _ (List.mem_of_getElem? (i := 57) (by decide +kernel)), by decide +kernel⟩
theorem w_sel_X8_readLine : Cond.selects RX8 yX8_readLine yX8_readLine ∈ aW := List.mem_filter.mpr ⟨List.mem_append_left _ (List.mem_of_getElem? (i := 58) (by decide +kernel)), by decide +kernel⟩
theorem w_sel_X8_kindHere : Cond.selects RX8 yX8_kindHere yX8_kindHere ∈ aW := List.mem_filter.mpr ⟨List.mem_append_left _ (List.mem_of_getElem? (i := 59) (by decide +kernel)), by decide +kernel⟩
theorem w_sel_X8_numberRead : Cond.selects RX8 yX8_numberRead yX8_numberRead ∈ aW := List.mem_filter.mpr ⟨List.mem_append_left _ (List.mem_of_getElem? (i := 60) (by decide +kernel)), by decide +kernel⟩
theorem w_sel_X8_copies : Cond.selects RX8 yX8_copies yX8_copies ∈ aW := List.mem_filter.mpr ⟨List.mem_append_left _ (List.mem_of_getElem? (i := 61) (by decide +kernel)), by decide +kernel⟩
theorem w_sel_X8_settles : Cond.selects RX8 yX8_settles yX8_settles ∈ aW := List.mem_filter.mpr ⟨List.mem_append_left _ (List.mem_of_getElem? (i := 62) (by decide +kernel)), by decide +kernel⟩
theorem w_sel_X8_isEvaluated : Cond.selects RX8 yX8_isEvaluated yX8_isEvaluated ∈ aW := List.mem_filter.mpr ⟨List.mem_append_left _ (List.mem_of_getElem? (i := 63) (by decide +kernel)), by decide +kernel⟩
theorem w_sel_X8_valueIfTold : Cond.selects RX8 yX8_valueIfTold yX8_valueIfTold ∈ aW := List.mem_filter.mpr ⟨List.mem_append_left _ (List.mem_of_getElem? (i := 64) (by decide +kernel)), by decide +kernel⟩
theorem w_sel_X8_isReadBy : Cond.selects RX8 yX8_isReadBy yX8_isReadBy ∈ aW := List.mem_filter.mpr ⟨List.mem_append_left _ (List.mem_of_getElem? (i := 65) (by decide +kernel)), by decide +kernel⟩
theorem w_sel_X8_spanned : Cond.selects RX8 yX8_spanned yX8_spanned ∈ aW := List.mem_filter.mpr ⟨List.mem_append_left _ (List.mem_of_getElem? (i := 66) (by decide +kernel)), by decide +kernel⟩
theorem w_sel_X8_paired : Cond.selects RX8 yX8_paired yX8_paired ∈ aW := List.mem_filter.mpr ⟨List.mem_append_left _ (List.mem_of_getElem? (i := 67) (by decide +kernel)), by decide +kernel⟩
theorem w_sel_X8_heightOf : Cond.selects RX8 yX8_heightOf yX8_heightOf ∈ aW := List.mem_filter.mpr ⟨List.mem_append_left _ (List.mem_of_getElem? (i := 68) (by decide +kernel)), by decide +kernel⟩
theorem w_sel_X8_starts : Cond.selects RX8 yX8_starts yX8_starts ∈ aW := List.mem_filter.mpr ⟨List.mem_append_left _ (List.mem_of_getElem? (i := 69) (by decide +kernel)), by decide +kernel⟩
theorem w_sel_X8_ruled : Cond.selects RX8 yX8_ruled yX8_ruled ∈ aW := List.mem_filter.mpr ⟨List.mem_append_left _ (List.mem_of_getElem? (i := 70) (by decide +kernel)), by decide +kernel⟩
theorem w_sel_X8_circleOf : Cond.selects RX8 yX8_circleOf yX8_circleOf ∈ aW := List.mem_filter.mpr ⟨List.mem_append_left _ (List.mem_of_getElem? (i := 71) (by decide +kernel)), by decide +kernel⟩
theorem w_sel_X8_isFirst : Cond.selects RX8 yX8_isFirst yX8_isFirst ∈ aW := List.mem_filter.mpr ⟨List.mem_append_left _ (List.mem_of_getElem? (i := 72) (by decide +kernel)), by decide +kernel⟩
theorem w_sel_X8_formulas : Cond.selects RX8 yX8_formulas yX8_formulas ∈ aW := List.mem_filter.mpr ⟨List.mem_append_left _ (List.mem_of_getElem? (i := 73) (by decide +kernel)), by decide +kernel⟩
theorem w_sel_X8_readersOf : Cond.selects RX8 yX8_readersOf yX8_readersOf ∈ aW := List.mem_filter.mpr ⟨List.mem_append_left _ (List.mem_of_getElem? (i := 74) (by decide +kernel)), by decide +kernel⟩
theorem w_sel_X8_isReading : Cond.selects RX8 yX8_isReading yX8_isReading ∈ aW := List.mem_filter.mpr ⟨List.mem_append_left _ (List.mem_of_getElem? (i := 75) (by decide +kernel)), by decide +kernel⟩
theorem w_sel_X8_needsOf : Cond.selects RX8 yX8_needsOf yX8_needsOf ∈ aW := List.mem_filter.mpr ⟨List.mem_append_left _ (List.mem_of_getElem? (i := 76) (by decide +kernel)), by decide +kernel⟩
theorem w_sel_X8_bitsRead : Cond.selects RX8 yX8_bitsRead yX8_bitsRead ∈ aW := List.mem_filter.mpr ⟨List.mem_append_left _ (List.mem_of_getElem? (i := 77) (by decide +kernel)), by decide +kernel⟩
theorem w_sel_X8_putsFormula : Cond.selects RX8 yX8_putsFormula yX8_putsFormula ∈ aW := List.mem_filter.mpr ⟨List.mem_append_left _ (List.mem_of_getElem? (i := 78) (by decide +kernel)), by decide +kernel⟩
theorem w_sel_X8_formulaIs : Cond.selects RX8 yX8_formulaIs yX8_formulaIs ∈ aW := List.mem_filter.mpr ⟨List.mem_append_left _ (List.mem_of_getElem? (i := 79) (by decide +kernel)), by decide +kernel⟩
theorem w_sel_X8_puts : Cond.selects RX8 yX8_puts yX8_puts ∈ aW := List.mem_filter.mpr ⟨List.mem_append_left _ (List.mem_of_getElem? (i := 80) (by decide +kernel)), by decide +kernel⟩
theorem w_sel_X8_changes : Cond.selects RX8 yX8_changes yX8_changes ∈ aW := List.mem_filter.mpr ⟨List.mem_append_left _ (List.mem_of_getElem? (i := 81) (by decide +kernel)), by decide +kernel⟩
theorem w_sel_X8_setsAside : Cond.selects RX8 yX8_setsAside yX8_setsAside ∈ aW := List.mem_filter.mpr ⟨List.mem_append_left _ (List.mem_of_getElem? (i := 82) (by decide +kernel)), by decide +kernel⟩
theorem w_sel_X8_getsAside : Cond.selects RX8 yX8_getsAside yX8_getsAside ∈ aW := List.mem_filter.mpr ⟨List.mem_append_left _ (List.mem_of_getElem? (i := 83) (by decide +kernel)), by decide +kernel⟩
def nwM : List (String × Nat × MethodName × String) := [(RX7, 9, yX5_init, RX7), (RX7, 18, yX6_init, RX7), (RX6, 11, yX1_init, RX7), (RX7, 25, yX1_init, RX7), (RX7, 32, yX3_init, RX7), (RX7, 42, yX0_init, RX7), (RX7, 52, yX2_init, RX7), (RX7, 71, yX4_init, RX7), (RX7, 72, yX3_reckon, RX7), (RX3, 34, yX7_has, RX7), (RX3, 45, yX1_part, RX7), (RX3, 79, yX7_bit, RX7), (RX7, 80, yX5_append, RX7), (RX7, 84, yX6_takesAll, RX7), (RX6, 18, yX1_clear, RX7), (RX6, 28, yX5_rewind, RX7), (RX6, 33, yX5_nextToken, RX7), (RX6, 82, yX5_isWord, RX7), (RX6, 58, yX1_begin, RX7), (RX6, 62, yX7_operandsOf, RX7), (RX6, 66, yX7_isSpan, RX7), (RX6, 70, yX1_part, RX7), (RX6, 74, yX1_setOperand, RX7), (RX7, 227, yX1_become, RX7), (RX7, 266, yX2_clear, RX7), (RX7, 103, yX1_countTold, RX7), (RX7, 122, yX3_greatestHeight, RX7), (RX7, 125, yX3_countReads, RX7), (RX7, 133, yX1_part, RX7), (RX7, 137, yX3_standing, RX7), (RX7, 157, yX3_readersOf, RX7), (RX7, 166, yX3_neededBy, RX7), (RX7, 169, yX3_hangingOn, RX7), (RX7, 172, yX3_nthByHeight, RX7), (RX7, 175, yX3_nthOfCircle, RX7), (RX7, 178, yX0_tell, RX7), (RX7, 182, yX0_isAllowed, RX7), (RX0, 37, yX7_isCell, RX7), (RX0, 45, yX7_operandsOf, RX7), (RX0, 49, yX7_isSpan, RX7), (RX7, 192, yX0_tellAsIn, RX7), (RX0, 27, yX1_part, RX7), (RX7, 272, yX2_push, RX7), (RX7, 196, yX1_take, RX7), (RX1, 33, yX7_operandsOf, RX7), (RX7, 200, yX3_movedTo, RX7), (RX7, 214, yX2_popInto, RX7), (RX2, 42, yX0_tell, RX7), (RX7, 230, yX4_renew, RX7), (RX7, 237, yX4_faultAt, RX7), (RX7, 240, yX4_set, RX7), (RX7, 243, yX4_faultOfChange, RX7), (RX7, 246, yX4_askFrom, RX7), (RX4, 36, yX0_tell, RX7), (RX7, 256, yX4_isNothing, RX7), (RX7, 260, yX1_countSpans, RX7), (RX1, 61, yX7_isSpan, RX7), (RX7, 263, yX3_sumOfValues, RX7)]
def nwF : List (String × Nat × String × String × String × String) := [(RX7, 76, RX5, "size", "I", RX7), (RX7, 88, RX5, "start", "I", RX7), (RX6, 36, RX5, "token", "I", RX7), (RX6, 55, RX5, "number", "I", RX7), (RX7, 91, RX6, "draft", "LHeightSheet$Formulas;", RX7), (RX7, 97, RX6, "lines", "I", RX7), (RX7, 100, RX6, "fault", "I", RX7), (RX7, 160, RX3, "values", "[I", RX7), (RX7, 144, RX3, "heights", "[I", RX7), (RX7, 151, RX3, "readBits", "[I", RX7), (RX7, 148, RX3, "waitsFor", "[I", RX7), (RX7, 107, RX3, "known", "I", RX7), (RX7, 116, RX3, "circular", "I", RX7), (RX7, 119, RX3, "circles", "I", RX7), (RX2, 25, RX0, "cell", "I", RX7), (RX1, 37, RX0, "cell", "I", RX7), (RX7, 269, RX0, "cell", "I", RX7), (RX2, 30, RX0, "kind", "I", RX7), (RX1, 27, RX0, "kind", "I", RX7), (RX2, 33, RX0, "p", "I", RX7), (RX1, 44, RX0, "p", "I", RX7), (RX2, 36, RX0, "q", "I", RX7), (RX1, 51, RX0, "q", "I", RX7), (RX2, 39, RX0, "\x72", "I", RX7), (RX1, 54, RX0, "\x72", "I", RX7), (RX7, 128, RX2, "size", "I", RX7), (RX7, 234, RX4, "lane", "I", RX7), (RX7, 259, RX4, "size", "I", RX7)]
