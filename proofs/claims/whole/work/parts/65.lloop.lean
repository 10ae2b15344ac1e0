/-! THE LAW: its loop -/
set_option maxRecDepth 100000 in
set_option maxHeartbeats 4000000 in
theorem law_loop {X : Ev} {k : KT} {A : Nat → Prop} (C : Cx X k code 4 ret RL A 12 480 600000 7302250) {b L : Nat} {xs : Nat → Int32} (hX : va_X b L xs (ks k) (ks k).heap) (hbl : b < (ks k).heap.size) (hbA : ¬ A b) (hL : L ≤ 3584) (hend : ∀ (H : Heap) (Lc : List Loc) (ls : Array Slot), va_S A (ks k).heap H Lc → Wx X k 58 4002 H Lc 884 ls []) {ad bd : Nat → Nat} : ∀ (n I : Nat), L < I + n → I ≤ L → ∀ (F : Fo) (x_tape_bytes : Nat → Int32) (x_tape_size x_tape_at x_tape_start x_tape_token x_tape_number : Int32) (x_reading_draft_parts : Nat → Int32) (x_reading_lines x_reading_fault : Int32) (x_formulas_parts : Nat → Int32) (x_now x_next : RKT) (x_asked_cell x_asked_kind x_asked_p x_asked_q x_asked_r x_former_cell x_former_kind x_former_p x_former_q x_former_r : Int32) (x_history_entries : Nat → Int32) (x_history_size : Int32) (x_images0_parts x_images1_parts x_isKept x_rows0_items : Nat → Int32) (x_rows0_lane x_rows0_size : Int32) (x_rows1_items : Nat → Int32) (x_rows1_lane x_rows1_size : Int32) (x_rows2_items : Nat → Int32) (x_rows2_lane x_rows2_size : Int32) (x_rows3_items : Nat → Int32) (x_rows3_lane x_rows3_size x_wasChanged x_evaluated x_moved x_tornBy : Int32) (m_state m_tape : Nat → Int32) (m_taped m_fault m_broken m_brokenAt m_spot m_here m_token m_number : Int32) (m_ends m_letters m_values m_isTold m_waits m_readsOf m_readMany m_heights : Nat → Int32) (m_isStarted : Int32) (m_oldValues m_isOldTold m_oldReads : Nat → Int32) (m_evaluated m_moved m_isChanged : Int32) (m_undos : Nat → Int32) (m_undoMany : Int32) (m_undoAside m_formula m_isKept m_lanes m_lengths m_items : Nat → Int32) (m_torn m_isAsideChanged : Int32) (H : Heap) (Lc : List Loc) (ls : Array Slot), lv_has ls 4 [(0, .ref b), (1, .ref (ad 0)), (2, .ref (bd 0)), (3, .int (nI I))] → Rel F x_tape_bytes x_tape_size x_reading_fault x_formulas_parts x_now x_history_entries x_history_size x_images0_parts x_images1_parts x_isKept x_rows0_items x_rows0_lane x_rows0_size x_rows1_items x_rows1_lane x_rows1_size x_rows2_items x_rows2_lane x_rows2_size x_rows3_items x_rows3_lane x_rows3_size x_wasChanged x_evaluated x_moved x_tornBy m_state m_tape m_taped m_fault m_ends m_letters m_values m_isTold m_waits m_readsOf m_readMany m_heights m_isStarted m_evaluated m_moved m_isChanged m_undos m_undoMany m_isKept m_lanes m_lengths m_items m_torn → Wd X k A (cwL X ad x_tape_bytes x_tape_size x_tape_at x_tape_start x_tape_token x_tape_number x_reading_draft_parts x_reading_lines x_reading_fault x_formulas_parts x_now x_next x_asked_cell x_asked_kind x_asked_p x_asked_q x_asked_r x_former_cell x_former_kind x_former_p x_former_q x_former_r x_history_entries x_history_size x_images0_parts x_images1_parts x_isKept x_rows0_items x_rows0_lane x_rows0_size x_rows1_items x_rows1_lane x_rows1_size x_rows2_items x_rows2_lane x_rows2_size x_rows3_items x_rows3_lane x_rows3_size x_wasChanged x_evaluated x_moved x_tornBy ++ mwL X bd m_state m_tape m_taped m_fault m_broken m_brokenAt m_spot m_here m_token m_number m_ends m_letters m_values m_isTold m_waits m_readsOf m_readMany m_heights m_isStarted m_oldValues m_isOldTold m_oldReads m_evaluated m_moved m_isChanged m_undos m_undoMany m_undoAside m_formula m_isKept m_lanes m_lengths m_items m_torn m_isAsideChanged) H Lc → Wx X k 58 4002 H Lc 18 ls [] := by
  intro n
  induction n with
  | zero =>
    intro I h1 h2
    omega
  | succ n ih =>
    intro I h1 h2 F x_tape_bytes x_tape_size x_tape_at x_tape_start x_tape_token x_tape_number x_reading_draft_parts x_reading_lines x_reading_fault x_formulas_parts x_now x_next x_asked_cell x_asked_kind x_asked_p x_asked_q x_asked_r x_former_cell x_former_kind x_former_p x_former_q x_former_r x_history_entries x_history_size x_images0_parts x_images1_parts x_isKept x_rows0_items x_rows0_lane x_rows0_size x_rows1_items x_rows1_lane x_rows1_size x_rows2_items x_rows2_lane x_rows2_size x_rows3_items x_rows3_lane x_rows3_size x_wasChanged x_evaluated x_moved x_tornBy m_state m_tape m_taped m_fault m_broken m_brokenAt m_spot m_here m_token m_number m_ends m_letters m_values m_isTold m_waits m_readsOf m_readMany m_heights m_isStarted m_oldValues m_isOldTold m_oldReads m_evaluated m_moved m_isChanged m_undos m_undoMany m_undoAside m_formula m_isKept m_lanes m_lengths m_items m_torn m_isAsideChanged H Lc ls hl hR hW
    have hIt := nI_toInt (n := I) (by omega)
    have hLt : (nI L - 7).toInt = (L : Int) - 7 := pk_sub_toInt (a := L) (b := 7) (by omega) (by omega)
    refine r_iload_n C hl 3 dL_law_18 rfl rfl ?_
    refine r_aload_n C hl 0 dL_law_19 rfl rfl ?_
    refine r_slen C hX hbl hbA hW dL_law_20 ?_
    refine r_bipush (v := (7 : Int32)) C dL_law_21 rfl ?_
    refine r_isub C dL_law_23 ?_
    refine r_icmp_gt (tgt := 884) C dL_law_24 (by decide) (fun _ => hend _ _ _ hW.2.2) (fun c => ?_)
    have hI : I + 7 ≤ L := by
      have h9 : ¬ (nI L - 7).toInt < (nI I).toInt := fun z => c (Int32.lt_iff_toInt_lt.mpr z)
      omega
    refine r_aload_n C hl 0 dL_law_27 rfl rfl ?_
    refine r_iload_n C hl 3 dL_law_28 rfl rfl ?_
    refine r_sld C hX hbl hbA hW hL I (by omega) rfl dL_law_29 ?_
    refine r_bipush (v := (31 : Int32)) C dL_law_30 rfl ?_
    refine r_iand C dL_law_32 ?_
    obtain ⟨j, hj, ej⟩ := pk_andE (xs I) (m := 31) 5 (by decide)
    rw [ej]
    have G : GO X k A ad bd ls := by
      intro F x_tape_bytes x_tape_size x_tape_at x_tape_start x_tape_token x_tape_number x_reading_draft_parts x_reading_lines x_reading_fault x_formulas_parts x_now x_next x_asked_cell x_asked_kind x_asked_p x_asked_q x_asked_r x_former_cell x_former_kind x_former_p x_former_q x_former_r x_history_entries x_history_size x_images0_parts x_images1_parts x_isKept x_rows0_items x_rows0_lane x_rows0_size x_rows1_items x_rows1_lane x_rows1_size x_rows2_items x_rows2_lane x_rows2_size x_rows3_items x_rows3_lane x_rows3_size x_wasChanged x_evaluated x_moved x_tornBy m_state m_tape m_taped m_fault m_broken m_brokenAt m_spot m_here m_token m_number m_ends m_letters m_values m_isTold m_waits m_readsOf m_readMany m_heights m_isStarted m_oldValues m_isOldTold m_oldReads m_evaluated m_moved m_isChanged m_undos m_undoMany m_undoAside m_formula m_isKept m_lanes m_lengths m_items m_torn m_isAsideChanged H Lc hR hW
      refine r_iinc (j := 3) (v := nI (I + 7)) (lv' := [(3, .int (nI (I + 7))), (0, .ref b), (1, .ref (ad 0)), (2, .ref (bd 0))]) C hl dL_law_878 rfl (show nI I + Int32.ofInt 7 = nI (I + 7) from nI_add I 7) (by decide) rfl (fun ls hl => ?_)
      refine r_goto (tgt := 18) C dL_law_881 (by decide) ?_
      exact ih (I + 7) (by omega) (by omega) F x_tape_bytes x_tape_size x_tape_at x_tape_start x_tape_token x_tape_number x_reading_draft_parts x_reading_lines x_reading_fault x_formulas_parts x_now x_next x_asked_cell x_asked_kind x_asked_p x_asked_q x_asked_r x_former_cell x_former_kind x_former_p x_former_q x_former_r x_history_entries x_history_size x_images0_parts x_images1_parts x_isKept x_rows0_items x_rows0_lane x_rows0_size x_rows1_items x_rows1_lane x_rows1_size x_rows2_items x_rows2_lane x_rows2_size x_rows3_items x_rows3_lane x_rows3_size x_wasChanged x_evaluated x_moved x_tornBy m_state m_tape m_taped m_fault m_broken m_brokenAt m_spot m_here m_token m_number m_ends m_letters m_values m_isTold m_waits m_readsOf m_readMany m_heights m_isStarted m_oldValues m_isOldTold m_oldReads m_evaluated m_moved m_isChanged m_undos m_undoMany m_undoAside m_formula m_isKept m_lanes m_lengths m_items m_torn m_isAsideChanged H Lc ls (lv_sub hl [1, 2, 3, 0] rfl) hR hW
    by_cases h24 : 24 ≤ j
    · refine r_swO (tgt := 878) C dL_law_33 (Or.inr ?_) (by decide) (G F x_tape_bytes x_tape_size x_tape_at x_tape_start x_tape_token x_tape_number x_reading_draft_parts x_reading_lines x_reading_fault x_formulas_parts x_now x_next x_asked_cell x_asked_kind x_asked_p x_asked_q x_asked_r x_former_cell x_former_kind x_former_p x_former_q x_former_r x_history_entries x_history_size x_images0_parts x_images1_parts x_isKept x_rows0_items x_rows0_lane x_rows0_size x_rows1_items x_rows1_lane x_rows1_size x_rows2_items x_rows2_lane x_rows2_size x_rows3_items x_rows3_lane x_rows3_size x_wasChanged x_evaluated x_moved x_tornBy m_state m_tape m_taped m_fault m_broken m_brokenAt m_spot m_here m_token m_number m_ends m_letters m_values m_isTold m_waits m_readsOf m_readMany m_heights m_isStarted m_oldValues m_isOldTold m_oldReads m_evaluated m_moved m_isChanged m_undos m_undoMany m_undoAside m_formula m_isKept m_lanes m_lengths m_items m_torn m_isAsideChanged H Lc hR hW)
      rw [nI_toInt (by omega)]
      omega
    · rcases (show j = 0 ∨ j = 1 ∨ j = 2 ∨ j = 3 ∨ j = 4 ∨ j = 5 ∨ j = 6 ∨ j = 7 ∨ j = 8 ∨ j = 9 ∨ j = 10 ∨ j = 11 ∨ j = 12 ∨ j = 13 ∨ j = 14 ∨ j = 15 ∨ j = 16 ∨ j = 17 ∨ j = 18 ∨ j = 19 ∨ j = 20 ∨ j = 21 ∨ j = 22 ∨ j = 23 by omega) with rfl | rfl | rfl | rfl | rfl | rfl | rfl | rfl | rfl | rfl | rfl | rfl | rfl | rfl | rfl | rfl | rfl | rfl | rfl | rfl | rfl | rfl | rfl | rfl
      · exact r_swI (v := (0 : Int32)) (tgt := 144) C dL_law_33 rfl (by decide) (by decide) rfl (by decide) (L_feed C hX hbl hbA hI hL hl G hR hW)
      · exact r_swI (v := (1 : Int32)) (tgt := 167) C dL_law_33 rfl (by decide) (by decide) rfl (by decide) (L_end C hX hbl hbA hI hL hl G hR hW)
      · exact r_swI (v := (2 : Int32)) (tgt := 190) C dL_law_33 rfl (by decide) (by decide) rfl (by decide) (L_text C hX hbl hbA hI hL hl G hR hW)
      · exact r_swI (v := (3 : Int32)) (tgt := 203) C dL_law_33 rfl (by decide) (by decide) rfl (by decide) (L_fault C hX hbl hbA hI hL hl G hR hW)
      · exact r_swI (v := (4 : Int32)) (tgt := 216) C dL_law_33 rfl (by decide) (by decide) rfl (by decide) (L_rule C hX hbl hbA hI hL hl G hR hW)
      · exact r_swI (v := (5 : Int32)) (tgt := 239) C dL_law_33 rfl (by decide) (by decide) rfl (by decide) (L_cell C hX hbl hbA hI hL hl G hR hW)
      · exact r_swI (v := (6 : Int32)) (tgt := 272) C dL_law_33 rfl (by decide) (by decide) rfl (by decide) (L_value C hX hbl hbA hI hL hl G hR hW)
      · exact r_swI (v := (7 : Int32)) (tgt := 295) C dL_law_33 rfl (by decide) (by decide) rfl (by decide) (L_reads C hX hbl hbA hI hL hl G hR hW)
      · exact r_swI (v := (8 : Int32)) (tgt := 328) C dL_law_33 rfl (by decide) (by decide) rfl (by decide) (L_reader C hX hbl hbA hI hL hl G hR hW)
      · exact r_swI (v := (9 : Int32)) (tgt := 361) C dL_law_33 rfl (by decide) (by decide) rfl (by decide) (L_far C hX hbl hbA hI hL hl G hR hW)
      · exact r_swI (v := (10 : Int32)) (tgt := 394) C dL_law_33 rfl (by decide) (by decide) rfl (by decide) (L_order C hX hbl hbA hI hL hl G hR hW)
      · exact r_swI (v := (11 : Int32)) (tgt := 417) C dL_law_33 rfl (by decide) (by decide) rfl (by decide) (L_circle C hX hbl hbA hI hL hl G hR hW)
      · exact r_swI (v := (12 : Int32)) (tgt := 450) C dL_law_33 rfl (by decide) (by decide) rfl (by decide) (L_put C hX hbl hbA hI hL hl G hR hW)
      · exact r_swI (v := (13 : Int32)) (tgt := 513) C dL_law_33 rfl (by decide) (by decide) rfl (by decide) (L_would C hX hbl hbA hI hL hl G hR hW)
      · exact r_swI (v := (14 : Int32)) (tgt := 588) C dL_law_33 rfl (by decide) (by decide) rfl (by decide) (L_latest C hX hbl hbA hI hL hl G hR hW)
      · exact r_swI (v := (15 : Int32)) (tgt := 611) C dL_law_33 rfl (by decide) (by decide) rfl (by decide) (L_undo C hX hbl hbA hI hL hl G hR hW)
      · exact r_swI (v := (16 : Int32)) (tgt := 624) C dL_law_33 rfl (by decide) (by decide) rfl (by decide) (L_storm C hX hbl hbA hI hL hl G hR hW)
      · exact r_swI (v := (17 : Int32)) (tgt := 657) C dL_law_33 rfl (by decide) (by decide) rfl (by decide) (L_keep C hX hbl hbA hI hL hl G hR hW)
      · exact r_swI (v := (18 : Int32)) (tgt := 680) C dL_law_33 rfl (by decide) (by decide) rfl (by decide) (L_back C hX hbl hbA hI hL hl G hR hW)
      · exact r_swI (v := (19 : Int32)) (tgt := 703) C dL_law_33 rfl (by decide) (by decide) rfl (by decide) (L_sheet C hX hbl hbA hI hL hl G hR hW)
      · exact r_swI (v := (20 : Int32)) (tgt := 746) C dL_law_33 rfl (by decide) (by decide) rfl (by decide) (L_lay C hX hbl hbA hI hL hl G hR hW)
      · exact r_swI (v := (21 : Int32)) (tgt := 789) C dL_law_33 rfl (by decide) (by decide) rfl (by decide) (L_read C hX hbl hbA hI hL hl G hR hW)
      · exact r_swI (v := (22 : Int32)) (tgt := 842) C dL_law_33 rfl (by decide) (by decide) rfl (by decide) (L_torn C hX hbl hbA hI hL hl G hR hW)
      · exact r_swI (v := (23 : Int32)) (tgt := 855) C dL_law_33 rfl (by decide) (by decide) rfl (by decide) (L_count C hX hbl hbA hI hL hl G hR hW)
