def fX8_in (p0 : Int64) (p2 : Int64) (p4 : Int64) : Option (Int32) :=
  if (lg_cmp p0 p2) < (0 : Int32) then
    some (0 : Int32)
  else
    if (0 : Int32) < (lg_cmp p0 p4) then
      some (0 : Int32)
    else
      some (1 : Int32)
set_option maxRecDepth 100000 in
set_option maxHeartbeats 8000000 in
theorem mX8_in (X : Ev)   (p0 : Int64) (p2 : Int64) (p4 : Int64) (o : Int32) (h : fX8_in p0 p2 p4 = some o) : Ctr X yX8_in cX8_in 6 (some .boolean) 0 0 0 0 [.long p0, .long p2, .long p4] [] (De (some (.int o)) []) := by
  refine Ctr.start (by decide) (Nat.le_of_ble_eq_true rfl) (fun k A ls C hq hin hW hl => ?_)
  replace C : Cx X k cX8_in 6 (some .boolean) RX8 A 0 0 0 0 := C
  replace hl : lv_has ls 6 [(0, .long p0), (2, .long p2), (4, .long p4)] := hl
  suffices hh : ∀ (H : Heap) (L : List Loc), Wd X k A [] H L → Wx X k 0 0 H L 0 ls [] from hh _ _ hW
  clear hW
  intro H L hW
  unfold fX8_in at h
  refine r_lload_n C hl 0 dX8_in_0 rfl rfl ?_
  refine r_lload_n C hl 1 dX8_in_1 rfl rfl ?_
  refine r_lcmp C dX8_in_2 ?_
  refine r_if_lt (tgt := 17) C dX8_in_3 (by decide) (fun c3 => ?_) (fun c3 => ?_)
  · replace h := iT c3 h
    refine r_iconst (v := 0) C dX8_in_17 (by decide) ?_
    exact r_zret C hq hW (by decide) (by obtain rfl := Option.some.inj h; exact ⟨rfl, rfl⟩) dX8_in_18
  · replace h := iF c3 h
    refine r_lload_n C hl 0 dX8_in_6 rfl rfl ?_
    refine r_lload C hl 2 dX8_in_7 rfl ?_
    refine r_lcmp C dX8_in_9 ?_
    refine r_if_gt (tgt := 17) C dX8_in_10 (by decide) (fun c10 => ?_) (fun c10 => ?_)
    · replace h := iT c10 h
      refine r_iconst (v := 0) C dX8_in_17 (by decide) ?_
      exact r_zret C hq hW (by decide) (by obtain rfl := Option.some.inj h; exact ⟨rfl, rfl⟩) dX8_in_18
    · replace h := iF c10 h
      refine r_iconst (v := 1) C dX8_in_13 (by decide) ?_
      refine r_goto (tgt := 18) C dX8_in_14 (by decide) ?_
      exact r_zret C hq hW (by decide) (by obtain rfl := Option.some.inj h; exact ⟨rfl, rfl⟩) dX8_in_18
def fX8_feed (v_tape : (Nat → Int32)) (v_taped : Int32) (p1 : Int32) : Option (Int32 × (Nat → Int32) × Int32) :=
  bd1 (fX8_in (p1.toInt64) (0 : Int64) (127 : Int64)) fun r6 =>
  if r6 = (0 : Int32) then
    some ((-1 : Int32), v_tape, v_taped)
  else
    if v_taped = (320 : Int32) then
      some ((-3 : Int32), v_tape, v_taped)
    else
      wr v_tape 320 v_taped p1 fun w36 =>
      some (v_taped + (1 : Int32), w36, v_taped + (1 : Int32))
set_option maxRecDepth 100000 in
set_option maxHeartbeats 8000000 in
theorem mX8_feed (X : Ev) (ad : Nat → Nat) (v_state : (Nat → Int32)) (v_tape : (Nat → Int32)) (v_taped : Int32) (v_fault : Int32) (v_broken : Int32) (v_brokenAt : Int32) (v_spot : Int32) (v_here : Int32) (v_token : Int32) (v_number : Int32) (v_ends : (Nat → Int32)) (v_letters : (Nat → Int32)) (v_values : (Nat → Int32)) (v_isTold : (Nat → Int32)) (v_waits : (Nat → Int32)) (v_readsOf : (Nat → Int32)) (v_readMany : (Nat → Int32)) (v_heights : (Nat → Int32)) (v_isStarted : Int32) (v_oldValues : (Nat → Int32)) (v_isOldTold : (Nat → Int32)) (v_oldReads : (Nat → Int32)) (v_evaluated : Int32) (v_moved : Int32) (v_isChanged : Int32) (v_undos : (Nat → Int32)) (v_undoMany : Int32) (v_undoAside : (Nat → Int32)) (v_formula : (Nat → Int32)) (v_isKept : (Nat → Int32)) (v_lanes : (Nat → Int32)) (v_lengths : (Nat → Int32)) (v_items : (Nat → Int32)) (v_torn : Int32) (v_isAsideChanged : Int32) (p1 : Int32) (o : Int32 × (Nat → Int32) × Int32) (h : fX8_feed v_tape v_taped p1 = some o) : Ctr X yX8_feed cX8_feed 2 (some .int) 1 25 0 0 [.ref (ad 0), .int p1] [(ad 0, .inr (8, [.ref (ad 1), .ref (ad 2), .int v_taped, .int v_fault, .int v_broken, .int v_brokenAt, .int v_spot, .int v_here, .int v_token, .int v_number, .ref (ad 3), .ref (ad 4), .ref (ad 5), .ref (ad 6), .ref (ad 7), .ref (ad 8), .ref (ad 9), .ref (ad 10), .int v_isStarted, .ref (ad 11), .ref (ad 12), .ref (ad 13), .int v_evaluated, .int v_moved, .int v_isChanged, .ref (ad 14), .int v_undoMany, .ref (ad 15), .ref (ad 16), .ref (ad 17), .ref (ad 18), .ref (ad 19), .ref (ad 20), .int v_torn, .int v_isAsideChanged])), (ad 1, .inl (eI X, 720, .inl v_state)), (ad 2, .inl (eI X, 320, .inl v_tape)), (ad 3, .inl (eI X, 9, .inl v_ends)), (ad 4, .inl (eI X, 27, .inl v_letters)), (ad 5, .inl (eI X, 30, .inl v_values)), (ad 6, .inl (eZ X, 30, .inl v_isTold)), (ad 7, .inl (eI X, 30, .inl v_waits)), (ad 8, .inl (eI X, 900, .inl v_readsOf)), (ad 9, .inl (eI X, 30, .inl v_readMany)), (ad 10, .inl (eI X, 30, .inl v_heights)), (ad 11, .inl (eI X, 30, .inl v_oldValues)), (ad 12, .inl (eZ X, 30, .inl v_isOldTold)), (ad 13, .inl (eI X, 30, .inl v_oldReads)), (ad 14, .inl (eI X, 100, .inl v_undos)), (ad 15, .inl (eI X, 103, .inl v_undoAside)), (ad 16, .inl (eI X, 4, .inl v_formula)), (ad 17, .inl (eZ X, 2, .inl v_isKept)), (ad 18, .inl (eI X, 4, .inl v_lanes)), (ad 19, .inl (eI X, 4, .inl v_lengths)), (ad 20, .inl (eI X, 160, .inl v_items))] (De (some (.int o.1)) [(ad 0, .inr (8, [.ref (ad 1), .ref (ad 2), .int (o.2.2), .int v_fault, .int v_broken, .int v_brokenAt, .int v_spot, .int v_here, .int v_token, .int v_number, .ref (ad 3), .ref (ad 4), .ref (ad 5), .ref (ad 6), .ref (ad 7), .ref (ad 8), .ref (ad 9), .ref (ad 10), .int v_isStarted, .ref (ad 11), .ref (ad 12), .ref (ad 13), .int v_evaluated, .int v_moved, .int v_isChanged, .ref (ad 14), .int v_undoMany, .ref (ad 15), .ref (ad 16), .ref (ad 17), .ref (ad 18), .ref (ad 19), .ref (ad 20), .int v_torn, .int v_isAsideChanged])), (ad 1, .inl (eI X, 720, .inl v_state)), (ad 2, .inl (eI X, 320, .inl (o.2.1))), (ad 3, .inl (eI X, 9, .inl v_ends)), (ad 4, .inl (eI X, 27, .inl v_letters)), (ad 5, .inl (eI X, 30, .inl v_values)), (ad 6, .inl (eZ X, 30, .inl v_isTold)), (ad 7, .inl (eI X, 30, .inl v_waits)), (ad 8, .inl (eI X, 900, .inl v_readsOf)), (ad 9, .inl (eI X, 30, .inl v_readMany)), (ad 10, .inl (eI X, 30, .inl v_heights)), (ad 11, .inl (eI X, 30, .inl v_oldValues)), (ad 12, .inl (eZ X, 30, .inl v_isOldTold)), (ad 13, .inl (eI X, 30, .inl v_oldReads)), (ad 14, .inl (eI X, 100, .inl v_undos)), (ad 15, .inl (eI X, 103, .inl v_undoAside)), (ad 16, .inl (eI X, 4, .inl v_formula)), (ad 17, .inl (eZ X, 2, .inl v_isKept)), (ad 18, .inl (eI X, 4, .inl v_lanes)), (ad 19, .inl (eI X, 4, .inl v_lengths)), (ad 20, .inl (eI X, 160, .inl v_items))]) := by
  refine Ctr.start (by decide) (Nat.le_of_ble_eq_true rfl) (fun k A ls C hq hin hW hl => ?_)
  replace C : Cx X k cX8_feed 2 (some .int) RX8 A 1 25 0 0 := C
  replace hl : lv_has ls 2 [(0, .ref (ad 0)), (1, .int p1)] := hl
  suffices hh : ∀ (H : Heap) (L : List Loc), Wd X k A [(ad 0, .inr (8, [.ref (ad 1), .ref (ad 2), .int v_taped, .int v_fault, .int v_broken, .int v_brokenAt, .int v_spot, .int v_here, .int v_token, .int v_number, .ref (ad 3), .ref (ad 4), .ref (ad 5), .ref (ad 6), .ref (ad 7), .ref (ad 8), .ref (ad 9), .ref (ad 10), .int v_isStarted, .ref (ad 11), .ref (ad 12), .ref (ad 13), .int v_evaluated, .int v_moved, .int v_isChanged, .ref (ad 14), .int v_undoMany, .ref (ad 15), .ref (ad 16), .ref (ad 17), .ref (ad 18), .ref (ad 19), .ref (ad 20), .int v_torn, .int v_isAsideChanged])), (ad 1, .inl (eI X, 720, .inl v_state)), (ad 2, .inl (eI X, 320, .inl v_tape)), (ad 3, .inl (eI X, 9, .inl v_ends)), (ad 4, .inl (eI X, 27, .inl v_letters)), (ad 5, .inl (eI X, 30, .inl v_values)), (ad 6, .inl (eZ X, 30, .inl v_isTold)), (ad 7, .inl (eI X, 30, .inl v_waits)), (ad 8, .inl (eI X, 900, .inl v_readsOf)), (ad 9, .inl (eI X, 30, .inl v_readMany)), (ad 10, .inl (eI X, 30, .inl v_heights)), (ad 11, .inl (eI X, 30, .inl v_oldValues)), (ad 12, .inl (eZ X, 30, .inl v_isOldTold)), (ad 13, .inl (eI X, 30, .inl v_oldReads)), (ad 14, .inl (eI X, 100, .inl v_undos)), (ad 15, .inl (eI X, 103, .inl v_undoAside)), (ad 16, .inl (eI X, 4, .inl v_formula)), (ad 17, .inl (eZ X, 2, .inl v_isKept)), (ad 18, .inl (eI X, 4, .inl v_lanes)), (ad 19, .inl (eI X, 4, .inl v_lengths)), (ad 20, .inl (eI X, 160, .inl v_items))] H L → Wx X k 0 0 H L 0 ls [] from hh _ _ hW
  clear hW
  intro H L hW
  unfold fX8_feed at h
  refine r_iload_n C hl 1 dX8_feed_0 rfl rfl ?_
  refine r_i2l C dX8_feed_1 ?_
  refine r_lconst (v := 0) C dX8_feed_2 (by decide) ?_
  refine r_ldc2 C w_cL_X8_71 dX8_feed_3 ?_
  obtain ⟨r6, h6, h⟩ := bd1_some h
  refine r_S (wr := [(ad 0, .inr (8, [.ref (ad 1), .ref (ad 2), .int v_taped, .int v_fault, .int v_broken, .int v_brokenAt, .int v_spot, .int v_here, .int v_token, .int v_number, .ref (ad 3), .ref (ad 4), .ref (ad 5), .ref (ad 6), .ref (ad 7), .ref (ad 8), .ref (ad 9), .ref (ad 10), .int v_isStarted, .ref (ad 11), .ref (ad 12), .ref (ad 13), .int v_evaluated, .int v_moved, .int v_isChanged, .ref (ad 14), .int v_undoMany, .ref (ad 15), .ref (ad 16), .ref (ad 17), .ref (ad 18), .ref (ad 19), .ref (ad 20), .int v_torn, .int v_isAsideChanged])), (ad 1, .inl (eI X, 720, .inl v_state)), (ad 2, .inl (eI X, 320, .inl v_tape)), (ad 3, .inl (eI X, 9, .inl v_ends)), (ad 4, .inl (eI X, 27, .inl v_letters)), (ad 5, .inl (eI X, 30, .inl v_values)), (ad 6, .inl (eZ X, 30, .inl v_isTold)), (ad 7, .inl (eI X, 30, .inl v_waits)), (ad 8, .inl (eI X, 900, .inl v_readsOf)), (ad 9, .inl (eI X, 30, .inl v_readMany)), (ad 10, .inl (eI X, 30, .inl v_heights)), (ad 11, .inl (eI X, 30, .inl v_oldValues)), (ad 12, .inl (eZ X, 30, .inl v_isOldTold)), (ad 13, .inl (eI X, 30, .inl v_oldReads)), (ad 14, .inl (eI X, 100, .inl v_undos)), (ad 15, .inl (eI X, 103, .inl v_undoAside)), (ad 16, .inl (eI X, 4, .inl v_formula)), (ad 17, .inl (eZ X, 2, .inl v_isKept)), (ad 18, .inl (eI X, 4, .inl v_lanes)), (ad 19, .inl (eI X, 4, .inl v_lengths)), (ad 20, .inl (eI X, 160, .inl v_items))]) (np := 3) C hl (mX8_in X    (p1.toInt64) (0 : Int64) (127 : Int64) r6 h6) hW [] [0, 1, 2, 3, 4, 5, 6, 7, 8, 9, 10, 11, 12, 13, 14, 15, 16, 17, 18, 19, 20] rfl rfl rfl rfl (by decide) w_cd_X8_in w_ml_X8_73 w_st_X8_in w_in_HeightSheetModel (by decide +kernel) rfl ⟨Nat.le_of_ble_eq_true rfl, Nat.le_of_ble_eq_true rfl⟩ ⟨Nat.zero_le _, Nat.zero_le _⟩ (Nat.le_of_ble_eq_true rfl) dX8_feed_6 (fun rv w1 H L hp hW => ?_) rfl
  obtain ⟨rfl, rfl⟩ := hp
  replace hW : Wd X k A [(ad 0, .inr (8, [.ref (ad 1), .ref (ad 2), .int v_taped, .int v_fault, .int v_broken, .int v_brokenAt, .int v_spot, .int v_here, .int v_token, .int v_number, .ref (ad 3), .ref (ad 4), .ref (ad 5), .ref (ad 6), .ref (ad 7), .ref (ad 8), .ref (ad 9), .ref (ad 10), .int v_isStarted, .ref (ad 11), .ref (ad 12), .ref (ad 13), .int v_evaluated, .int v_moved, .int v_isChanged, .ref (ad 14), .int v_undoMany, .ref (ad 15), .ref (ad 16), .ref (ad 17), .ref (ad 18), .ref (ad 19), .ref (ad 20), .int v_torn, .int v_isAsideChanged])), (ad 1, .inl (eI X, 720, .inl v_state)), (ad 2, .inl (eI X, 320, .inl v_tape)), (ad 3, .inl (eI X, 9, .inl v_ends)), (ad 4, .inl (eI X, 27, .inl v_letters)), (ad 5, .inl (eI X, 30, .inl v_values)), (ad 6, .inl (eZ X, 30, .inl v_isTold)), (ad 7, .inl (eI X, 30, .inl v_waits)), (ad 8, .inl (eI X, 900, .inl v_readsOf)), (ad 9, .inl (eI X, 30, .inl v_readMany)), (ad 10, .inl (eI X, 30, .inl v_heights)), (ad 11, .inl (eI X, 30, .inl v_oldValues)), (ad 12, .inl (eZ X, 30, .inl v_isOldTold)), (ad 13, .inl (eI X, 30, .inl v_oldReads)), (ad 14, .inl (eI X, 100, .inl v_undos)), (ad 15, .inl (eI X, 103, .inl v_undoAside)), (ad 16, .inl (eI X, 4, .inl v_formula)), (ad 17, .inl (eZ X, 2, .inl v_isKept)), (ad 18, .inl (eI X, 4, .inl v_lanes)), (ad 19, .inl (eI X, 4, .inl v_lengths)), (ad 20, .inl (eI X, 160, .inl v_items))] H L := hW.sub [0, 1, 2, 3, 4, 5, 6, 7, 8, 9, 10, 11, 12, 13, 14, 15, 16, 17, 18, 19, 20] rfl rfl
  show Wx X k 0 0 H L 9 ls [.int r6]
  refine r_if_ne (tgt := 14) C dX8_feed_9 (by decide) (fun c9 => ?_) (fun c9 => ?_)
  · replace h := iF c9 h
    refine r_aload_n C hl 0 dX8_feed_14 rfl rfl ?_
    refine r_get C hW 0 rfl rfl iwX8 2 (by decide) w_fl_X8_77 rfl dX8_feed_15 ?_
    refine r_sipush (v := 320) C dX8_feed_18 (by decide) ?_
    refine r_icmp_ne (tgt := 27) C dX8_feed_21 (by decide) (fun c21 => ?_) (fun c21 => ?_)
    · replace h := iF c21 h
      refine r_aload_n C hl 0 dX8_feed_27 rfl rfl ?_
      refine r_get C hW 0 rfl rfl iwX8 1 (by decide) w_fl_X8_13 rfl dX8_feed_28 ?_
      refine r_aload_n C hl 0 dX8_feed_31 rfl rfl ?_
      refine r_get C hW 0 rfl rfl iwX8 2 (by decide) w_fl_X8_77 rfl dX8_feed_32 ?_
      refine r_iload_n C hl 1 dX8_feed_35 rfl rfl ?_
      obtain ⟨w36, e36, g36, h⟩ := wr_some h
      refine r_iast (ws' := [(ad 0, .inr (8, [.ref (ad 1), .ref (ad 2), .int v_taped, .int v_fault, .int v_broken, .int v_brokenAt, .int v_spot, .int v_here, .int v_token, .int v_number, .ref (ad 3), .ref (ad 4), .ref (ad 5), .ref (ad 6), .ref (ad 7), .ref (ad 8), .ref (ad 9), .ref (ad 10), .int v_isStarted, .ref (ad 11), .ref (ad 12), .ref (ad 13), .int v_evaluated, .int v_moved, .int v_isChanged, .ref (ad 14), .int v_undoMany, .ref (ad 15), .ref (ad 16), .ref (ad 17), .ref (ad 18), .ref (ad 19), .ref (ad 20), .int v_torn, .int v_isAsideChanged])), (ad 1, .inl (eI X, 720, .inl v_state)), (ad 2, .inl (eI X, 320, .inl w36)), (ad 3, .inl (eI X, 9, .inl v_ends)), (ad 4, .inl (eI X, 27, .inl v_letters)), (ad 5, .inl (eI X, 30, .inl v_values)), (ad 6, .inl (eZ X, 30, .inl v_isTold)), (ad 7, .inl (eI X, 30, .inl v_waits)), (ad 8, .inl (eI X, 900, .inl v_readsOf)), (ad 9, .inl (eI X, 30, .inl v_readMany)), (ad 10, .inl (eI X, 30, .inl v_heights)), (ad 11, .inl (eI X, 30, .inl v_oldValues)), (ad 12, .inl (eZ X, 30, .inl v_isOldTold)), (ad 13, .inl (eI X, 30, .inl v_oldReads)), (ad 14, .inl (eI X, 100, .inl v_undos)), (ad 15, .inl (eI X, 103, .inl v_undoAside)), (ad 16, .inl (eI X, 4, .inl v_formula)), (ad 17, .inl (eZ X, 2, .inl v_isKept)), (ad 18, .inl (eI X, 4, .inl v_lanes)), (ad 19, .inl (eI X, 4, .inl v_lengths)), (ad 20, .inl (eI X, 160, .inl v_items))]) C hW 2 rfl g36 e36 rfl dX8_feed_36 (fun H L hW => ?_)
      refine r_aload_n C hl 0 dX8_feed_37 rfl rfl ?_
      refine r_dup C rfl dX8_feed_38 ?_
      refine r_get C hW 0 rfl rfl iwX8 2 (by decide) w_fl_X8_77 rfl dX8_feed_39 ?_
      refine r_iconst (v := 1) C dX8_feed_42 (by decide) ?_
      refine r_iadd C dX8_feed_43 ?_
      refine r_put (ws' := [(ad 0, .inr (8, [.ref (ad 1), .ref (ad 2), .int (v_taped + (1 : Int32)), .int v_fault, .int v_broken, .int v_brokenAt, .int v_spot, .int v_here, .int v_token, .int v_number, .ref (ad 3), .ref (ad 4), .ref (ad 5), .ref (ad 6), .ref (ad 7), .ref (ad 8), .ref (ad 9), .ref (ad 10), .int v_isStarted, .ref (ad 11), .ref (ad 12), .ref (ad 13), .int v_evaluated, .int v_moved, .int v_isChanged, .ref (ad 14), .int v_undoMany, .ref (ad 15), .ref (ad 16), .ref (ad 17), .ref (ad 18), .ref (ad 19), .ref (ad 20), .int v_torn, .int v_isAsideChanged])), (ad 1, .inl (eI X, 720, .inl v_state)), (ad 2, .inl (eI X, 320, .inl w36)), (ad 3, .inl (eI X, 9, .inl v_ends)), (ad 4, .inl (eI X, 27, .inl v_letters)), (ad 5, .inl (eI X, 30, .inl v_values)), (ad 6, .inl (eZ X, 30, .inl v_isTold)), (ad 7, .inl (eI X, 30, .inl v_waits)), (ad 8, .inl (eI X, 900, .inl v_readsOf)), (ad 9, .inl (eI X, 30, .inl v_readMany)), (ad 10, .inl (eI X, 30, .inl v_heights)), (ad 11, .inl (eI X, 30, .inl v_oldValues)), (ad 12, .inl (eZ X, 30, .inl v_isOldTold)), (ad 13, .inl (eI X, 30, .inl v_oldReads)), (ad 14, .inl (eI X, 100, .inl v_undos)), (ad 15, .inl (eI X, 103, .inl v_undoAside)), (ad 16, .inl (eI X, 4, .inl v_formula)), (ad 17, .inl (eZ X, 2, .inl v_isKept)), (ad 18, .inl (eI X, 4, .inl v_lanes)), (ad 19, .inl (eI X, 4, .inl v_lengths)), (ad 20, .inl (eI X, 160, .inl v_items))]) C hW 0 rfl rfl iwX8 tyX8_ok nmX8 2 (by decide) w_fl_X8_77 rfl (tyX8_ok 2 (by decide)) rfl rfl (Nat.le_of_ble_eq_true rfl) rfl dX8_feed_44 (fun H L hW => ?_)
      refine r_aload_n C hl 0 dX8_feed_47 rfl rfl ?_
      refine r_get C hW 0 rfl rfl iwX8 2 (by decide) w_fl_X8_77 rfl dX8_feed_48 ?_
      exact r_iret C hq hW (by obtain rfl := Option.some.inj h; exact ⟨rfl, rfl⟩) dX8_feed_51
    · replace h := iT c21 h
      refine r_bipush (v := -3) C dX8_feed_24 (by decide) ?_
      exact r_iret C hq hW (by obtain rfl := Option.some.inj h; exact ⟨rfl, rfl⟩) dX8_feed_26
  · replace h := iT c9 h
    refine r_iconst (v := -1) C dX8_feed_12 (by decide) ?_
    exact r_iret C hq hW (by obtain rfl := Option.some.inj h; exact ⟨rfl, rfl⟩) dX8_feed_13
def fX8_end (v_taped : Int32) (p1 : Int32) : Option (Int32 × Int32) :=
  bd1 (fX8_in (p1.toInt64) (0 : Int64) (v_taped.toInt64)) fun r8 =>
  if r8 = (0 : Int32) then
    some ((-1 : Int32), v_taped)
  else
    some (v_taped, p1)
set_option maxRecDepth 100000 in
set_option maxHeartbeats 8000000 in
theorem mX8_end (X : Ev) (ad : Nat → Nat) (v_state : (Nat → Int32)) (v_tape : (Nat → Int32)) (v_taped : Int32) (v_fault : Int32) (v_broken : Int32) (v_brokenAt : Int32) (v_spot : Int32) (v_here : Int32) (v_token : Int32) (v_number : Int32) (v_ends : (Nat → Int32)) (v_letters : (Nat → Int32)) (v_values : (Nat → Int32)) (v_isTold : (Nat → Int32)) (v_waits : (Nat → Int32)) (v_readsOf : (Nat → Int32)) (v_readMany : (Nat → Int32)) (v_heights : (Nat → Int32)) (v_isStarted : Int32) (v_oldValues : (Nat → Int32)) (v_isOldTold : (Nat → Int32)) (v_oldReads : (Nat → Int32)) (v_evaluated : Int32) (v_moved : Int32) (v_isChanged : Int32) (v_undos : (Nat → Int32)) (v_undoMany : Int32) (v_undoAside : (Nat → Int32)) (v_formula : (Nat → Int32)) (v_isKept : (Nat → Int32)) (v_lanes : (Nat → Int32)) (v_lengths : (Nat → Int32)) (v_items : (Nat → Int32)) (v_torn : Int32) (v_isAsideChanged : Int32) (p1 : Int32) (o : Int32 × Int32) (h : fX8_end v_taped p1 = some o) : Ctr X yX8_end cX8_end 3 (some .int) 1 25 0 0 [.ref (ad 0), .int p1] [(ad 0, .inr (8, [.ref (ad 1), .ref (ad 2), .int v_taped, .int v_fault, .int v_broken, .int v_brokenAt, .int v_spot, .int v_here, .int v_token, .int v_number, .ref (ad 3), .ref (ad 4), .ref (ad 5), .ref (ad 6), .ref (ad 7), .ref (ad 8), .ref (ad 9), .ref (ad 10), .int v_isStarted, .ref (ad 11), .ref (ad 12), .ref (ad 13), .int v_evaluated, .int v_moved, .int v_isChanged, .ref (ad 14), .int v_undoMany, .ref (ad 15), .ref (ad 16), .ref (ad 17), .ref (ad 18), .ref (ad 19), .ref (ad 20), .int v_torn, .int v_isAsideChanged])), (ad 1, .inl (eI X, 720, .inl v_state)), (ad 2, .inl (eI X, 320, .inl v_tape)), (ad 3, .inl (eI X, 9, .inl v_ends)), (ad 4, .inl (eI X, 27, .inl v_letters)), (ad 5, .inl (eI X, 30, .inl v_values)), (ad 6, .inl (eZ X, 30, .inl v_isTold)), (ad 7, .inl (eI X, 30, .inl v_waits)), (ad 8, .inl (eI X, 900, .inl v_readsOf)), (ad 9, .inl (eI X, 30, .inl v_readMany)), (ad 10, .inl (eI X, 30, .inl v_heights)), (ad 11, .inl (eI X, 30, .inl v_oldValues)), (ad 12, .inl (eZ X, 30, .inl v_isOldTold)), (ad 13, .inl (eI X, 30, .inl v_oldReads)), (ad 14, .inl (eI X, 100, .inl v_undos)), (ad 15, .inl (eI X, 103, .inl v_undoAside)), (ad 16, .inl (eI X, 4, .inl v_formula)), (ad 17, .inl (eZ X, 2, .inl v_isKept)), (ad 18, .inl (eI X, 4, .inl v_lanes)), (ad 19, .inl (eI X, 4, .inl v_lengths)), (ad 20, .inl (eI X, 160, .inl v_items))] (De (some (.int o.1)) [(ad 0, .inr (8, [.ref (ad 1), .ref (ad 2), .int (o.2), .int v_fault, .int v_broken, .int v_brokenAt, .int v_spot, .int v_here, .int v_token, .int v_number, .ref (ad 3), .ref (ad 4), .ref (ad 5), .ref (ad 6), .ref (ad 7), .ref (ad 8), .ref (ad 9), .ref (ad 10), .int v_isStarted, .ref (ad 11), .ref (ad 12), .ref (ad 13), .int v_evaluated, .int v_moved, .int v_isChanged, .ref (ad 14), .int v_undoMany, .ref (ad 15), .ref (ad 16), .ref (ad 17), .ref (ad 18), .ref (ad 19), .ref (ad 20), .int v_torn, .int v_isAsideChanged])), (ad 1, .inl (eI X, 720, .inl v_state)), (ad 2, .inl (eI X, 320, .inl v_tape)), (ad 3, .inl (eI X, 9, .inl v_ends)), (ad 4, .inl (eI X, 27, .inl v_letters)), (ad 5, .inl (eI X, 30, .inl v_values)), (ad 6, .inl (eZ X, 30, .inl v_isTold)), (ad 7, .inl (eI X, 30, .inl v_waits)), (ad 8, .inl (eI X, 900, .inl v_readsOf)), (ad 9, .inl (eI X, 30, .inl v_readMany)), (ad 10, .inl (eI X, 30, .inl v_heights)), (ad 11, .inl (eI X, 30, .inl v_oldValues)), (ad 12, .inl (eZ X, 30, .inl v_isOldTold)), (ad 13, .inl (eI X, 30, .inl v_oldReads)), (ad 14, .inl (eI X, 100, .inl v_undos)), (ad 15, .inl (eI X, 103, .inl v_undoAside)), (ad 16, .inl (eI X, 4, .inl v_formula)), (ad 17, .inl (eZ X, 2, .inl v_isKept)), (ad 18, .inl (eI X, 4, .inl v_lanes)), (ad 19, .inl (eI X, 4, .inl v_lengths)), (ad 20, .inl (eI X, 160, .inl v_items))]) := by
  refine Ctr.start (by decide) (Nat.le_of_ble_eq_true rfl) (fun k A ls C hq hin hW hl => ?_)
  replace C : Cx X k cX8_end 3 (some .int) RX8 A 1 25 0 0 := C
  replace hl : lv_has ls 3 [(0, .ref (ad 0)), (1, .int p1)] := hl
  suffices hh : ∀ (H : Heap) (L : List Loc), Wd X k A [(ad 0, .inr (8, [.ref (ad 1), .ref (ad 2), .int v_taped, .int v_fault, .int v_broken, .int v_brokenAt, .int v_spot, .int v_here, .int v_token, .int v_number, .ref (ad 3), .ref (ad 4), .ref (ad 5), .ref (ad 6), .ref (ad 7), .ref (ad 8), .ref (ad 9), .ref (ad 10), .int v_isStarted, .ref (ad 11), .ref (ad 12), .ref (ad 13), .int v_evaluated, .int v_moved, .int v_isChanged, .ref (ad 14), .int v_undoMany, .ref (ad 15), .ref (ad 16), .ref (ad 17), .ref (ad 18), .ref (ad 19), .ref (ad 20), .int v_torn, .int v_isAsideChanged])), (ad 1, .inl (eI X, 720, .inl v_state)), (ad 2, .inl (eI X, 320, .inl v_tape)), (ad 3, .inl (eI X, 9, .inl v_ends)), (ad 4, .inl (eI X, 27, .inl v_letters)), (ad 5, .inl (eI X, 30, .inl v_values)), (ad 6, .inl (eZ X, 30, .inl v_isTold)), (ad 7, .inl (eI X, 30, .inl v_waits)), (ad 8, .inl (eI X, 900, .inl v_readsOf)), (ad 9, .inl (eI X, 30, .inl v_readMany)), (ad 10, .inl (eI X, 30, .inl v_heights)), (ad 11, .inl (eI X, 30, .inl v_oldValues)), (ad 12, .inl (eZ X, 30, .inl v_isOldTold)), (ad 13, .inl (eI X, 30, .inl v_oldReads)), (ad 14, .inl (eI X, 100, .inl v_undos)), (ad 15, .inl (eI X, 103, .inl v_undoAside)), (ad 16, .inl (eI X, 4, .inl v_formula)), (ad 17, .inl (eZ X, 2, .inl v_isKept)), (ad 18, .inl (eI X, 4, .inl v_lanes)), (ad 19, .inl (eI X, 4, .inl v_lengths)), (ad 20, .inl (eI X, 160, .inl v_items))] H L → Wx X k 0 0 H L 0 ls [] from hh _ _ hW
  clear hW
  intro H L hW
  unfold fX8_end at h
  refine r_iload_n C hl 1 dX8_end_0 rfl rfl ?_
  refine r_i2l C dX8_end_1 ?_
  refine r_lconst (v := 0) C dX8_end_2 (by decide) ?_
  refine r_aload_n C hl 0 dX8_end_3 rfl rfl ?_
  refine r_get C hW 0 rfl rfl iwX8 2 (by decide) w_fl_X8_77 rfl dX8_end_4 ?_
  refine r_i2l C dX8_end_7 ?_
  obtain ⟨r8, h8, h⟩ := bd1_some h
  refine r_S (wr := [(ad 0, .inr (8, [.ref (ad 1), .ref (ad 2), .int v_taped, .int v_fault, .int v_broken, .int v_brokenAt, .int v_spot, .int v_here, .int v_token, .int v_number, .ref (ad 3), .ref (ad 4), .ref (ad 5), .ref (ad 6), .ref (ad 7), .ref (ad 8), .ref (ad 9), .ref (ad 10), .int v_isStarted, .ref (ad 11), .ref (ad 12), .ref (ad 13), .int v_evaluated, .int v_moved, .int v_isChanged, .ref (ad 14), .int v_undoMany, .ref (ad 15), .ref (ad 16), .ref (ad 17), .ref (ad 18), .ref (ad 19), .ref (ad 20), .int v_torn, .int v_isAsideChanged])), (ad 1, .inl (eI X, 720, .inl v_state)), (ad 2, .inl (eI X, 320, .inl v_tape)), (ad 3, .inl (eI X, 9, .inl v_ends)), (ad 4, .inl (eI X, 27, .inl v_letters)), (ad 5, .inl (eI X, 30, .inl v_values)), (ad 6, .inl (eZ X, 30, .inl v_isTold)), (ad 7, .inl (eI X, 30, .inl v_waits)), (ad 8, .inl (eI X, 900, .inl v_readsOf)), (ad 9, .inl (eI X, 30, .inl v_readMany)), (ad 10, .inl (eI X, 30, .inl v_heights)), (ad 11, .inl (eI X, 30, .inl v_oldValues)), (ad 12, .inl (eZ X, 30, .inl v_isOldTold)), (ad 13, .inl (eI X, 30, .inl v_oldReads)), (ad 14, .inl (eI X, 100, .inl v_undos)), (ad 15, .inl (eI X, 103, .inl v_undoAside)), (ad 16, .inl (eI X, 4, .inl v_formula)), (ad 17, .inl (eZ X, 2, .inl v_isKept)), (ad 18, .inl (eI X, 4, .inl v_lanes)), (ad 19, .inl (eI X, 4, .inl v_lengths)), (ad 20, .inl (eI X, 160, .inl v_items))]) (np := 3) C hl (mX8_in X    (p1.toInt64) (0 : Int64) (v_taped.toInt64) r8 h8) hW [] [0, 1, 2, 3, 4, 5, 6, 7, 8, 9, 10, 11, 12, 13, 14, 15, 16, 17, 18, 19, 20] rfl rfl rfl rfl (by decide) w_cd_X8_in w_ml_X8_73 w_st_X8_in w_in_HeightSheetModel (by decide +kernel) rfl ⟨Nat.le_of_ble_eq_true rfl, Nat.le_of_ble_eq_true rfl⟩ ⟨Nat.zero_le _, Nat.zero_le _⟩ (Nat.le_of_ble_eq_true rfl) dX8_end_8 (fun rv w1 H L hp hW => ?_) rfl
  obtain ⟨rfl, rfl⟩ := hp
  replace hW : Wd X k A [(ad 0, .inr (8, [.ref (ad 1), .ref (ad 2), .int v_taped, .int v_fault, .int v_broken, .int v_brokenAt, .int v_spot, .int v_here, .int v_token, .int v_number, .ref (ad 3), .ref (ad 4), .ref (ad 5), .ref (ad 6), .ref (ad 7), .ref (ad 8), .ref (ad 9), .ref (ad 10), .int v_isStarted, .ref (ad 11), .ref (ad 12), .ref (ad 13), .int v_evaluated, .int v_moved, .int v_isChanged, .ref (ad 14), .int v_undoMany, .ref (ad 15), .ref (ad 16), .ref (ad 17), .ref (ad 18), .ref (ad 19), .ref (ad 20), .int v_torn, .int v_isAsideChanged])), (ad 1, .inl (eI X, 720, .inl v_state)), (ad 2, .inl (eI X, 320, .inl v_tape)), (ad 3, .inl (eI X, 9, .inl v_ends)), (ad 4, .inl (eI X, 27, .inl v_letters)), (ad 5, .inl (eI X, 30, .inl v_values)), (ad 6, .inl (eZ X, 30, .inl v_isTold)), (ad 7, .inl (eI X, 30, .inl v_waits)), (ad 8, .inl (eI X, 900, .inl v_readsOf)), (ad 9, .inl (eI X, 30, .inl v_readMany)), (ad 10, .inl (eI X, 30, .inl v_heights)), (ad 11, .inl (eI X, 30, .inl v_oldValues)), (ad 12, .inl (eZ X, 30, .inl v_isOldTold)), (ad 13, .inl (eI X, 30, .inl v_oldReads)), (ad 14, .inl (eI X, 100, .inl v_undos)), (ad 15, .inl (eI X, 103, .inl v_undoAside)), (ad 16, .inl (eI X, 4, .inl v_formula)), (ad 17, .inl (eZ X, 2, .inl v_isKept)), (ad 18, .inl (eI X, 4, .inl v_lanes)), (ad 19, .inl (eI X, 4, .inl v_lengths)), (ad 20, .inl (eI X, 160, .inl v_items))] H L := hW.sub [0, 1, 2, 3, 4, 5, 6, 7, 8, 9, 10, 11, 12, 13, 14, 15, 16, 17, 18, 19, 20] rfl rfl
  show Wx X k 0 0 H L 11 ls [.int r8]
  refine r_if_ne (tgt := 16) C dX8_end_11 (by decide) (fun c11 => ?_) (fun c11 => ?_)
  · replace h := iF c11 h
    refine r_aload_n C hl 0 dX8_end_16 rfl rfl ?_
    refine r_get C hW 0 rfl rfl iwX8 2 (by decide) w_fl_X8_77 rfl dX8_end_17 ?_
    refine r_istore_n (lv' := [(2, .int v_taped), (0, .ref (ad 0)), (1, .int p1)]) C hl dX8_end_20 rfl (by decide) rfl (fun ls hl => ?_)
    refine r_aload_n C hl 1 dX8_end_21 rfl rfl ?_
    refine r_iload_n C hl 2 dX8_end_22 rfl rfl ?_
    refine r_put (ws' := [(ad 0, .inr (8, [.ref (ad 1), .ref (ad 2), .int p1, .int v_fault, .int v_broken, .int v_brokenAt, .int v_spot, .int v_here, .int v_token, .int v_number, .ref (ad 3), .ref (ad 4), .ref (ad 5), .ref (ad 6), .ref (ad 7), .ref (ad 8), .ref (ad 9), .ref (ad 10), .int v_isStarted, .ref (ad 11), .ref (ad 12), .ref (ad 13), .int v_evaluated, .int v_moved, .int v_isChanged, .ref (ad 14), .int v_undoMany, .ref (ad 15), .ref (ad 16), .ref (ad 17), .ref (ad 18), .ref (ad 19), .ref (ad 20), .int v_torn, .int v_isAsideChanged])), (ad 1, .inl (eI X, 720, .inl v_state)), (ad 2, .inl (eI X, 320, .inl v_tape)), (ad 3, .inl (eI X, 9, .inl v_ends)), (ad 4, .inl (eI X, 27, .inl v_letters)), (ad 5, .inl (eI X, 30, .inl v_values)), (ad 6, .inl (eZ X, 30, .inl v_isTold)), (ad 7, .inl (eI X, 30, .inl v_waits)), (ad 8, .inl (eI X, 900, .inl v_readsOf)), (ad 9, .inl (eI X, 30, .inl v_readMany)), (ad 10, .inl (eI X, 30, .inl v_heights)), (ad 11, .inl (eI X, 30, .inl v_oldValues)), (ad 12, .inl (eZ X, 30, .inl v_isOldTold)), (ad 13, .inl (eI X, 30, .inl v_oldReads)), (ad 14, .inl (eI X, 100, .inl v_undos)), (ad 15, .inl (eI X, 103, .inl v_undoAside)), (ad 16, .inl (eI X, 4, .inl v_formula)), (ad 17, .inl (eZ X, 2, .inl v_isKept)), (ad 18, .inl (eI X, 4, .inl v_lanes)), (ad 19, .inl (eI X, 4, .inl v_lengths)), (ad 20, .inl (eI X, 160, .inl v_items))]) C hW 0 rfl rfl iwX8 tyX8_ok nmX8 2 (by decide) w_fl_X8_77 rfl (tyX8_ok 2 (by decide)) rfl rfl (Nat.le_of_ble_eq_true rfl) rfl dX8_end_23 (fun H L hW => ?_)
    refine r_iload_n C hl 0 dX8_end_26 rfl rfl ?_
    exact r_iret C hq hW (by obtain rfl := Option.some.inj h; exact ⟨rfl, rfl⟩) dX8_end_27
  · replace h := iT c11 h
    refine r_iconst (v := -1) C dX8_end_14 (by decide) ?_
    exact r_iret C hq hW (by obtain rfl := Option.some.inj h; exact ⟨rfl, rfl⟩) dX8_end_15
def fX8_byteAt (v_tape : (Nat → Int32)) (v_taped : Int32) (p1 : Int32) : Option (Int32) :=
  if v_taped ≤ p1 then
    some (-4 : Int32)
  else
    rd v_tape 320 p1 fun x13 =>
    some x13
set_option maxRecDepth 100000 in
set_option maxHeartbeats 8000000 in
theorem mX8_byteAt (X : Ev) (ad : Nat → Nat) (v_state : (Nat → Int32)) (v_tape : (Nat → Int32)) (v_taped : Int32) (v_fault : Int32) (v_broken : Int32) (v_brokenAt : Int32) (v_spot : Int32) (v_here : Int32) (v_token : Int32) (v_number : Int32) (v_ends : (Nat → Int32)) (v_letters : (Nat → Int32)) (v_values : (Nat → Int32)) (v_isTold : (Nat → Int32)) (v_waits : (Nat → Int32)) (v_readsOf : (Nat → Int32)) (v_readMany : (Nat → Int32)) (v_heights : (Nat → Int32)) (v_isStarted : Int32) (v_oldValues : (Nat → Int32)) (v_isOldTold : (Nat → Int32)) (v_oldReads : (Nat → Int32)) (v_evaluated : Int32) (v_moved : Int32) (v_isChanged : Int32) (v_undos : (Nat → Int32)) (v_undoMany : Int32) (v_undoAside : (Nat → Int32)) (v_formula : (Nat → Int32)) (v_isKept : (Nat → Int32)) (v_lanes : (Nat → Int32)) (v_lengths : (Nat → Int32)) (v_items : (Nat → Int32)) (v_torn : Int32) (v_isAsideChanged : Int32) (p1 : Int32) (o : Int32) (h : fX8_byteAt v_tape v_taped p1 = some o) : Ctr X yX8_byteAt cX8_byteAt 2 (some .int) 0 0 0 0 [.ref (ad 0), .int p1] [(ad 0, .inr (8, [.ref (ad 1), .ref (ad 2), .int v_taped, .int v_fault, .int v_broken, .int v_brokenAt, .int v_spot, .int v_here, .int v_token, .int v_number, .ref (ad 3), .ref (ad 4), .ref (ad 5), .ref (ad 6), .ref (ad 7), .ref (ad 8), .ref (ad 9), .ref (ad 10), .int v_isStarted, .ref (ad 11), .ref (ad 12), .ref (ad 13), .int v_evaluated, .int v_moved, .int v_isChanged, .ref (ad 14), .int v_undoMany, .ref (ad 15), .ref (ad 16), .ref (ad 17), .ref (ad 18), .ref (ad 19), .ref (ad 20), .int v_torn, .int v_isAsideChanged])), (ad 1, .inl (eI X, 720, .inl v_state)), (ad 2, .inl (eI X, 320, .inl v_tape)), (ad 3, .inl (eI X, 9, .inl v_ends)), (ad 4, .inl (eI X, 27, .inl v_letters)), (ad 5, .inl (eI X, 30, .inl v_values)), (ad 6, .inl (eZ X, 30, .inl v_isTold)), (ad 7, .inl (eI X, 30, .inl v_waits)), (ad 8, .inl (eI X, 900, .inl v_readsOf)), (ad 9, .inl (eI X, 30, .inl v_readMany)), (ad 10, .inl (eI X, 30, .inl v_heights)), (ad 11, .inl (eI X, 30, .inl v_oldValues)), (ad 12, .inl (eZ X, 30, .inl v_isOldTold)), (ad 13, .inl (eI X, 30, .inl v_oldReads)), (ad 14, .inl (eI X, 100, .inl v_undos)), (ad 15, .inl (eI X, 103, .inl v_undoAside)), (ad 16, .inl (eI X, 4, .inl v_formula)), (ad 17, .inl (eZ X, 2, .inl v_isKept)), (ad 18, .inl (eI X, 4, .inl v_lanes)), (ad 19, .inl (eI X, 4, .inl v_lengths)), (ad 20, .inl (eI X, 160, .inl v_items))] (De (some (.int o)) [(ad 0, .inr (8, [.ref (ad 1), .ref (ad 2), .int v_taped, .int v_fault, .int v_broken, .int v_brokenAt, .int v_spot, .int v_here, .int v_token, .int v_number, .ref (ad 3), .ref (ad 4), .ref (ad 5), .ref (ad 6), .ref (ad 7), .ref (ad 8), .ref (ad 9), .ref (ad 10), .int v_isStarted, .ref (ad 11), .ref (ad 12), .ref (ad 13), .int v_evaluated, .int v_moved, .int v_isChanged, .ref (ad 14), .int v_undoMany, .ref (ad 15), .ref (ad 16), .ref (ad 17), .ref (ad 18), .ref (ad 19), .ref (ad 20), .int v_torn, .int v_isAsideChanged])), (ad 1, .inl (eI X, 720, .inl v_state)), (ad 2, .inl (eI X, 320, .inl v_tape)), (ad 3, .inl (eI X, 9, .inl v_ends)), (ad 4, .inl (eI X, 27, .inl v_letters)), (ad 5, .inl (eI X, 30, .inl v_values)), (ad 6, .inl (eZ X, 30, .inl v_isTold)), (ad 7, .inl (eI X, 30, .inl v_waits)), (ad 8, .inl (eI X, 900, .inl v_readsOf)), (ad 9, .inl (eI X, 30, .inl v_readMany)), (ad 10, .inl (eI X, 30, .inl v_heights)), (ad 11, .inl (eI X, 30, .inl v_oldValues)), (ad 12, .inl (eZ X, 30, .inl v_isOldTold)), (ad 13, .inl (eI X, 30, .inl v_oldReads)), (ad 14, .inl (eI X, 100, .inl v_undos)), (ad 15, .inl (eI X, 103, .inl v_undoAside)), (ad 16, .inl (eI X, 4, .inl v_formula)), (ad 17, .inl (eZ X, 2, .inl v_isKept)), (ad 18, .inl (eI X, 4, .inl v_lanes)), (ad 19, .inl (eI X, 4, .inl v_lengths)), (ad 20, .inl (eI X, 160, .inl v_items))]) := by
  refine Ctr.start (by decide) (Nat.le_of_ble_eq_true rfl) (fun k A ls C hq hin hW hl => ?_)
  replace C : Cx X k cX8_byteAt 2 (some .int) RX8 A 0 0 0 0 := C
  replace hl : lv_has ls 2 [(0, .ref (ad 0)), (1, .int p1)] := hl
  suffices hh : ∀ (H : Heap) (L : List Loc), Wd X k A [(ad 0, .inr (8, [.ref (ad 1), .ref (ad 2), .int v_taped, .int v_fault, .int v_broken, .int v_brokenAt, .int v_spot, .int v_here, .int v_token, .int v_number, .ref (ad 3), .ref (ad 4), .ref (ad 5), .ref (ad 6), .ref (ad 7), .ref (ad 8), .ref (ad 9), .ref (ad 10), .int v_isStarted, .ref (ad 11), .ref (ad 12), .ref (ad 13), .int v_evaluated, .int v_moved, .int v_isChanged, .ref (ad 14), .int v_undoMany, .ref (ad 15), .ref (ad 16), .ref (ad 17), .ref (ad 18), .ref (ad 19), .ref (ad 20), .int v_torn, .int v_isAsideChanged])), (ad 1, .inl (eI X, 720, .inl v_state)), (ad 2, .inl (eI X, 320, .inl v_tape)), (ad 3, .inl (eI X, 9, .inl v_ends)), (ad 4, .inl (eI X, 27, .inl v_letters)), (ad 5, .inl (eI X, 30, .inl v_values)), (ad 6, .inl (eZ X, 30, .inl v_isTold)), (ad 7, .inl (eI X, 30, .inl v_waits)), (ad 8, .inl (eI X, 900, .inl v_readsOf)), (ad 9, .inl (eI X, 30, .inl v_readMany)), (ad 10, .inl (eI X, 30, .inl v_heights)), (ad 11, .inl (eI X, 30, .inl v_oldValues)), (ad 12, .inl (eZ X, 30, .inl v_isOldTold)), (ad 13, .inl (eI X, 30, .inl v_oldReads)), (ad 14, .inl (eI X, 100, .inl v_undos)), (ad 15, .inl (eI X, 103, .inl v_undoAside)), (ad 16, .inl (eI X, 4, .inl v_formula)), (ad 17, .inl (eZ X, 2, .inl v_isKept)), (ad 18, .inl (eI X, 4, .inl v_lanes)), (ad 19, .inl (eI X, 4, .inl v_lengths)), (ad 20, .inl (eI X, 160, .inl v_items))] H L → Wx X k 0 0 H L 0 ls [] from hh _ _ hW
  clear hW
  intro H L hW
  unfold fX8_byteAt at h
  refine r_iload_n C hl 1 dX8_byteAt_0 rfl rfl ?_
  refine r_aload_n C hl 0 dX8_byteAt_1 rfl rfl ?_
  refine r_get C hW 0 rfl rfl iwX8 2 (by decide) w_fl_X8_77 rfl dX8_byteAt_2 ?_
  refine r_icmp_ge (tgt := 17) C dX8_byteAt_5 (by decide) (fun c5 => ?_) (fun c5 => ?_)
  · replace h := iT c5 h
    refine r_bipush (v := -4) C dX8_byteAt_17 (by decide) ?_
    exact r_iret C hq hW (by obtain rfl := Option.some.inj h; exact ⟨rfl, rfl⟩) dX8_byteAt_19
  · replace h := iF c5 h
    refine r_aload_n C hl 0 dX8_byteAt_8 rfl rfl ?_
    refine r_get C hW 0 rfl rfl iwX8 1 (by decide) w_fl_X8_13 rfl dX8_byteAt_9 ?_
    refine r_iload_n C hl 1 dX8_byteAt_12 rfl rfl ?_
    obtain ⟨x13, e13, g13, h⟩ := rd_some h
    refine r_iald C hW 2 rfl g13 e13 dX8_byteAt_13 ?_
    refine r_goto (tgt := 19) C dX8_byteAt_14 (by decide) ?_
    exact r_iret C hq hW (by obtain rfl := Option.some.inj h; exact ⟨rfl, rfl⟩) dX8_byteAt_19
def fX8_fails (v_broken : Int32) (v_brokenAt : Int32) (v_here : Int32) (p1 : Int32) : Option (Int32 × Int32) :=
  if v_broken = (0 : Int32) then
    some (p1, v_here)
  else
    some (v_broken, v_brokenAt)
set_option maxRecDepth 100000 in
set_option maxHeartbeats 8000000 in
theorem mX8_fails (X : Ev) (ad : Nat → Nat) (v_state : (Nat → Int32)) (v_tape : (Nat → Int32)) (v_taped : Int32) (v_fault : Int32) (v_broken : Int32) (v_brokenAt : Int32) (v_spot : Int32) (v_here : Int32) (v_token : Int32) (v_number : Int32) (v_ends : (Nat → Int32)) (v_letters : (Nat → Int32)) (v_values : (Nat → Int32)) (v_isTold : (Nat → Int32)) (v_waits : (Nat → Int32)) (v_readsOf : (Nat → Int32)) (v_readMany : (Nat → Int32)) (v_heights : (Nat → Int32)) (v_isStarted : Int32) (v_oldValues : (Nat → Int32)) (v_isOldTold : (Nat → Int32)) (v_oldReads : (Nat → Int32)) (v_evaluated : Int32) (v_moved : Int32) (v_isChanged : Int32) (v_undos : (Nat → Int32)) (v_undoMany : Int32) (v_undoAside : (Nat → Int32)) (v_formula : (Nat → Int32)) (v_isKept : (Nat → Int32)) (v_lanes : (Nat → Int32)) (v_lengths : (Nat → Int32)) (v_items : (Nat → Int32)) (v_torn : Int32) (v_isAsideChanged : Int32) (p1 : Int32) (o : Int32 × Int32) (h : fX8_fails v_broken v_brokenAt v_here p1 = some o) : Ctr X yX8_fails cX8_fails 2 none 0 0 0 0 [.ref (ad 0), .int p1] [(ad 0, .inr (8, [.ref (ad 1), .ref (ad 2), .int v_taped, .int v_fault, .int v_broken, .int v_brokenAt, .int v_spot, .int v_here, .int v_token, .int v_number, .ref (ad 3), .ref (ad 4), .ref (ad 5), .ref (ad 6), .ref (ad 7), .ref (ad 8), .ref (ad 9), .ref (ad 10), .int v_isStarted, .ref (ad 11), .ref (ad 12), .ref (ad 13), .int v_evaluated, .int v_moved, .int v_isChanged, .ref (ad 14), .int v_undoMany, .ref (ad 15), .ref (ad 16), .ref (ad 17), .ref (ad 18), .ref (ad 19), .ref (ad 20), .int v_torn, .int v_isAsideChanged])), (ad 1, .inl (eI X, 720, .inl v_state)), (ad 2, .inl (eI X, 320, .inl v_tape)), (ad 3, .inl (eI X, 9, .inl v_ends)), (ad 4, .inl (eI X, 27, .inl v_letters)), (ad 5, .inl (eI X, 30, .inl v_values)), (ad 6, .inl (eZ X, 30, .inl v_isTold)), (ad 7, .inl (eI X, 30, .inl v_waits)), (ad 8, .inl (eI X, 900, .inl v_readsOf)), (ad 9, .inl (eI X, 30, .inl v_readMany)), (ad 10, .inl (eI X, 30, .inl v_heights)), (ad 11, .inl (eI X, 30, .inl v_oldValues)), (ad 12, .inl (eZ X, 30, .inl v_isOldTold)), (ad 13, .inl (eI X, 30, .inl v_oldReads)), (ad 14, .inl (eI X, 100, .inl v_undos)), (ad 15, .inl (eI X, 103, .inl v_undoAside)), (ad 16, .inl (eI X, 4, .inl v_formula)), (ad 17, .inl (eZ X, 2, .inl v_isKept)), (ad 18, .inl (eI X, 4, .inl v_lanes)), (ad 19, .inl (eI X, 4, .inl v_lengths)), (ad 20, .inl (eI X, 160, .inl v_items))] (De none [(ad 0, .inr (8, [.ref (ad 1), .ref (ad 2), .int v_taped, .int v_fault, .int (o.1), .int (o.2), .int v_spot, .int v_here, .int v_token, .int v_number, .ref (ad 3), .ref (ad 4), .ref (ad 5), .ref (ad 6), .ref (ad 7), .ref (ad 8), .ref (ad 9), .ref (ad 10), .int v_isStarted, .ref (ad 11), .ref (ad 12), .ref (ad 13), .int v_evaluated, .int v_moved, .int v_isChanged, .ref (ad 14), .int v_undoMany, .ref (ad 15), .ref (ad 16), .ref (ad 17), .ref (ad 18), .ref (ad 19), .ref (ad 20), .int v_torn, .int v_isAsideChanged])), (ad 1, .inl (eI X, 720, .inl v_state)), (ad 2, .inl (eI X, 320, .inl v_tape)), (ad 3, .inl (eI X, 9, .inl v_ends)), (ad 4, .inl (eI X, 27, .inl v_letters)), (ad 5, .inl (eI X, 30, .inl v_values)), (ad 6, .inl (eZ X, 30, .inl v_isTold)), (ad 7, .inl (eI X, 30, .inl v_waits)), (ad 8, .inl (eI X, 900, .inl v_readsOf)), (ad 9, .inl (eI X, 30, .inl v_readMany)), (ad 10, .inl (eI X, 30, .inl v_heights)), (ad 11, .inl (eI X, 30, .inl v_oldValues)), (ad 12, .inl (eZ X, 30, .inl v_isOldTold)), (ad 13, .inl (eI X, 30, .inl v_oldReads)), (ad 14, .inl (eI X, 100, .inl v_undos)), (ad 15, .inl (eI X, 103, .inl v_undoAside)), (ad 16, .inl (eI X, 4, .inl v_formula)), (ad 17, .inl (eZ X, 2, .inl v_isKept)), (ad 18, .inl (eI X, 4, .inl v_lanes)), (ad 19, .inl (eI X, 4, .inl v_lengths)), (ad 20, .inl (eI X, 160, .inl v_items))]) := by
  refine Ctr.start (by decide) (Nat.le_of_ble_eq_true rfl) (fun k A ls C hq hin hW hl => ?_)
  replace C : Cx X k cX8_fails 2 none RX8 A 0 0 0 0 := C
  replace hl : lv_has ls 2 [(0, .ref (ad 0)), (1, .int p1)] := hl
  suffices hh : ∀ (H : Heap) (L : List Loc), Wd X k A [(ad 0, .inr (8, [.ref (ad 1), .ref (ad 2), .int v_taped, .int v_fault, .int v_broken, .int v_brokenAt, .int v_spot, .int v_here, .int v_token, .int v_number, .ref (ad 3), .ref (ad 4), .ref (ad 5), .ref (ad 6), .ref (ad 7), .ref (ad 8), .ref (ad 9), .ref (ad 10), .int v_isStarted, .ref (ad 11), .ref (ad 12), .ref (ad 13), .int v_evaluated, .int v_moved, .int v_isChanged, .ref (ad 14), .int v_undoMany, .ref (ad 15), .ref (ad 16), .ref (ad 17), .ref (ad 18), .ref (ad 19), .ref (ad 20), .int v_torn, .int v_isAsideChanged])), (ad 1, .inl (eI X, 720, .inl v_state)), (ad 2, .inl (eI X, 320, .inl v_tape)), (ad 3, .inl (eI X, 9, .inl v_ends)), (ad 4, .inl (eI X, 27, .inl v_letters)), (ad 5, .inl (eI X, 30, .inl v_values)), (ad 6, .inl (eZ X, 30, .inl v_isTold)), (ad 7, .inl (eI X, 30, .inl v_waits)), (ad 8, .inl (eI X, 900, .inl v_readsOf)), (ad 9, .inl (eI X, 30, .inl v_readMany)), (ad 10, .inl (eI X, 30, .inl v_heights)), (ad 11, .inl (eI X, 30, .inl v_oldValues)), (ad 12, .inl (eZ X, 30, .inl v_isOldTold)), (ad 13, .inl (eI X, 30, .inl v_oldReads)), (ad 14, .inl (eI X, 100, .inl v_undos)), (ad 15, .inl (eI X, 103, .inl v_undoAside)), (ad 16, .inl (eI X, 4, .inl v_formula)), (ad 17, .inl (eZ X, 2, .inl v_isKept)), (ad 18, .inl (eI X, 4, .inl v_lanes)), (ad 19, .inl (eI X, 4, .inl v_lengths)), (ad 20, .inl (eI X, 160, .inl v_items))] H L → Wx X k 0 0 H L 0 ls [] from hh _ _ hW
  clear hW
  intro H L hW
  unfold fX8_fails at h
  refine r_aload_n C hl 0 dX8_fails_0 rfl rfl ?_
  refine r_get C hW 0 rfl rfl iwX8 4 (by decide) w_fl_X8_81 rfl dX8_fails_1 ?_
  refine r_if_ne (tgt := 20) C dX8_fails_4 (by decide) (fun c4 => ?_) (fun c4 => ?_)
  · replace h := iF c4 h
    exact r_vret C hq hW (by obtain rfl := Option.some.inj h; exact ⟨rfl, rfl⟩) dX8_fails_20
  · replace h := iT c4 h
    refine r_aload_n C hl 0 dX8_fails_7 rfl rfl ?_
    refine r_iload_n C hl 1 dX8_fails_8 rfl rfl ?_
    refine r_put (ws' := [(ad 0, .inr (8, [.ref (ad 1), .ref (ad 2), .int v_taped, .int v_fault, .int p1, .int v_brokenAt, .int v_spot, .int v_here, .int v_token, .int v_number, .ref (ad 3), .ref (ad 4), .ref (ad 5), .ref (ad 6), .ref (ad 7), .ref (ad 8), .ref (ad 9), .ref (ad 10), .int v_isStarted, .ref (ad 11), .ref (ad 12), .ref (ad 13), .int v_evaluated, .int v_moved, .int v_isChanged, .ref (ad 14), .int v_undoMany, .ref (ad 15), .ref (ad 16), .ref (ad 17), .ref (ad 18), .ref (ad 19), .ref (ad 20), .int v_torn, .int v_isAsideChanged])), (ad 1, .inl (eI X, 720, .inl v_state)), (ad 2, .inl (eI X, 320, .inl v_tape)), (ad 3, .inl (eI X, 9, .inl v_ends)), (ad 4, .inl (eI X, 27, .inl v_letters)), (ad 5, .inl (eI X, 30, .inl v_values)), (ad 6, .inl (eZ X, 30, .inl v_isTold)), (ad 7, .inl (eI X, 30, .inl v_waits)), (ad 8, .inl (eI X, 900, .inl v_readsOf)), (ad 9, .inl (eI X, 30, .inl v_readMany)), (ad 10, .inl (eI X, 30, .inl v_heights)), (ad 11, .inl (eI X, 30, .inl v_oldValues)), (ad 12, .inl (eZ X, 30, .inl v_isOldTold)), (ad 13, .inl (eI X, 30, .inl v_oldReads)), (ad 14, .inl (eI X, 100, .inl v_undos)), (ad 15, .inl (eI X, 103, .inl v_undoAside)), (ad 16, .inl (eI X, 4, .inl v_formula)), (ad 17, .inl (eZ X, 2, .inl v_isKept)), (ad 18, .inl (eI X, 4, .inl v_lanes)), (ad 19, .inl (eI X, 4, .inl v_lengths)), (ad 20, .inl (eI X, 160, .inl v_items))]) C hW 0 rfl rfl iwX8 tyX8_ok nmX8 4 (by decide) w_fl_X8_81 rfl (tyX8_ok 4 (by decide)) rfl rfl (Nat.le_of_ble_eq_true rfl) rfl dX8_fails_9 (fun H L hW => ?_)
    refine r_aload_n C hl 0 dX8_fails_12 rfl rfl ?_
    refine r_aload_n C hl 0 dX8_fails_13 rfl rfl ?_
    refine r_get C hW 0 rfl rfl iwX8 7 (by decide) w_fl_X8_84 rfl dX8_fails_14 ?_
    refine r_put (ws' := [(ad 0, .inr (8, [.ref (ad 1), .ref (ad 2), .int v_taped, .int v_fault, .int p1, .int v_here, .int v_spot, .int v_here, .int v_token, .int v_number, .ref (ad 3), .ref (ad 4), .ref (ad 5), .ref (ad 6), .ref (ad 7), .ref (ad 8), .ref (ad 9), .ref (ad 10), .int v_isStarted, .ref (ad 11), .ref (ad 12), .ref (ad 13), .int v_evaluated, .int v_moved, .int v_isChanged, .ref (ad 14), .int v_undoMany, .ref (ad 15), .ref (ad 16), .ref (ad 17), .ref (ad 18), .ref (ad 19), .ref (ad 20), .int v_torn, .int v_isAsideChanged])), (ad 1, .inl (eI X, 720, .inl v_state)), (ad 2, .inl (eI X, 320, .inl v_tape)), (ad 3, .inl (eI X, 9, .inl v_ends)), (ad 4, .inl (eI X, 27, .inl v_letters)), (ad 5, .inl (eI X, 30, .inl v_values)), (ad 6, .inl (eZ X, 30, .inl v_isTold)), (ad 7, .inl (eI X, 30, .inl v_waits)), (ad 8, .inl (eI X, 900, .inl v_readsOf)), (ad 9, .inl (eI X, 30, .inl v_readMany)), (ad 10, .inl (eI X, 30, .inl v_heights)), (ad 11, .inl (eI X, 30, .inl v_oldValues)), (ad 12, .inl (eZ X, 30, .inl v_isOldTold)), (ad 13, .inl (eI X, 30, .inl v_oldReads)), (ad 14, .inl (eI X, 100, .inl v_undos)), (ad 15, .inl (eI X, 103, .inl v_undoAside)), (ad 16, .inl (eI X, 4, .inl v_formula)), (ad 17, .inl (eZ X, 2, .inl v_isKept)), (ad 18, .inl (eI X, 4, .inl v_lanes)), (ad 19, .inl (eI X, 4, .inl v_lengths)), (ad 20, .inl (eI X, 160, .inl v_items))]) C hW 0 rfl rfl iwX8 tyX8_ok nmX8 5 (by decide) w_fl_X8_87 rfl (tyX8_ok 5 (by decide)) rfl rfl (Nat.le_of_ble_eq_true rfl) rfl dX8_fails_17 (fun H L hW => ?_)
    exact r_vret C hq hW (by obtain rfl := Option.some.inj h; exact ⟨rfl, rfl⟩) dX8_fails_20
def fX8_kindHere_j106 (v_tape : (Nat → Int32)) (v_taped : Int32) (v_spot : Int32) (v_here : Int32) (v_token : Int32) (v_ends : (Nat → Int32)) (v_letters : (Nat → Int32)) (self2 : Int32 → Option (Int32)) (l1 : Int32) (l2 : Int32) : Option (Int32) :=
  if l2 = (0 : Int32) then
    self2 (l1 + (1 : Int32))
  else
    some (l1 + (1 : Int32))
def fX8_kindHere_j99 (v_tape : (Nat → Int32)) (v_taped : Int32) (v_spot : Int32) (v_here : Int32) (v_token : Int32) (v_ends : (Nat → Int32)) (v_letters : (Nat → Int32)) (self2 : Int32 → Option (Int32)) (self51 : Int32 → Int32 → Option (Int32)) (l1 : Int32) (l3 : Int32) (s0 : Int32) : Option (Int32) :=
  self51 s0 (l3 + (1 : Int32))
def fX8_kindHere_b51 (v_tape : (Nat → Int32)) (v_taped : Int32) (v_spot : Int32) (v_here : Int32) (v_token : Int32) (v_ends : (Nat → Int32)) (v_letters : (Nat → Int32)) (self2 : Int32 → Option (Int32)) (l1 : Int32) (self51 : Int32 → Int32 → Option (Int32)) (l2 : Int32) (l3 : Int32) : Option (Int32) :=
  if l2 = (0 : Int32) then
    fX8_kindHere_j106 v_tape v_taped v_spot v_here v_token v_ends v_letters self2 l1 l2
  else
    if (v_spot - v_here) ≤ l3 then
      fX8_kindHere_j106 v_tape v_taped v_spot v_here v_token v_ends v_letters self2 l1 l2
    else
      bd1 (fX8_byteAt v_tape v_taped (v_here + l3)) fun r75 =>
      rd v_ends 9 l1 fun x87 =>
      rd v_letters 27 (x87 + l3) fun x90 =>
      if r75 = x90 then
        fX8_kindHere_j99 v_tape v_taped v_spot v_here v_token v_ends v_letters self2 self51 l1 l3 (1 : Int32)
      else
        fX8_kindHere_j99 v_tape v_taped v_spot v_here v_token v_ends v_letters self2 self51 l1 l3 (0 : Int32)
def fX8_kindHere_j48 (v_tape : (Nat → Int32)) (v_taped : Int32) (v_spot : Int32) (v_here : Int32) (v_token : Int32) (v_ends : (Nat → Int32)) (v_letters : (Nat → Int32)) (self2 : Int32 → Option (Int32)) (l1 : Int32) (s0 : Int32) : Option (Int32) :=
  lq2 (fX8_kindHere_b51 v_tape v_taped v_spot v_here v_token v_ends v_letters self2 l1) fu s0 (0 : Int32)
def fX8_kindHere_b2 (v_tape : (Nat → Int32)) (v_taped : Int32) (v_spot : Int32) (v_here : Int32) (v_token : Int32) (v_ends : (Nat → Int32)) (v_letters : (Nat → Int32))   (self2 : Int32 → Option (Int32)) (l1 : Int32) : Option (Int32) :=
  if (8 : Int32) ≤ l1 then
    some (-4 : Int32)
  else
    if v_token = (1 : Int32) then
      rd v_ends 9 (l1 + (1 : Int32)) fun x32 =>
      rd v_ends 9 l1 fun x38 =>
      if (v_spot - v_here) = (x32 - x38) then
        fX8_kindHere_j48 v_tape v_taped v_spot v_here v_token v_ends v_letters self2 l1 (1 : Int32)
      else
        fX8_kindHere_j48 v_tape v_taped v_spot v_here v_token v_ends v_letters self2 l1 (0 : Int32)
    else
      some (-4 : Int32)
def fX8_kindHere (v_tape : (Nat → Int32)) (v_taped : Int32) (v_spot : Int32) (v_here : Int32) (v_token : Int32) (v_ends : (Nat → Int32)) (v_letters : (Nat → Int32)) : Option (Int32) :=
  lq1 (fX8_kindHere_b2 v_tape v_taped v_spot v_here v_token v_ends v_letters  ) fu (0 : Int32)
set_option maxRecDepth 100000 in
set_option maxHeartbeats 8000000 in
theorem mX8_kindHere (X : Ev) (ad : Nat → Nat) (v_state : (Nat → Int32)) (v_tape : (Nat → Int32)) (v_taped : Int32) (v_fault : Int32) (v_broken : Int32) (v_brokenAt : Int32) (v_spot : Int32) (v_here : Int32) (v_token : Int32) (v_number : Int32) (v_ends : (Nat → Int32)) (v_letters : (Nat → Int32)) (v_values : (Nat → Int32)) (v_isTold : (Nat → Int32)) (v_waits : (Nat → Int32)) (v_readsOf : (Nat → Int32)) (v_readMany : (Nat → Int32)) (v_heights : (Nat → Int32)) (v_isStarted : Int32) (v_oldValues : (Nat → Int32)) (v_isOldTold : (Nat → Int32)) (v_oldReads : (Nat → Int32)) (v_evaluated : Int32) (v_moved : Int32) (v_isChanged : Int32) (v_undos : (Nat → Int32)) (v_undoMany : Int32) (v_undoAside : (Nat → Int32)) (v_formula : (Nat → Int32)) (v_isKept : (Nat → Int32)) (v_lanes : (Nat → Int32)) (v_lengths : (Nat → Int32)) (v_items : (Nat → Int32)) (v_torn : Int32) (v_isAsideChanged : Int32)  (o : Int32) (h : fX8_kindHere v_tape v_taped v_spot v_here v_token v_ends v_letters = some o) : Ctr X yX8_kindHere cX8_kindHere 4 (some .int) 1 21 0 0 [.ref (ad 0)] [(ad 0, .inr (8, [.ref (ad 1), .ref (ad 2), .int v_taped, .int v_fault, .int v_broken, .int v_brokenAt, .int v_spot, .int v_here, .int v_token, .int v_number, .ref (ad 3), .ref (ad 4), .ref (ad 5), .ref (ad 6), .ref (ad 7), .ref (ad 8), .ref (ad 9), .ref (ad 10), .int v_isStarted, .ref (ad 11), .ref (ad 12), .ref (ad 13), .int v_evaluated, .int v_moved, .int v_isChanged, .ref (ad 14), .int v_undoMany, .ref (ad 15), .ref (ad 16), .ref (ad 17), .ref (ad 18), .ref (ad 19), .ref (ad 20), .int v_torn, .int v_isAsideChanged])), (ad 1, .inl (eI X, 720, .inl v_state)), (ad 2, .inl (eI X, 320, .inl v_tape)), (ad 3, .inl (eI X, 9, .inl v_ends)), (ad 4, .inl (eI X, 27, .inl v_letters)), (ad 5, .inl (eI X, 30, .inl v_values)), (ad 6, .inl (eZ X, 30, .inl v_isTold)), (ad 7, .inl (eI X, 30, .inl v_waits)), (ad 8, .inl (eI X, 900, .inl v_readsOf)), (ad 9, .inl (eI X, 30, .inl v_readMany)), (ad 10, .inl (eI X, 30, .inl v_heights)), (ad 11, .inl (eI X, 30, .inl v_oldValues)), (ad 12, .inl (eZ X, 30, .inl v_isOldTold)), (ad 13, .inl (eI X, 30, .inl v_oldReads)), (ad 14, .inl (eI X, 100, .inl v_undos)), (ad 15, .inl (eI X, 103, .inl v_undoAside)), (ad 16, .inl (eI X, 4, .inl v_formula)), (ad 17, .inl (eZ X, 2, .inl v_isKept)), (ad 18, .inl (eI X, 4, .inl v_lanes)), (ad 19, .inl (eI X, 4, .inl v_lengths)), (ad 20, .inl (eI X, 160, .inl v_items))] (De (some (.int o)) [(ad 0, .inr (8, [.ref (ad 1), .ref (ad 2), .int v_taped, .int v_fault, .int v_broken, .int v_brokenAt, .int v_spot, .int v_here, .int v_token, .int v_number, .ref (ad 3), .ref (ad 4), .ref (ad 5), .ref (ad 6), .ref (ad 7), .ref (ad 8), .ref (ad 9), .ref (ad 10), .int v_isStarted, .ref (ad 11), .ref (ad 12), .ref (ad 13), .int v_evaluated, .int v_moved, .int v_isChanged, .ref (ad 14), .int v_undoMany, .ref (ad 15), .ref (ad 16), .ref (ad 17), .ref (ad 18), .ref (ad 19), .ref (ad 20), .int v_torn, .int v_isAsideChanged])), (ad 1, .inl (eI X, 720, .inl v_state)), (ad 2, .inl (eI X, 320, .inl v_tape)), (ad 3, .inl (eI X, 9, .inl v_ends)), (ad 4, .inl (eI X, 27, .inl v_letters)), (ad 5, .inl (eI X, 30, .inl v_values)), (ad 6, .inl (eZ X, 30, .inl v_isTold)), (ad 7, .inl (eI X, 30, .inl v_waits)), (ad 8, .inl (eI X, 900, .inl v_readsOf)), (ad 9, .inl (eI X, 30, .inl v_readMany)), (ad 10, .inl (eI X, 30, .inl v_heights)), (ad 11, .inl (eI X, 30, .inl v_oldValues)), (ad 12, .inl (eZ X, 30, .inl v_isOldTold)), (ad 13, .inl (eI X, 30, .inl v_oldReads)), (ad 14, .inl (eI X, 100, .inl v_undos)), (ad 15, .inl (eI X, 103, .inl v_undoAside)), (ad 16, .inl (eI X, 4, .inl v_formula)), (ad 17, .inl (eZ X, 2, .inl v_isKept)), (ad 18, .inl (eI X, 4, .inl v_lanes)), (ad 19, .inl (eI X, 4, .inl v_lengths)), (ad 20, .inl (eI X, 160, .inl v_items))]) := by
  refine Ctr.start (by decide) (Nat.le_of_ble_eq_true rfl) (fun k A ls C hq hin hW hl => ?_)
  replace C : Cx X k cX8_kindHere 4 (some .int) RX8 A 1 21 0 0 := C
  replace hl : lv_has ls 4 [(0, .ref (ad 0))] := hl
  suffices hh : ∀ (H : Heap) (L : List Loc), Wd X k A [(ad 0, .inr (8, [.ref (ad 1), .ref (ad 2), .int v_taped, .int v_fault, .int v_broken, .int v_brokenAt, .int v_spot, .int v_here, .int v_token, .int v_number, .ref (ad 3), .ref (ad 4), .ref (ad 5), .ref (ad 6), .ref (ad 7), .ref (ad 8), .ref (ad 9), .ref (ad 10), .int v_isStarted, .ref (ad 11), .ref (ad 12), .ref (ad 13), .int v_evaluated, .int v_moved, .int v_isChanged, .ref (ad 14), .int v_undoMany, .ref (ad 15), .ref (ad 16), .ref (ad 17), .ref (ad 18), .ref (ad 19), .ref (ad 20), .int v_torn, .int v_isAsideChanged])), (ad 1, .inl (eI X, 720, .inl v_state)), (ad 2, .inl (eI X, 320, .inl v_tape)), (ad 3, .inl (eI X, 9, .inl v_ends)), (ad 4, .inl (eI X, 27, .inl v_letters)), (ad 5, .inl (eI X, 30, .inl v_values)), (ad 6, .inl (eZ X, 30, .inl v_isTold)), (ad 7, .inl (eI X, 30, .inl v_waits)), (ad 8, .inl (eI X, 900, .inl v_readsOf)), (ad 9, .inl (eI X, 30, .inl v_readMany)), (ad 10, .inl (eI X, 30, .inl v_heights)), (ad 11, .inl (eI X, 30, .inl v_oldValues)), (ad 12, .inl (eZ X, 30, .inl v_isOldTold)), (ad 13, .inl (eI X, 30, .inl v_oldReads)), (ad 14, .inl (eI X, 100, .inl v_undos)), (ad 15, .inl (eI X, 103, .inl v_undoAside)), (ad 16, .inl (eI X, 4, .inl v_formula)), (ad 17, .inl (eZ X, 2, .inl v_isKept)), (ad 18, .inl (eI X, 4, .inl v_lanes)), (ad 19, .inl (eI X, 4, .inl v_lengths)), (ad 20, .inl (eI X, 160, .inl v_items))] H L → Wx X k 0 0 H L 0 ls [] from hh _ _ hW
  clear hW
  intro H L hW
  have K2 : ∀ (n2 : Nat), ∀ (l1 : Int32), ∀ (H : Heap) (L : List Loc) (ls : Array Slot), Wd X k A [(ad 0, .inr (8, [.ref (ad 1), .ref (ad 2), .int v_taped, .int v_fault, .int v_broken, .int v_brokenAt, .int v_spot, .int v_here, .int v_token, .int v_number, .ref (ad 3), .ref (ad 4), .ref (ad 5), .ref (ad 6), .ref (ad 7), .ref (ad 8), .ref (ad 9), .ref (ad 10), .int v_isStarted, .ref (ad 11), .ref (ad 12), .ref (ad 13), .int v_evaluated, .int v_moved, .int v_isChanged, .ref (ad 14), .int v_undoMany, .ref (ad 15), .ref (ad 16), .ref (ad 17), .ref (ad 18), .ref (ad 19), .ref (ad 20), .int v_torn, .int v_isAsideChanged])), (ad 1, .inl (eI X, 720, .inl v_state)), (ad 2, .inl (eI X, 320, .inl v_tape)), (ad 3, .inl (eI X, 9, .inl v_ends)), (ad 4, .inl (eI X, 27, .inl v_letters)), (ad 5, .inl (eI X, 30, .inl v_values)), (ad 6, .inl (eZ X, 30, .inl v_isTold)), (ad 7, .inl (eI X, 30, .inl v_waits)), (ad 8, .inl (eI X, 900, .inl v_readsOf)), (ad 9, .inl (eI X, 30, .inl v_readMany)), (ad 10, .inl (eI X, 30, .inl v_heights)), (ad 11, .inl (eI X, 30, .inl v_oldValues)), (ad 12, .inl (eZ X, 30, .inl v_isOldTold)), (ad 13, .inl (eI X, 30, .inl v_oldReads)), (ad 14, .inl (eI X, 100, .inl v_undos)), (ad 15, .inl (eI X, 103, .inl v_undoAside)), (ad 16, .inl (eI X, 4, .inl v_formula)), (ad 17, .inl (eZ X, 2, .inl v_isKept)), (ad 18, .inl (eI X, 4, .inl v_lanes)), (ad 19, .inl (eI X, 4, .inl v_lengths)), (ad 20, .inl (eI X, 160, .inl v_items))] H L → lv_has ls 4 [(0, .ref (ad 0)), (1, .int l1)] → lq1 (fX8_kindHere_b2 v_tape v_taped v_spot v_here v_token v_ends v_letters  ) n2 l1 = some o → Wx X k 0 0 H L 2 ls [] := by
    intro n2
    induction n2 with
    | zero => intro l1 H L ls hW hl h; exact lq1_0 h
    | succ n2 ih2 =>
      have K106 : ∀ (l1 : Int32), ∀ (l2 : Int32), ∀ (H : Heap) (L : List Loc) (ls : Array Slot), Wd X k A [(ad 0, .inr (8, [.ref (ad 1), .ref (ad 2), .int v_taped, .int v_fault, .int v_broken, .int v_brokenAt, .int v_spot, .int v_here, .int v_token, .int v_number, .ref (ad 3), .ref (ad 4), .ref (ad 5), .ref (ad 6), .ref (ad 7), .ref (ad 8), .ref (ad 9), .ref (ad 10), .int v_isStarted, .ref (ad 11), .ref (ad 12), .ref (ad 13), .int v_evaluated, .int v_moved, .int v_isChanged, .ref (ad 14), .int v_undoMany, .ref (ad 15), .ref (ad 16), .ref (ad 17), .ref (ad 18), .ref (ad 19), .ref (ad 20), .int v_torn, .int v_isAsideChanged])), (ad 1, .inl (eI X, 720, .inl v_state)), (ad 2, .inl (eI X, 320, .inl v_tape)), (ad 3, .inl (eI X, 9, .inl v_ends)), (ad 4, .inl (eI X, 27, .inl v_letters)), (ad 5, .inl (eI X, 30, .inl v_values)), (ad 6, .inl (eZ X, 30, .inl v_isTold)), (ad 7, .inl (eI X, 30, .inl v_waits)), (ad 8, .inl (eI X, 900, .inl v_readsOf)), (ad 9, .inl (eI X, 30, .inl v_readMany)), (ad 10, .inl (eI X, 30, .inl v_heights)), (ad 11, .inl (eI X, 30, .inl v_oldValues)), (ad 12, .inl (eZ X, 30, .inl v_isOldTold)), (ad 13, .inl (eI X, 30, .inl v_oldReads)), (ad 14, .inl (eI X, 100, .inl v_undos)), (ad 15, .inl (eI X, 103, .inl v_undoAside)), (ad 16, .inl (eI X, 4, .inl v_formula)), (ad 17, .inl (eZ X, 2, .inl v_isKept)), (ad 18, .inl (eI X, 4, .inl v_lanes)), (ad 19, .inl (eI X, 4, .inl v_lengths)), (ad 20, .inl (eI X, 160, .inl v_items))] H L → lv_has ls 4 [(0, .ref (ad 0)), (1, .int l1), (2, .int l2)] → fX8_kindHere_j106 v_tape v_taped v_spot v_here v_token v_ends v_letters (lq1 (fX8_kindHere_b2 v_tape v_taped v_spot v_here v_token v_ends v_letters  ) n2) l1 l2 = some o → Wx X k 0 0 H L 106 ls [] := by
        intro l1 l2 H L ls hW hl h
        unfold fX8_kindHere_j106 at h
        refine r_iload_n C hl 2 dX8_kindHere_106 rfl rfl ?_
        refine r_if_eq (tgt := 114) C dX8_kindHere_107 (by decide) (fun c107 => ?_) (fun c107 => ?_)
        · replace h := iT c107 h
          refine r_iinc (j := 1) (v := l1 + (1 : Int32)) (lv' := [(1, .int (l1 + (1 : Int32))), (0, .ref (ad 0)), (2, .int l2)]) C hl dX8_kindHere_114 rfl rfl (by decide) rfl (fun ls hl => ?_)
          refine r_goto (tgt := 2) C dX8_kindHere_117 (by decide) ?_
          exact ih2 (l1 + (1 : Int32)) H L ls hW (lv_sub hl [1, 0] rfl) h
        · replace h := iF c107 h
          refine r_iload_n C hl 1 dX8_kindHere_110 rfl rfl ?_
          refine r_iconst (v := 1) C dX8_kindHere_111 (by decide) ?_
          refine r_iadd C dX8_kindHere_112 ?_
          exact r_iret C hq hW (by obtain rfl := Option.some.inj h; exact ⟨rfl, rfl⟩) dX8_kindHere_113
      have K51 : ∀ (l1 : Int32), ∀ (n51 : Nat), ∀ (l2 : Int32), ∀ (l3 : Int32), ∀ (H : Heap) (L : List Loc) (ls : Array Slot), Wd X k A [(ad 0, .inr (8, [.ref (ad 1), .ref (ad 2), .int v_taped, .int v_fault, .int v_broken, .int v_brokenAt, .int v_spot, .int v_here, .int v_token, .int v_number, .ref (ad 3), .ref (ad 4), .ref (ad 5), .ref (ad 6), .ref (ad 7), .ref (ad 8), .ref (ad 9), .ref (ad 10), .int v_isStarted, .ref (ad 11), .ref (ad 12), .ref (ad 13), .int v_evaluated, .int v_moved, .int v_isChanged, .ref (ad 14), .int v_undoMany, .ref (ad 15), .ref (ad 16), .ref (ad 17), .ref (ad 18), .ref (ad 19), .ref (ad 20), .int v_torn, .int v_isAsideChanged])), (ad 1, .inl (eI X, 720, .inl v_state)), (ad 2, .inl (eI X, 320, .inl v_tape)), (ad 3, .inl (eI X, 9, .inl v_ends)), (ad 4, .inl (eI X, 27, .inl v_letters)), (ad 5, .inl (eI X, 30, .inl v_values)), (ad 6, .inl (eZ X, 30, .inl v_isTold)), (ad 7, .inl (eI X, 30, .inl v_waits)), (ad 8, .inl (eI X, 900, .inl v_readsOf)), (ad 9, .inl (eI X, 30, .inl v_readMany)), (ad 10, .inl (eI X, 30, .inl v_heights)), (ad 11, .inl (eI X, 30, .inl v_oldValues)), (ad 12, .inl (eZ X, 30, .inl v_isOldTold)), (ad 13, .inl (eI X, 30, .inl v_oldReads)), (ad 14, .inl (eI X, 100, .inl v_undos)), (ad 15, .inl (eI X, 103, .inl v_undoAside)), (ad 16, .inl (eI X, 4, .inl v_formula)), (ad 17, .inl (eZ X, 2, .inl v_isKept)), (ad 18, .inl (eI X, 4, .inl v_lanes)), (ad 19, .inl (eI X, 4, .inl v_lengths)), (ad 20, .inl (eI X, 160, .inl v_items))] H L → lv_has ls 4 [(0, .ref (ad 0)), (1, .int l1), (2, .int l2), (3, .int l3)] → lq2 (fX8_kindHere_b51 v_tape v_taped v_spot v_here v_token v_ends v_letters (lq1 (fX8_kindHere_b2 v_tape v_taped v_spot v_here v_token v_ends v_letters  ) n2) l1) n51 l2 l3 = some o → Wx X k 0 0 H L 51 ls [] := by
        intro l1
        intro n51
        induction n51 with
        | zero => intro l2 l3 H L ls hW hl h; exact lq2_0 h
        | succ n51 ih51 =>
          have K99 : ∀ (l3 : Int32), ∀ (s0 : Int32), ∀ (H : Heap) (L : List Loc) (ls : Array Slot), Wd X k A [(ad 0, .inr (8, [.ref (ad 1), .ref (ad 2), .int v_taped, .int v_fault, .int v_broken, .int v_brokenAt, .int v_spot, .int v_here, .int v_token, .int v_number, .ref (ad 3), .ref (ad 4), .ref (ad 5), .ref (ad 6), .ref (ad 7), .ref (ad 8), .ref (ad 9), .ref (ad 10), .int v_isStarted, .ref (ad 11), .ref (ad 12), .ref (ad 13), .int v_evaluated, .int v_moved, .int v_isChanged, .ref (ad 14), .int v_undoMany, .ref (ad 15), .ref (ad 16), .ref (ad 17), .ref (ad 18), .ref (ad 19), .ref (ad 20), .int v_torn, .int v_isAsideChanged])), (ad 1, .inl (eI X, 720, .inl v_state)), (ad 2, .inl (eI X, 320, .inl v_tape)), (ad 3, .inl (eI X, 9, .inl v_ends)), (ad 4, .inl (eI X, 27, .inl v_letters)), (ad 5, .inl (eI X, 30, .inl v_values)), (ad 6, .inl (eZ X, 30, .inl v_isTold)), (ad 7, .inl (eI X, 30, .inl v_waits)), (ad 8, .inl (eI X, 900, .inl v_readsOf)), (ad 9, .inl (eI X, 30, .inl v_readMany)), (ad 10, .inl (eI X, 30, .inl v_heights)), (ad 11, .inl (eI X, 30, .inl v_oldValues)), (ad 12, .inl (eZ X, 30, .inl v_isOldTold)), (ad 13, .inl (eI X, 30, .inl v_oldReads)), (ad 14, .inl (eI X, 100, .inl v_undos)), (ad 15, .inl (eI X, 103, .inl v_undoAside)), (ad 16, .inl (eI X, 4, .inl v_formula)), (ad 17, .inl (eZ X, 2, .inl v_isKept)), (ad 18, .inl (eI X, 4, .inl v_lanes)), (ad 19, .inl (eI X, 4, .inl v_lengths)), (ad 20, .inl (eI X, 160, .inl v_items))] H L → lv_has ls 4 [(0, .ref (ad 0)), (1, .int l1), (3, .int l3)] → fX8_kindHere_j99 v_tape v_taped v_spot v_here v_token v_ends v_letters (lq1 (fX8_kindHere_b2 v_tape v_taped v_spot v_here v_token v_ends v_letters  ) n2) (lq2 (fX8_kindHere_b51 v_tape v_taped v_spot v_here v_token v_ends v_letters (lq1 (fX8_kindHere_b2 v_tape v_taped v_spot v_here v_token v_ends v_letters  ) n2) l1) n51) l1 l3 s0 = some o → Wx X k 0 0 H L 99 ls [.int s0] := by
            intro l3 s0 H L ls hW hl h
            unfold fX8_kindHere_j99 at h
            refine r_istore_n (lv' := [(2, .int s0), (0, .ref (ad 0)), (1, .int l1), (3, .int l3)]) C hl dX8_kindHere_99 rfl (by decide) rfl (fun ls hl => ?_)
            refine r_iinc (j := 3) (v := l3 + (1 : Int32)) (lv' := [(3, .int (l3 + (1 : Int32))), (2, .int s0), (0, .ref (ad 0)), (1, .int l1)]) C hl dX8_kindHere_100 rfl rfl (by decide) rfl (fun ls hl => ?_)
            refine r_goto (tgt := 51) C dX8_kindHere_103 (by decide) ?_
            exact ih51 s0 (l3 + (1 : Int32)) H L ls hW (lv_sub hl [2, 3, 1, 0] rfl) h
          intro l2 l3 H L ls hW hl h
          rw [lq2_s] at h
          unfold fX8_kindHere_b51 at h
          refine r_iload_n C hl 2 dX8_kindHere_51 rfl rfl ?_
          refine r_if_eq (tgt := 106) C dX8_kindHere_52 (by decide) (fun c52 => ?_) (fun c52 => ?_)
          · replace h := iT c52 h
            exact K106 l1 l2 H L ls hW (lv_sub hl [0, 1, 2] rfl) h
          · replace h := iF c52 h
            refine r_iload_n C hl 3 dX8_kindHere_55 rfl rfl ?_
            refine r_aload_n C hl 0 dX8_kindHere_56 rfl rfl ?_
            refine r_get C hW 0 rfl rfl iwX8 6 (by decide) w_fl_X8_93 rfl dX8_kindHere_57 ?_
            refine r_aload_n C hl 0 dX8_kindHere_60 rfl rfl ?_
            refine r_get C hW 0 rfl rfl iwX8 7 (by decide) w_fl_X8_84 rfl dX8_kindHere_61 ?_
            refine r_isub C dX8_kindHere_64 ?_
            refine r_icmp_ge (tgt := 106) C dX8_kindHere_65 (by decide) (fun c65 => ?_) (fun c65 => ?_)
            · replace h := iT c65 h
              exact K106 l1 l2 H L ls hW (lv_sub hl [0, 1, 2] rfl) h
            · replace h := iF c65 h
              refine r_aload_n C hl 0 dX8_kindHere_68 rfl rfl ?_
              refine r_aload_n C hl 0 dX8_kindHere_69 rfl rfl ?_
              refine r_get C hW 0 rfl rfl iwX8 7 (by decide) w_fl_X8_84 rfl dX8_kindHere_70 ?_
              refine r_iload_n C hl 3 dX8_kindHere_73 rfl rfl ?_
              refine r_iadd C dX8_kindHere_74 ?_
              obtain ⟨r75, h75, h⟩ := bd1_some h
              refine r_V (wr := []) (np := 1) C hl (mX8_byteAt X ad  v_state v_tape v_taped v_fault v_broken v_brokenAt v_spot v_here v_token v_number v_ends v_letters v_values v_isTold v_waits v_readsOf v_readMany v_heights v_isStarted v_oldValues v_isOldTold v_oldReads v_evaluated v_moved v_isChanged v_undos v_undoMany v_undoAside v_formula v_isKept v_lanes v_lengths v_items v_torn v_isAsideChanged (v_here + l3) r75 h75) hW [0, 1, 2, 3, 4, 5, 6, 7, 8, 9, 10, 11, 12, 13, 14, 15, 16, 17, 18, 19, 20] [] rfl rfl rfl rfl (by decide) 0 rfl rfl w_cd_X8_byteAt w_ml_X8_96 w_im_X8_byteAt w_sel_X8_byteAt w_in_HeightSheetModel (by decide +kernel) rfl ⟨Nat.le_of_ble_eq_true rfl, Nat.le_of_ble_eq_true rfl⟩ ⟨Nat.zero_le _, Nat.zero_le _⟩ (Nat.le_of_ble_eq_true rfl) dX8_kindHere_75 (fun rv w1 H L hp hW => ?_) rfl
              obtain ⟨rfl, rfl⟩ := hp
              replace hW : Wd X k A [(ad 0, .inr (8, [.ref (ad 1), .ref (ad 2), .int v_taped, .int v_fault, .int v_broken, .int v_brokenAt, .int v_spot, .int v_here, .int v_token, .int v_number, .ref (ad 3), .ref (ad 4), .ref (ad 5), .ref (ad 6), .ref (ad 7), .ref (ad 8), .ref (ad 9), .ref (ad 10), .int v_isStarted, .ref (ad 11), .ref (ad 12), .ref (ad 13), .int v_evaluated, .int v_moved, .int v_isChanged, .ref (ad 14), .int v_undoMany, .ref (ad 15), .ref (ad 16), .ref (ad 17), .ref (ad 18), .ref (ad 19), .ref (ad 20), .int v_torn, .int v_isAsideChanged])), (ad 1, .inl (eI X, 720, .inl v_state)), (ad 2, .inl (eI X, 320, .inl v_tape)), (ad 3, .inl (eI X, 9, .inl v_ends)), (ad 4, .inl (eI X, 27, .inl v_letters)), (ad 5, .inl (eI X, 30, .inl v_values)), (ad 6, .inl (eZ X, 30, .inl v_isTold)), (ad 7, .inl (eI X, 30, .inl v_waits)), (ad 8, .inl (eI X, 900, .inl v_readsOf)), (ad 9, .inl (eI X, 30, .inl v_readMany)), (ad 10, .inl (eI X, 30, .inl v_heights)), (ad 11, .inl (eI X, 30, .inl v_oldValues)), (ad 12, .inl (eZ X, 30, .inl v_isOldTold)), (ad 13, .inl (eI X, 30, .inl v_oldReads)), (ad 14, .inl (eI X, 100, .inl v_undos)), (ad 15, .inl (eI X, 103, .inl v_undoAside)), (ad 16, .inl (eI X, 4, .inl v_formula)), (ad 17, .inl (eZ X, 2, .inl v_isKept)), (ad 18, .inl (eI X, 4, .inl v_lanes)), (ad 19, .inl (eI X, 4, .inl v_lengths)), (ad 20, .inl (eI X, 160, .inl v_items))] H L := hW.sub [0, 1, 2, 3, 4, 5, 6, 7, 8, 9, 10, 11, 12, 13, 14, 15, 16, 17, 18, 19, 20] rfl rfl
              show Wx X k 0 0 H L 78 ls [.int r75]
              refine r_aload_n C hl 0 dX8_kindHere_78 rfl rfl ?_
              refine r_get C hW 0 rfl rfl iwX8 11 (by decide) w_fl_X8_19 rfl dX8_kindHere_79 ?_
              refine r_aload_n C hl 0 dX8_kindHere_82 rfl rfl ?_
              refine r_get C hW 0 rfl rfl iwX8 10 (by decide) w_fl_X8_16 rfl dX8_kindHere_83 ?_
              refine r_iload_n C hl 1 dX8_kindHere_86 rfl rfl ?_
              obtain ⟨x87, e87, g87, h⟩ := rd_some h
              refine r_iald C hW 3 rfl g87 e87 dX8_kindHere_87 ?_
              refine r_iload_n C hl 3 dX8_kindHere_88 rfl rfl ?_
              refine r_iadd C dX8_kindHere_89 ?_
              obtain ⟨x90, e90, g90, h⟩ := rd_some h
              refine r_iald C hW 4 rfl g90 e90 dX8_kindHere_90 ?_
              refine r_icmp_ne (tgt := 98) C dX8_kindHere_91 (by decide) (fun c91 => ?_) (fun c91 => ?_)
              · replace h := iF c91 h
                refine r_iconst (v := 0) C dX8_kindHere_98 (by decide) ?_
                exact K99 l3 (0 : Int32) H L ls hW (lv_sub hl [0, 1, 3] rfl) h
              · replace h := iT c91 h
                refine r_iconst (v := 1) C dX8_kindHere_94 (by decide) ?_
                refine r_goto (tgt := 99) C dX8_kindHere_95 (by decide) ?_
                exact K99 l3 (1 : Int32) H L ls hW (lv_sub hl [0, 1, 3] rfl) h
      have K48 : ∀ (l1 : Int32), ∀ (s0 : Int32), ∀ (H : Heap) (L : List Loc) (ls : Array Slot), Wd X k A [(ad 0, .inr (8, [.ref (ad 1), .ref (ad 2), .int v_taped, .int v_fault, .int v_broken, .int v_brokenAt, .int v_spot, .int v_here, .int v_token, .int v_number, .ref (ad 3), .ref (ad 4), .ref (ad 5), .ref (ad 6), .ref (ad 7), .ref (ad 8), .ref (ad 9), .ref (ad 10), .int v_isStarted, .ref (ad 11), .ref (ad 12), .ref (ad 13), .int v_evaluated, .int v_moved, .int v_isChanged, .ref (ad 14), .int v_undoMany, .ref (ad 15), .ref (ad 16), .ref (ad 17), .ref (ad 18), .ref (ad 19), .ref (ad 20), .int v_torn, .int v_isAsideChanged])), (ad 1, .inl (eI X, 720, .inl v_state)), (ad 2, .inl (eI X, 320, .inl v_tape)), (ad 3, .inl (eI X, 9, .inl v_ends)), (ad 4, .inl (eI X, 27, .inl v_letters)), (ad 5, .inl (eI X, 30, .inl v_values)), (ad 6, .inl (eZ X, 30, .inl v_isTold)), (ad 7, .inl (eI X, 30, .inl v_waits)), (ad 8, .inl (eI X, 900, .inl v_readsOf)), (ad 9, .inl (eI X, 30, .inl v_readMany)), (ad 10, .inl (eI X, 30, .inl v_heights)), (ad 11, .inl (eI X, 30, .inl v_oldValues)), (ad 12, .inl (eZ X, 30, .inl v_isOldTold)), (ad 13, .inl (eI X, 30, .inl v_oldReads)), (ad 14, .inl (eI X, 100, .inl v_undos)), (ad 15, .inl (eI X, 103, .inl v_undoAside)), (ad 16, .inl (eI X, 4, .inl v_formula)), (ad 17, .inl (eZ X, 2, .inl v_isKept)), (ad 18, .inl (eI X, 4, .inl v_lanes)), (ad 19, .inl (eI X, 4, .inl v_lengths)), (ad 20, .inl (eI X, 160, .inl v_items))] H L → lv_has ls 4 [(0, .ref (ad 0)), (1, .int l1)] → fX8_kindHere_j48 v_tape v_taped v_spot v_here v_token v_ends v_letters (lq1 (fX8_kindHere_b2 v_tape v_taped v_spot v_here v_token v_ends v_letters  ) n2) l1 s0 = some o → Wx X k 0 0 H L 48 ls [.int s0] := by
        intro l1 s0 H L ls hW hl h
        unfold fX8_kindHere_j48 at h
        refine r_istore_n (lv' := [(2, .int s0), (0, .ref (ad 0)), (1, .int l1)]) C hl dX8_kindHere_48 rfl (by decide) rfl (fun ls hl => ?_)
        refine r_iconst (v := 0) C dX8_kindHere_49 (by decide) ?_
        refine r_istore_n (lv' := [(3, .int (0 : Int32)), (2, .int s0), (0, .ref (ad 0)), (1, .int l1)]) C hl dX8_kindHere_50 rfl (by decide) rfl (fun ls hl => ?_)
        exact K51 l1 fu s0 (0 : Int32) H L ls hW (lv_sub hl [2, 3, 1, 0] rfl) h
      intro l1 H L ls hW hl h
      rw [lq1_s] at h
      unfold fX8_kindHere_b2 at h
      refine r_iload_n C hl 1 dX8_kindHere_2 rfl rfl ?_
      refine r_bipush (v := 8) C dX8_kindHere_3 (by decide) ?_
      refine r_icmp_ge (tgt := 120) C dX8_kindHere_5 (by decide) (fun c5 => ?_) (fun c5 => ?_)
      · replace h := iT c5 h
        refine r_bipush (v := -4) C dX8_kindHere_120 (by decide) ?_
        exact r_iret C hq hW (by obtain rfl := Option.some.inj h; exact ⟨rfl, rfl⟩) dX8_kindHere_122
      · replace h := iF c5 h
        refine r_aload_n C hl 0 dX8_kindHere_8 rfl rfl ?_
        refine r_get C hW 0 rfl rfl iwX8 8 (by decide) w_fl_X8_90 rfl dX8_kindHere_9 ?_
        refine r_iconst (v := 1) C dX8_kindHere_12 (by decide) ?_
        refine r_icmp_ne (tgt := 120) C dX8_kindHere_13 (by decide) (fun c13 => ?_) (fun c13 => ?_)
        · replace h := iF c13 h
          refine r_bipush (v := -4) C dX8_kindHere_120 (by decide) ?_
          exact r_iret C hq hW (by obtain rfl := Option.some.inj h; exact ⟨rfl, rfl⟩) dX8_kindHere_122
        · replace h := iT c13 h
          refine r_aload_n C hl 0 dX8_kindHere_16 rfl rfl ?_
          refine r_get C hW 0 rfl rfl iwX8 6 (by decide) w_fl_X8_93 rfl dX8_kindHere_17 ?_
          refine r_aload_n C hl 0 dX8_kindHere_20 rfl rfl ?_
          refine r_get C hW 0 rfl rfl iwX8 7 (by decide) w_fl_X8_84 rfl dX8_kindHere_21 ?_
          refine r_isub C dX8_kindHere_24 ?_
          refine r_aload_n C hl 0 dX8_kindHere_25 rfl rfl ?_
          refine r_get C hW 0 rfl rfl iwX8 10 (by decide) w_fl_X8_16 rfl dX8_kindHere_26 ?_
          refine r_iload_n C hl 1 dX8_kindHere_29 rfl rfl ?_
          refine r_iconst (v := 1) C dX8_kindHere_30 (by decide) ?_
          refine r_iadd C dX8_kindHere_31 ?_
          obtain ⟨x32, e32, g32, h⟩ := rd_some h
          refine r_iald C hW 3 rfl g32 e32 dX8_kindHere_32 ?_
          refine r_aload_n C hl 0 dX8_kindHere_33 rfl rfl ?_
          refine r_get C hW 0 rfl rfl iwX8 10 (by decide) w_fl_X8_16 rfl dX8_kindHere_34 ?_
          refine r_iload_n C hl 1 dX8_kindHere_37 rfl rfl ?_
          obtain ⟨x38, e38, g38, h⟩ := rd_some h
          refine r_iald C hW 3 rfl g38 e38 dX8_kindHere_38 ?_
          refine r_isub C dX8_kindHere_39 ?_
          refine r_icmp_ne (tgt := 47) C dX8_kindHere_40 (by decide) (fun c40 => ?_) (fun c40 => ?_)
          · replace h := iF c40 h
            refine r_iconst (v := 0) C dX8_kindHere_47 (by decide) ?_
            exact K48 l1 (0 : Int32) H L ls hW hl h
          · replace h := iT c40 h
            refine r_iconst (v := 1) C dX8_kindHere_43 (by decide) ?_
            refine r_goto (tgt := 48) C dX8_kindHere_44 (by decide) ?_
            exact K48 l1 (1 : Int32) H L ls hW hl h
  unfold fX8_kindHere at h
  refine r_iconst (v := 0) C dX8_kindHere_0 (by decide) ?_
  refine r_istore_n (lv' := [(1, .int (0 : Int32)), (0, .ref (ad 0))]) C hl dX8_kindHere_1 rfl (by decide) rfl (fun ls hl => ?_)
  exact K2  fu (0 : Int32) H L ls hW (lv_sub hl [1, 0] rfl) h
def fX8_readsOn_j201 (v_tape : (Nat → Int32)) (v_taped : Int32) (self140 : Int32 → Int32 → Option (Int32 × Int32 × Int32 × Int32 × Int32 × Int32)) (v_broken : Int32) (v_brokenAt : Int32) (v_spot : Int32) (v_here : Int32) (v_token : Int32) (v_number : Int32) (s1 : Int32) : Option (Int32 × Int32 × Int32 × Int32 × Int32 × Int32) :=
  self140 (v_spot + (1 : Int32)) s1
def fX8_readsOn_b140 (v_tape : (Nat → Int32)) (v_taped : Int32)  (v_broken : Int32) (v_brokenAt : Int32) (v_here : Int32) (v_token : Int32) (self140 : Int32 → Int32 → Option (Int32 × Int32 × Int32 × Int32 × Int32 × Int32)) (v_spot : Int32) (v_number : Int32) : Option (Int32 × Int32 × Int32 × Int32 × Int32 × Int32) :=
  bd1 (fX8_byteAt v_tape v_taped v_spot) fun r145 =>
  bd1 (fX8_in (r145.toInt64) (48 : Int64) (57 : Int64)) fun r155 =>
  if r155 = (0 : Int32) then
    if (v_spot - v_here) ≤ (3 : Int32) then
      some (v_broken, v_brokenAt, v_spot, v_here, (2 : Int32), v_number)
    else
      bd2 (fX8_fails v_broken v_brokenAt v_here (1 : Int32)) fun c237_broken c237_brokenAt =>
      some (c237_broken, c237_brokenAt, v_spot, v_here, (2 : Int32), v_number)
  else
    if (3 : Int32) ≤ (v_spot - v_here) then
      fX8_readsOn_j201 v_tape v_taped self140 v_broken v_brokenAt v_spot v_here v_token v_number v_number
    else
      bd1 (fX8_byteAt v_tape v_taped v_spot) fun r187 =>
      fX8_readsOn_j201 v_tape v_taped self140 v_broken v_brokenAt v_spot v_here v_token v_number ((((10 : Int32) * v_number) + r187) - (48 : Int32))
def fX8_readsOn_b84 (v_tape : (Nat → Int32)) (v_taped : Int32)  (v_broken : Int32) (v_brokenAt : Int32) (v_here : Int32) (v_token : Int32) (v_number : Int32) (self84 : Int32 → Option (Int32 × Int32 × Int32 × Int32 × Int32 × Int32)) (v_spot : Int32) : Option (Int32 × Int32 × Int32 × Int32 × Int32 × Int32) :=
  bd1 (fX8_byteAt v_tape v_taped v_spot) fun r89 =>
  bd1 (fX8_in (r89.toInt64) (97 : Int64) (122 : Int64)) fun r99 =>
  if r99 = (0 : Int32) then
    some (v_broken, v_brokenAt, v_spot, v_here, (1 : Int32), v_number)
  else
    self84 (v_spot + (1 : Int32))
def fX8_readsOn_b8 (v_tape : (Nat → Int32)) (v_taped : Int32)  (v_broken : Int32) (v_brokenAt : Int32) (v_here : Int32) (v_token : Int32) (v_number : Int32) (self8 : Int32 → Option (Int32 × Int32 × Int32 × Int32 × Int32 × Int32)) (v_spot : Int32) : Option (Int32 × Int32 × Int32 × Int32 × Int32 × Int32) :=
  bd1 (fX8_byteAt v_tape v_taped v_spot) fun r13 =>
  if r13 = (32 : Int32) then
    self8 (v_spot + (1 : Int32))
  else
    bd1 (fX8_byteAt v_tape v_taped v_spot) fun r47 =>
    if r47 = (-4 : Int32) then
      some (v_broken, v_brokenAt, v_spot, v_spot, (0 : Int32), (0 : Int32))
    else
      bd1 (fX8_in (r47.toInt64) (97 : Int64) (122 : Int64)) fun r78 =>
      if r78 = (0 : Int32) then
        bd1 (fX8_in (r47.toInt64) (48 : Int64) (57 : Int64)) fun r134 =>
        if r134 = (0 : Int32) then
          if r47 = (59 : Int32) then
            some (v_broken, v_brokenAt, v_spot + (1 : Int32), v_spot, (3 : Int32), (0 : Int32))
          else
            bd2 (fX8_fails v_broken v_brokenAt v_spot (1 : Int32)) fun c266_broken c266_brokenAt =>
            some (c266_broken, c266_brokenAt, v_spot + (1 : Int32), v_spot, (3 : Int32), (0 : Int32))
        else
          lq2 (fX8_readsOn_b140 v_tape v_taped  v_broken v_brokenAt v_spot v_token) fu v_spot (0 : Int32)
      else
        lq1 (fX8_readsOn_b84 v_tape v_taped  v_broken v_brokenAt v_spot v_token (0 : Int32)) fu v_spot
def fX8_readsOn (v_tape : (Nat → Int32)) (v_taped : Int32) (v_broken : Int32) (v_brokenAt : Int32) (v_spot : Int32) (v_here : Int32) (v_token : Int32) (v_number : Int32) : Option (Int32 × Int32 × Int32 × Int32 × Int32 × Int32) :=
  if v_broken ≤ (0 : Int32) then
    lq1 (fX8_readsOn_b8 v_tape v_taped  v_broken v_brokenAt v_here v_token v_number) fu v_spot
  else
    some (v_broken, v_brokenAt, v_spot, v_here, v_token, v_number)
set_option maxRecDepth 100000 in
set_option maxHeartbeats 8000000 in
theorem mX8_readsOn (X : Ev) (ad : Nat → Nat) (v_state : (Nat → Int32)) (v_tape : (Nat → Int32)) (v_taped : Int32) (v_fault : Int32) (v_broken : Int32) (v_brokenAt : Int32) (v_spot : Int32) (v_here : Int32) (v_token : Int32) (v_number : Int32) (v_ends : (Nat → Int32)) (v_letters : (Nat → Int32)) (v_values : (Nat → Int32)) (v_isTold : (Nat → Int32)) (v_waits : (Nat → Int32)) (v_readsOf : (Nat → Int32)) (v_readMany : (Nat → Int32)) (v_heights : (Nat → Int32)) (v_isStarted : Int32) (v_oldValues : (Nat → Int32)) (v_isOldTold : (Nat → Int32)) (v_oldReads : (Nat → Int32)) (v_evaluated : Int32) (v_moved : Int32) (v_isChanged : Int32) (v_undos : (Nat → Int32)) (v_undoMany : Int32) (v_undoAside : (Nat → Int32)) (v_formula : (Nat → Int32)) (v_isKept : (Nat → Int32)) (v_lanes : (Nat → Int32)) (v_lengths : (Nat → Int32)) (v_items : (Nat → Int32)) (v_torn : Int32) (v_isAsideChanged : Int32)  (o : Int32 × Int32 × Int32 × Int32 × Int32 × Int32) (h : fX8_readsOn v_tape v_taped v_broken v_brokenAt v_spot v_here v_token v_number = some o) : Ctr X yX8_readsOn cX8_readsOn 2 none 1 25 0 0 [.ref (ad 0)] [(ad 0, .inr (8, [.ref (ad 1), .ref (ad 2), .int v_taped, .int v_fault, .int v_broken, .int v_brokenAt, .int v_spot, .int v_here, .int v_token, .int v_number, .ref (ad 3), .ref (ad 4), .ref (ad 5), .ref (ad 6), .ref (ad 7), .ref (ad 8), .ref (ad 9), .ref (ad 10), .int v_isStarted, .ref (ad 11), .ref (ad 12), .ref (ad 13), .int v_evaluated, .int v_moved, .int v_isChanged, .ref (ad 14), .int v_undoMany, .ref (ad 15), .ref (ad 16), .ref (ad 17), .ref (ad 18), .ref (ad 19), .ref (ad 20), .int v_torn, .int v_isAsideChanged])), (ad 1, .inl (eI X, 720, .inl v_state)), (ad 2, .inl (eI X, 320, .inl v_tape)), (ad 3, .inl (eI X, 9, .inl v_ends)), (ad 4, .inl (eI X, 27, .inl v_letters)), (ad 5, .inl (eI X, 30, .inl v_values)), (ad 6, .inl (eZ X, 30, .inl v_isTold)), (ad 7, .inl (eI X, 30, .inl v_waits)), (ad 8, .inl (eI X, 900, .inl v_readsOf)), (ad 9, .inl (eI X, 30, .inl v_readMany)), (ad 10, .inl (eI X, 30, .inl v_heights)), (ad 11, .inl (eI X, 30, .inl v_oldValues)), (ad 12, .inl (eZ X, 30, .inl v_isOldTold)), (ad 13, .inl (eI X, 30, .inl v_oldReads)), (ad 14, .inl (eI X, 100, .inl v_undos)), (ad 15, .inl (eI X, 103, .inl v_undoAside)), (ad 16, .inl (eI X, 4, .inl v_formula)), (ad 17, .inl (eZ X, 2, .inl v_isKept)), (ad 18, .inl (eI X, 4, .inl v_lanes)), (ad 19, .inl (eI X, 4, .inl v_lengths)), (ad 20, .inl (eI X, 160, .inl v_items))] (De none [(ad 0, .inr (8, [.ref (ad 1), .ref (ad 2), .int v_taped, .int v_fault, .int (o.1), .int (o.2.1), .int (o.2.2.1), .int (o.2.2.2.1), .int (o.2.2.2.2.1), .int (o.2.2.2.2.2), .ref (ad 3), .ref (ad 4), .ref (ad 5), .ref (ad 6), .ref (ad 7), .ref (ad 8), .ref (ad 9), .ref (ad 10), .int v_isStarted, .ref (ad 11), .ref (ad 12), .ref (ad 13), .int v_evaluated, .int v_moved, .int v_isChanged, .ref (ad 14), .int v_undoMany, .ref (ad 15), .ref (ad 16), .ref (ad 17), .ref (ad 18), .ref (ad 19), .ref (ad 20), .int v_torn, .int v_isAsideChanged])), (ad 1, .inl (eI X, 720, .inl v_state)), (ad 2, .inl (eI X, 320, .inl v_tape)), (ad 3, .inl (eI X, 9, .inl v_ends)), (ad 4, .inl (eI X, 27, .inl v_letters)), (ad 5, .inl (eI X, 30, .inl v_values)), (ad 6, .inl (eZ X, 30, .inl v_isTold)), (ad 7, .inl (eI X, 30, .inl v_waits)), (ad 8, .inl (eI X, 900, .inl v_readsOf)), (ad 9, .inl (eI X, 30, .inl v_readMany)), (ad 10, .inl (eI X, 30, .inl v_heights)), (ad 11, .inl (eI X, 30, .inl v_oldValues)), (ad 12, .inl (eZ X, 30, .inl v_isOldTold)), (ad 13, .inl (eI X, 30, .inl v_oldReads)), (ad 14, .inl (eI X, 100, .inl v_undos)), (ad 15, .inl (eI X, 103, .inl v_undoAside)), (ad 16, .inl (eI X, 4, .inl v_formula)), (ad 17, .inl (eZ X, 2, .inl v_isKept)), (ad 18, .inl (eI X, 4, .inl v_lanes)), (ad 19, .inl (eI X, 4, .inl v_lengths)), (ad 20, .inl (eI X, 160, .inl v_items))]) := by
  refine Ctr.start (by decide) (Nat.le_of_ble_eq_true rfl) (fun k A ls C hq hin hW hl => ?_)
  replace C : Cx X k cX8_readsOn 2 none RX8 A 1 25 0 0 := C
  replace hl : lv_has ls 2 [(0, .ref (ad 0))] := hl
  suffices hh : ∀ (H : Heap) (L : List Loc), Wd X k A [(ad 0, .inr (8, [.ref (ad 1), .ref (ad 2), .int v_taped, .int v_fault, .int v_broken, .int v_brokenAt, .int v_spot, .int v_here, .int v_token, .int v_number, .ref (ad 3), .ref (ad 4), .ref (ad 5), .ref (ad 6), .ref (ad 7), .ref (ad 8), .ref (ad 9), .ref (ad 10), .int v_isStarted, .ref (ad 11), .ref (ad 12), .ref (ad 13), .int v_evaluated, .int v_moved, .int v_isChanged, .ref (ad 14), .int v_undoMany, .ref (ad 15), .ref (ad 16), .ref (ad 17), .ref (ad 18), .ref (ad 19), .ref (ad 20), .int v_torn, .int v_isAsideChanged])), (ad 1, .inl (eI X, 720, .inl v_state)), (ad 2, .inl (eI X, 320, .inl v_tape)), (ad 3, .inl (eI X, 9, .inl v_ends)), (ad 4, .inl (eI X, 27, .inl v_letters)), (ad 5, .inl (eI X, 30, .inl v_values)), (ad 6, .inl (eZ X, 30, .inl v_isTold)), (ad 7, .inl (eI X, 30, .inl v_waits)), (ad 8, .inl (eI X, 900, .inl v_readsOf)), (ad 9, .inl (eI X, 30, .inl v_readMany)), (ad 10, .inl (eI X, 30, .inl v_heights)), (ad 11, .inl (eI X, 30, .inl v_oldValues)), (ad 12, .inl (eZ X, 30, .inl v_isOldTold)), (ad 13, .inl (eI X, 30, .inl v_oldReads)), (ad 14, .inl (eI X, 100, .inl v_undos)), (ad 15, .inl (eI X, 103, .inl v_undoAside)), (ad 16, .inl (eI X, 4, .inl v_formula)), (ad 17, .inl (eZ X, 2, .inl v_isKept)), (ad 18, .inl (eI X, 4, .inl v_lanes)), (ad 19, .inl (eI X, 4, .inl v_lengths)), (ad 20, .inl (eI X, 160, .inl v_items))] H L → Wx X k 0 0 H L 0 ls [] from hh _ _ hW
  clear hW
  intro H L hW
  have K140 : ∀ (v_broken : Int32), ∀ (v_brokenAt : Int32), ∀ (v_here : Int32), ∀ (v_token : Int32), ∀ (n140 : Nat), ∀ (v_spot : Int32), ∀ (v_number : Int32), ∀ (H : Heap) (L : List Loc) (ls : Array Slot), Wd X k A [(ad 0, .inr (8, [.ref (ad 1), .ref (ad 2), .int v_taped, .int v_fault, .int v_broken, .int v_brokenAt, .int v_spot, .int v_here, .int v_token, .int v_number, .ref (ad 3), .ref (ad 4), .ref (ad 5), .ref (ad 6), .ref (ad 7), .ref (ad 8), .ref (ad 9), .ref (ad 10), .int v_isStarted, .ref (ad 11), .ref (ad 12), .ref (ad 13), .int v_evaluated, .int v_moved, .int v_isChanged, .ref (ad 14), .int v_undoMany, .ref (ad 15), .ref (ad 16), .ref (ad 17), .ref (ad 18), .ref (ad 19), .ref (ad 20), .int v_torn, .int v_isAsideChanged])), (ad 1, .inl (eI X, 720, .inl v_state)), (ad 2, .inl (eI X, 320, .inl v_tape)), (ad 3, .inl (eI X, 9, .inl v_ends)), (ad 4, .inl (eI X, 27, .inl v_letters)), (ad 5, .inl (eI X, 30, .inl v_values)), (ad 6, .inl (eZ X, 30, .inl v_isTold)), (ad 7, .inl (eI X, 30, .inl v_waits)), (ad 8, .inl (eI X, 900, .inl v_readsOf)), (ad 9, .inl (eI X, 30, .inl v_readMany)), (ad 10, .inl (eI X, 30, .inl v_heights)), (ad 11, .inl (eI X, 30, .inl v_oldValues)), (ad 12, .inl (eZ X, 30, .inl v_isOldTold)), (ad 13, .inl (eI X, 30, .inl v_oldReads)), (ad 14, .inl (eI X, 100, .inl v_undos)), (ad 15, .inl (eI X, 103, .inl v_undoAside)), (ad 16, .inl (eI X, 4, .inl v_formula)), (ad 17, .inl (eZ X, 2, .inl v_isKept)), (ad 18, .inl (eI X, 4, .inl v_lanes)), (ad 19, .inl (eI X, 4, .inl v_lengths)), (ad 20, .inl (eI X, 160, .inl v_items))] H L → lv_has ls 2 [(0, .ref (ad 0))] → lq2 (fX8_readsOn_b140 v_tape v_taped  v_broken v_brokenAt v_here v_token) n140 v_spot v_number = some o → Wx X k 0 0 H L 140 ls [] := by
    intro v_broken v_brokenAt v_here v_token
    intro n140
    induction n140 with
    | zero => intro v_spot v_number H L ls hW hl h; exact lq2_0 h
    | succ n140 ih140 =>
      have K201 : ∀ (v_spot : Int32), ∀ (v_number : Int32), ∀ (s1 : Int32), ∀ (H : Heap) (L : List Loc) (ls : Array Slot), Wd X k A [(ad 0, .inr (8, [.ref (ad 1), .ref (ad 2), .int v_taped, .int v_fault, .int v_broken, .int v_brokenAt, .int v_spot, .int v_here, .int v_token, .int v_number, .ref (ad 3), .ref (ad 4), .ref (ad 5), .ref (ad 6), .ref (ad 7), .ref (ad 8), .ref (ad 9), .ref (ad 10), .int v_isStarted, .ref (ad 11), .ref (ad 12), .ref (ad 13), .int v_evaluated, .int v_moved, .int v_isChanged, .ref (ad 14), .int v_undoMany, .ref (ad 15), .ref (ad 16), .ref (ad 17), .ref (ad 18), .ref (ad 19), .ref (ad 20), .int v_torn, .int v_isAsideChanged])), (ad 1, .inl (eI X, 720, .inl v_state)), (ad 2, .inl (eI X, 320, .inl v_tape)), (ad 3, .inl (eI X, 9, .inl v_ends)), (ad 4, .inl (eI X, 27, .inl v_letters)), (ad 5, .inl (eI X, 30, .inl v_values)), (ad 6, .inl (eZ X, 30, .inl v_isTold)), (ad 7, .inl (eI X, 30, .inl v_waits)), (ad 8, .inl (eI X, 900, .inl v_readsOf)), (ad 9, .inl (eI X, 30, .inl v_readMany)), (ad 10, .inl (eI X, 30, .inl v_heights)), (ad 11, .inl (eI X, 30, .inl v_oldValues)), (ad 12, .inl (eZ X, 30, .inl v_isOldTold)), (ad 13, .inl (eI X, 30, .inl v_oldReads)), (ad 14, .inl (eI X, 100, .inl v_undos)), (ad 15, .inl (eI X, 103, .inl v_undoAside)), (ad 16, .inl (eI X, 4, .inl v_formula)), (ad 17, .inl (eZ X, 2, .inl v_isKept)), (ad 18, .inl (eI X, 4, .inl v_lanes)), (ad 19, .inl (eI X, 4, .inl v_lengths)), (ad 20, .inl (eI X, 160, .inl v_items))] H L → lv_has ls 2 [(0, .ref (ad 0))] → fX8_readsOn_j201 v_tape v_taped (lq2 (fX8_readsOn_b140 v_tape v_taped  v_broken v_brokenAt v_here v_token) n140) v_broken v_brokenAt v_spot v_here v_token v_number s1 = some o → Wx X k 0 0 H L 201 ls [.int s1, .ref (ad 0)] := by
        intro v_spot v_number s1 H L ls hW hl h
        unfold fX8_readsOn_j201 at h
        refine r_put (ws' := [(ad 0, .inr (8, [.ref (ad 1), .ref (ad 2), .int v_taped, .int v_fault, .int v_broken, .int v_brokenAt, .int v_spot, .int v_here, .int v_token, .int s1, .ref (ad 3), .ref (ad 4), .ref (ad 5), .ref (ad 6), .ref (ad 7), .ref (ad 8), .ref (ad 9), .ref (ad 10), .int v_isStarted, .ref (ad 11), .ref (ad 12), .ref (ad 13), .int v_evaluated, .int v_moved, .int v_isChanged, .ref (ad 14), .int v_undoMany, .ref (ad 15), .ref (ad 16), .ref (ad 17), .ref (ad 18), .ref (ad 19), .ref (ad 20), .int v_torn, .int v_isAsideChanged])), (ad 1, .inl (eI X, 720, .inl v_state)), (ad 2, .inl (eI X, 320, .inl v_tape)), (ad 3, .inl (eI X, 9, .inl v_ends)), (ad 4, .inl (eI X, 27, .inl v_letters)), (ad 5, .inl (eI X, 30, .inl v_values)), (ad 6, .inl (eZ X, 30, .inl v_isTold)), (ad 7, .inl (eI X, 30, .inl v_waits)), (ad 8, .inl (eI X, 900, .inl v_readsOf)), (ad 9, .inl (eI X, 30, .inl v_readMany)), (ad 10, .inl (eI X, 30, .inl v_heights)), (ad 11, .inl (eI X, 30, .inl v_oldValues)), (ad 12, .inl (eZ X, 30, .inl v_isOldTold)), (ad 13, .inl (eI X, 30, .inl v_oldReads)), (ad 14, .inl (eI X, 100, .inl v_undos)), (ad 15, .inl (eI X, 103, .inl v_undoAside)), (ad 16, .inl (eI X, 4, .inl v_formula)), (ad 17, .inl (eZ X, 2, .inl v_isKept)), (ad 18, .inl (eI X, 4, .inl v_lanes)), (ad 19, .inl (eI X, 4, .inl v_lengths)), (ad 20, .inl (eI X, 160, .inl v_items))]) C hW 0 rfl rfl iwX8 tyX8_ok nmX8 9 (by decide) w_fl_X8_100 rfl (tyX8_ok 9 (by decide)) rfl rfl (Nat.le_of_ble_eq_true rfl) rfl dX8_readsOn_201 (fun H L hW => ?_)
        refine r_aload_n C hl 0 dX8_readsOn_204 rfl rfl ?_
        refine r_dup C rfl dX8_readsOn_205 ?_
        refine r_get C hW 0 rfl rfl iwX8 6 (by decide) w_fl_X8_93 rfl dX8_readsOn_206 ?_
        refine r_iconst (v := 1) C dX8_readsOn_209 (by decide) ?_
        refine r_iadd C dX8_readsOn_210 ?_
        refine r_put (ws' := [(ad 0, .inr (8, [.ref (ad 1), .ref (ad 2), .int v_taped, .int v_fault, .int v_broken, .int v_brokenAt, .int (v_spot + (1 : Int32)), .int v_here, .int v_token, .int s1, .ref (ad 3), .ref (ad 4), .ref (ad 5), .ref (ad 6), .ref (ad 7), .ref (ad 8), .ref (ad 9), .ref (ad 10), .int v_isStarted, .ref (ad 11), .ref (ad 12), .ref (ad 13), .int v_evaluated, .int v_moved, .int v_isChanged, .ref (ad 14), .int v_undoMany, .ref (ad 15), .ref (ad 16), .ref (ad 17), .ref (ad 18), .ref (ad 19), .ref (ad 20), .int v_torn, .int v_isAsideChanged])), (ad 1, .inl (eI X, 720, .inl v_state)), (ad 2, .inl (eI X, 320, .inl v_tape)), (ad 3, .inl (eI X, 9, .inl v_ends)), (ad 4, .inl (eI X, 27, .inl v_letters)), (ad 5, .inl (eI X, 30, .inl v_values)), (ad 6, .inl (eZ X, 30, .inl v_isTold)), (ad 7, .inl (eI X, 30, .inl v_waits)), (ad 8, .inl (eI X, 900, .inl v_readsOf)), (ad 9, .inl (eI X, 30, .inl v_readMany)), (ad 10, .inl (eI X, 30, .inl v_heights)), (ad 11, .inl (eI X, 30, .inl v_oldValues)), (ad 12, .inl (eZ X, 30, .inl v_isOldTold)), (ad 13, .inl (eI X, 30, .inl v_oldReads)), (ad 14, .inl (eI X, 100, .inl v_undos)), (ad 15, .inl (eI X, 103, .inl v_undoAside)), (ad 16, .inl (eI X, 4, .inl v_formula)), (ad 17, .inl (eZ X, 2, .inl v_isKept)), (ad 18, .inl (eI X, 4, .inl v_lanes)), (ad 19, .inl (eI X, 4, .inl v_lengths)), (ad 20, .inl (eI X, 160, .inl v_items))]) C hW 0 rfl rfl iwX8 tyX8_ok nmX8 6 (by decide) w_fl_X8_93 rfl (tyX8_ok 6 (by decide)) rfl rfl (Nat.le_of_ble_eq_true rfl) rfl dX8_readsOn_211 (fun H L hW => ?_)
        refine r_goto (tgt := 140) C dX8_readsOn_214 (by decide) ?_
        exact ih140 (v_spot + (1 : Int32)) s1 H L ls hW hl h
      intro v_spot v_number H L ls hW hl h
      rw [lq2_s] at h
      unfold fX8_readsOn_b140 at h
      refine r_aload_n C hl 0 dX8_readsOn_140 rfl rfl ?_
      refine r_aload_n C hl 0 dX8_readsOn_141 rfl rfl ?_
      refine r_get C hW 0 rfl rfl iwX8 6 (by decide) w_fl_X8_93 rfl dX8_readsOn_142 ?_
      obtain ⟨r145, h145, h⟩ := bd1_some h
      refine r_V (wr := []) (np := 1) C hl (mX8_byteAt X ad  v_state v_tape v_taped v_fault v_broken v_brokenAt v_spot v_here v_token v_number v_ends v_letters v_values v_isTold v_waits v_readsOf v_readMany v_heights v_isStarted v_oldValues v_isOldTold v_oldReads v_evaluated v_moved v_isChanged v_undos v_undoMany v_undoAside v_formula v_isKept v_lanes v_lengths v_items v_torn v_isAsideChanged v_spot r145 h145) hW [0, 1, 2, 3, 4, 5, 6, 7, 8, 9, 10, 11, 12, 13, 14, 15, 16, 17, 18, 19, 20] [] rfl rfl rfl rfl (by decide) 0 rfl rfl w_cd_X8_byteAt w_ml_X8_96 w_im_X8_byteAt w_sel_X8_byteAt w_in_HeightSheetModel (by decide +kernel) rfl ⟨Nat.le_of_ble_eq_true rfl, Nat.le_of_ble_eq_true rfl⟩ ⟨Nat.zero_le _, Nat.zero_le _⟩ (Nat.le_of_ble_eq_true rfl) dX8_readsOn_145 (fun rv w1 H L hp hW => ?_) rfl
      obtain ⟨rfl, rfl⟩ := hp
      replace hW : Wd X k A [(ad 0, .inr (8, [.ref (ad 1), .ref (ad 2), .int v_taped, .int v_fault, .int v_broken, .int v_brokenAt, .int v_spot, .int v_here, .int v_token, .int v_number, .ref (ad 3), .ref (ad 4), .ref (ad 5), .ref (ad 6), .ref (ad 7), .ref (ad 8), .ref (ad 9), .ref (ad 10), .int v_isStarted, .ref (ad 11), .ref (ad 12), .ref (ad 13), .int v_evaluated, .int v_moved, .int v_isChanged, .ref (ad 14), .int v_undoMany, .ref (ad 15), .ref (ad 16), .ref (ad 17), .ref (ad 18), .ref (ad 19), .ref (ad 20), .int v_torn, .int v_isAsideChanged])), (ad 1, .inl (eI X, 720, .inl v_state)), (ad 2, .inl (eI X, 320, .inl v_tape)), (ad 3, .inl (eI X, 9, .inl v_ends)), (ad 4, .inl (eI X, 27, .inl v_letters)), (ad 5, .inl (eI X, 30, .inl v_values)), (ad 6, .inl (eZ X, 30, .inl v_isTold)), (ad 7, .inl (eI X, 30, .inl v_waits)), (ad 8, .inl (eI X, 900, .inl v_readsOf)), (ad 9, .inl (eI X, 30, .inl v_readMany)), (ad 10, .inl (eI X, 30, .inl v_heights)), (ad 11, .inl (eI X, 30, .inl v_oldValues)), (ad 12, .inl (eZ X, 30, .inl v_isOldTold)), (ad 13, .inl (eI X, 30, .inl v_oldReads)), (ad 14, .inl (eI X, 100, .inl v_undos)), (ad 15, .inl (eI X, 103, .inl v_undoAside)), (ad 16, .inl (eI X, 4, .inl v_formula)), (ad 17, .inl (eZ X, 2, .inl v_isKept)), (ad 18, .inl (eI X, 4, .inl v_lanes)), (ad 19, .inl (eI X, 4, .inl v_lengths)), (ad 20, .inl (eI X, 160, .inl v_items))] H L := hW.sub [0, 1, 2, 3, 4, 5, 6, 7, 8, 9, 10, 11, 12, 13, 14, 15, 16, 17, 18, 19, 20] rfl rfl
      show Wx X k 0 0 H L 148 ls [.int r145]
      refine r_i2l C dX8_readsOn_148 ?_
      refine r_ldc2 C w_cL_X8_107 dX8_readsOn_149 ?_
      refine r_ldc2 C w_cL_X8_109 dX8_readsOn_152 ?_
      obtain ⟨r155, h155, h⟩ := bd1_some h
      refine r_S (wr := [(ad 0, .inr (8, [.ref (ad 1), .ref (ad 2), .int v_taped, .int v_fault, .int v_broken, .int v_brokenAt, .int v_spot, .int v_here, .int v_token, .int v_number, .ref (ad 3), .ref (ad 4), .ref (ad 5), .ref (ad 6), .ref (ad 7), .ref (ad 8), .ref (ad 9), .ref (ad 10), .int v_isStarted, .ref (ad 11), .ref (ad 12), .ref (ad 13), .int v_evaluated, .int v_moved, .int v_isChanged, .ref (ad 14), .int v_undoMany, .ref (ad 15), .ref (ad 16), .ref (ad 17), .ref (ad 18), .ref (ad 19), .ref (ad 20), .int v_torn, .int v_isAsideChanged])), (ad 1, .inl (eI X, 720, .inl v_state)), (ad 2, .inl (eI X, 320, .inl v_tape)), (ad 3, .inl (eI X, 9, .inl v_ends)), (ad 4, .inl (eI X, 27, .inl v_letters)), (ad 5, .inl (eI X, 30, .inl v_values)), (ad 6, .inl (eZ X, 30, .inl v_isTold)), (ad 7, .inl (eI X, 30, .inl v_waits)), (ad 8, .inl (eI X, 900, .inl v_readsOf)), (ad 9, .inl (eI X, 30, .inl v_readMany)), (ad 10, .inl (eI X, 30, .inl v_heights)), (ad 11, .inl (eI X, 30, .inl v_oldValues)), (ad 12, .inl (eZ X, 30, .inl v_isOldTold)), (ad 13, .inl (eI X, 30, .inl v_oldReads)), (ad 14, .inl (eI X, 100, .inl v_undos)), (ad 15, .inl (eI X, 103, .inl v_undoAside)), (ad 16, .inl (eI X, 4, .inl v_formula)), (ad 17, .inl (eZ X, 2, .inl v_isKept)), (ad 18, .inl (eI X, 4, .inl v_lanes)), (ad 19, .inl (eI X, 4, .inl v_lengths)), (ad 20, .inl (eI X, 160, .inl v_items))]) (np := 3) C hl (mX8_in X    (r145.toInt64) (48 : Int64) (57 : Int64) r155 h155) hW [] [0, 1, 2, 3, 4, 5, 6, 7, 8, 9, 10, 11, 12, 13, 14, 15, 16, 17, 18, 19, 20] rfl rfl rfl rfl (by decide) w_cd_X8_in w_ml_X8_73 w_st_X8_in w_in_HeightSheetModel (by decide +kernel) rfl ⟨Nat.le_of_ble_eq_true rfl, Nat.le_of_ble_eq_true rfl⟩ ⟨Nat.zero_le _, Nat.zero_le _⟩ (Nat.le_of_ble_eq_true rfl) dX8_readsOn_155 (fun rv w1 H L hp hW => ?_) rfl
      obtain ⟨rfl, rfl⟩ := hp
      replace hW : Wd X k A [(ad 0, .inr (8, [.ref (ad 1), .ref (ad 2), .int v_taped, .int v_fault, .int v_broken, .int v_brokenAt, .int v_spot, .int v_here, .int v_token, .int v_number, .ref (ad 3), .ref (ad 4), .ref (ad 5), .ref (ad 6), .ref (ad 7), .ref (ad 8), .ref (ad 9), .ref (ad 10), .int v_isStarted, .ref (ad 11), .ref (ad 12), .ref (ad 13), .int v_evaluated, .int v_moved, .int v_isChanged, .ref (ad 14), .int v_undoMany, .ref (ad 15), .ref (ad 16), .ref (ad 17), .ref (ad 18), .ref (ad 19), .ref (ad 20), .int v_torn, .int v_isAsideChanged])), (ad 1, .inl (eI X, 720, .inl v_state)), (ad 2, .inl (eI X, 320, .inl v_tape)), (ad 3, .inl (eI X, 9, .inl v_ends)), (ad 4, .inl (eI X, 27, .inl v_letters)), (ad 5, .inl (eI X, 30, .inl v_values)), (ad 6, .inl (eZ X, 30, .inl v_isTold)), (ad 7, .inl (eI X, 30, .inl v_waits)), (ad 8, .inl (eI X, 900, .inl v_readsOf)), (ad 9, .inl (eI X, 30, .inl v_readMany)), (ad 10, .inl (eI X, 30, .inl v_heights)), (ad 11, .inl (eI X, 30, .inl v_oldValues)), (ad 12, .inl (eZ X, 30, .inl v_isOldTold)), (ad 13, .inl (eI X, 30, .inl v_oldReads)), (ad 14, .inl (eI X, 100, .inl v_undos)), (ad 15, .inl (eI X, 103, .inl v_undoAside)), (ad 16, .inl (eI X, 4, .inl v_formula)), (ad 17, .inl (eZ X, 2, .inl v_isKept)), (ad 18, .inl (eI X, 4, .inl v_lanes)), (ad 19, .inl (eI X, 4, .inl v_lengths)), (ad 20, .inl (eI X, 160, .inl v_items))] H L := hW.sub [0, 1, 2, 3, 4, 5, 6, 7, 8, 9, 10, 11, 12, 13, 14, 15, 16, 17, 18, 19, 20] rfl rfl
      show Wx X k 0 0 H L 158 ls [.int r155]
      refine r_if_eq (tgt := 217) C dX8_readsOn_158 (by decide) (fun c158 => ?_) (fun c158 => ?_)
      · replace h := iT c158 h
        refine r_aload_n C hl 0 dX8_readsOn_217 rfl rfl ?_
        refine r_iconst (v := 2) C dX8_readsOn_218 (by decide) ?_
        refine r_put (ws' := [(ad 0, .inr (8, [.ref (ad 1), .ref (ad 2), .int v_taped, .int v_fault, .int v_broken, .int v_brokenAt, .int v_spot, .int v_here, .int (2 : Int32), .int v_number, .ref (ad 3), .ref (ad 4), .ref (ad 5), .ref (ad 6), .ref (ad 7), .ref (ad 8), .ref (ad 9), .ref (ad 10), .int v_isStarted, .ref (ad 11), .ref (ad 12), .ref (ad 13), .int v_evaluated, .int v_moved, .int v_isChanged, .ref (ad 14), .int v_undoMany, .ref (ad 15), .ref (ad 16), .ref (ad 17), .ref (ad 18), .ref (ad 19), .ref (ad 20), .int v_torn, .int v_isAsideChanged])), (ad 1, .inl (eI X, 720, .inl v_state)), (ad 2, .inl (eI X, 320, .inl v_tape)), (ad 3, .inl (eI X, 9, .inl v_ends)), (ad 4, .inl (eI X, 27, .inl v_letters)), (ad 5, .inl (eI X, 30, .inl v_values)), (ad 6, .inl (eZ X, 30, .inl v_isTold)), (ad 7, .inl (eI X, 30, .inl v_waits)), (ad 8, .inl (eI X, 900, .inl v_readsOf)), (ad 9, .inl (eI X, 30, .inl v_readMany)), (ad 10, .inl (eI X, 30, .inl v_heights)), (ad 11, .inl (eI X, 30, .inl v_oldValues)), (ad 12, .inl (eZ X, 30, .inl v_isOldTold)), (ad 13, .inl (eI X, 30, .inl v_oldReads)), (ad 14, .inl (eI X, 100, .inl v_undos)), (ad 15, .inl (eI X, 103, .inl v_undoAside)), (ad 16, .inl (eI X, 4, .inl v_formula)), (ad 17, .inl (eZ X, 2, .inl v_isKept)), (ad 18, .inl (eI X, 4, .inl v_lanes)), (ad 19, .inl (eI X, 4, .inl v_lengths)), (ad 20, .inl (eI X, 160, .inl v_items))]) C hW 0 rfl rfl iwX8 tyX8_ok nmX8 8 (by decide) w_fl_X8_90 rfl (tyX8_ok 8 (by decide)) rfl rfl (Nat.le_of_ble_eq_true rfl) rfl dX8_readsOn_219 (fun H L hW => ?_)
        refine r_aload_n C hl 0 dX8_readsOn_222 rfl rfl ?_
        refine r_get C hW 0 rfl rfl iwX8 6 (by decide) w_fl_X8_93 rfl dX8_readsOn_223 ?_
        refine r_aload_n C hl 0 dX8_readsOn_226 rfl rfl ?_
        refine r_get C hW 0 rfl rfl iwX8 7 (by decide) w_fl_X8_84 rfl dX8_readsOn_227 ?_
        refine r_isub C dX8_readsOn_230 ?_
        refine r_iconst (v := 3) C dX8_readsOn_231 (by decide) ?_
        refine r_icmp_le (tgt := 269) C dX8_readsOn_232 (by decide) (fun c232 => ?_) (fun c232 => ?_)
        · replace h := iT c232 h
          exact r_vret C hq hW (by obtain rfl := Option.some.inj h; exact ⟨rfl, rfl⟩) dX8_readsOn_269
        · replace h := iF c232 h
          refine r_aload_n C hl 0 dX8_readsOn_235 rfl rfl ?_
          refine r_iconst (v := 1) C dX8_readsOn_236 (by decide) ?_
          obtain ⟨c237_broken, c237_brokenAt, h237, h⟩ := bd2_some h
          refine r_V (wr := []) (np := 1) C hl (mX8_fails X ad  v_state v_tape v_taped v_fault v_broken v_brokenAt v_spot v_here (2 : Int32) v_number v_ends v_letters v_values v_isTold v_waits v_readsOf v_readMany v_heights v_isStarted v_oldValues v_isOldTold v_oldReads v_evaluated v_moved v_isChanged v_undos v_undoMany v_undoAside v_formula v_isKept v_lanes v_lengths v_items v_torn v_isAsideChanged (1 : Int32) (c237_broken, c237_brokenAt) h237) hW [0, 1, 2, 3, 4, 5, 6, 7, 8, 9, 10, 11, 12, 13, 14, 15, 16, 17, 18, 19, 20] [] rfl rfl rfl rfl (by decide) 0 rfl rfl w_cd_X8_fails w_ml_X8_111 w_im_X8_fails w_sel_X8_fails w_in_HeightSheetModel (by decide +kernel) rfl ⟨Nat.le_of_ble_eq_true rfl, Nat.le_of_ble_eq_true rfl⟩ ⟨Nat.zero_le _, Nat.zero_le _⟩ (Nat.le_of_ble_eq_true rfl) dX8_readsOn_237 (fun rv w1 H L hp hW => ?_) rfl
          obtain ⟨rfl, rfl⟩ := hp
          replace hW : Wd X k A [(ad 0, .inr (8, [.ref (ad 1), .ref (ad 2), .int v_taped, .int v_fault, .int c237_broken, .int c237_brokenAt, .int v_spot, .int v_here, .int (2 : Int32), .int v_number, .ref (ad 3), .ref (ad 4), .ref (ad 5), .ref (ad 6), .ref (ad 7), .ref (ad 8), .ref (ad 9), .ref (ad 10), .int v_isStarted, .ref (ad 11), .ref (ad 12), .ref (ad 13), .int v_evaluated, .int v_moved, .int v_isChanged, .ref (ad 14), .int v_undoMany, .ref (ad 15), .ref (ad 16), .ref (ad 17), .ref (ad 18), .ref (ad 19), .ref (ad 20), .int v_torn, .int v_isAsideChanged])), (ad 1, .inl (eI X, 720, .inl v_state)), (ad 2, .inl (eI X, 320, .inl v_tape)), (ad 3, .inl (eI X, 9, .inl v_ends)), (ad 4, .inl (eI X, 27, .inl v_letters)), (ad 5, .inl (eI X, 30, .inl v_values)), (ad 6, .inl (eZ X, 30, .inl v_isTold)), (ad 7, .inl (eI X, 30, .inl v_waits)), (ad 8, .inl (eI X, 900, .inl v_readsOf)), (ad 9, .inl (eI X, 30, .inl v_readMany)), (ad 10, .inl (eI X, 30, .inl v_heights)), (ad 11, .inl (eI X, 30, .inl v_oldValues)), (ad 12, .inl (eZ X, 30, .inl v_isOldTold)), (ad 13, .inl (eI X, 30, .inl v_oldReads)), (ad 14, .inl (eI X, 100, .inl v_undos)), (ad 15, .inl (eI X, 103, .inl v_undoAside)), (ad 16, .inl (eI X, 4, .inl v_formula)), (ad 17, .inl (eZ X, 2, .inl v_isKept)), (ad 18, .inl (eI X, 4, .inl v_lanes)), (ad 19, .inl (eI X, 4, .inl v_lengths)), (ad 20, .inl (eI X, 160, .inl v_items))] H L := hW.sub [0, 1, 2, 3, 4, 5, 6, 7, 8, 9, 10, 11, 12, 13, 14, 15, 16, 17, 18, 19, 20] rfl rfl
          show Wx X k 0 0 H L 240 ls []
          refine r_goto (tgt := 269) C dX8_readsOn_240 (by decide) ?_
          exact r_vret C hq hW (by obtain rfl := Option.some.inj h; exact ⟨rfl, rfl⟩) dX8_readsOn_269
      · replace h := iF c158 h
        refine r_aload_n C hl 0 dX8_readsOn_161 rfl rfl ?_
        refine r_aload_n C hl 0 dX8_readsOn_162 rfl rfl ?_
        refine r_get C hW 0 rfl rfl iwX8 6 (by decide) w_fl_X8_93 rfl dX8_readsOn_163 ?_
        refine r_aload_n C hl 0 dX8_readsOn_166 rfl rfl ?_
        refine r_get C hW 0 rfl rfl iwX8 7 (by decide) w_fl_X8_84 rfl dX8_readsOn_167 ?_
        refine r_isub C dX8_readsOn_170 ?_
        refine r_iconst (v := 3) C dX8_readsOn_171 (by decide) ?_
        refine r_icmp_ge (tgt := 197) C dX8_readsOn_172 (by decide) (fun c172 => ?_) (fun c172 => ?_)
        · replace h := iT c172 h
          refine r_aload_n C hl 0 dX8_readsOn_197 rfl rfl ?_
          refine r_get C hW 0 rfl rfl iwX8 9 (by decide) w_fl_X8_100 rfl dX8_readsOn_198 ?_
          exact K201 v_spot v_number v_number H L ls hW hl h
        · replace h := iF c172 h
          refine r_bipush (v := 10) C dX8_readsOn_175 (by decide) ?_
          refine r_aload_n C hl 0 dX8_readsOn_177 rfl rfl ?_
          refine r_get C hW 0 rfl rfl iwX8 9 (by decide) w_fl_X8_100 rfl dX8_readsOn_178 ?_
          refine r_imul C dX8_readsOn_181 ?_
          refine r_aload_n C hl 0 dX8_readsOn_182 rfl rfl ?_
          refine r_aload_n C hl 0 dX8_readsOn_183 rfl rfl ?_
          refine r_get C hW 0 rfl rfl iwX8 6 (by decide) w_fl_X8_93 rfl dX8_readsOn_184 ?_
          obtain ⟨r187, h187, h⟩ := bd1_some h
          refine r_V (wr := []) (np := 1) C hl (mX8_byteAt X ad  v_state v_tape v_taped v_fault v_broken v_brokenAt v_spot v_here v_token v_number v_ends v_letters v_values v_isTold v_waits v_readsOf v_readMany v_heights v_isStarted v_oldValues v_isOldTold v_oldReads v_evaluated v_moved v_isChanged v_undos v_undoMany v_undoAside v_formula v_isKept v_lanes v_lengths v_items v_torn v_isAsideChanged v_spot r187 h187) hW [0, 1, 2, 3, 4, 5, 6, 7, 8, 9, 10, 11, 12, 13, 14, 15, 16, 17, 18, 19, 20] [] rfl rfl rfl rfl (by decide) 0 rfl rfl w_cd_X8_byteAt w_ml_X8_96 w_im_X8_byteAt w_sel_X8_byteAt w_in_HeightSheetModel (by decide +kernel) rfl ⟨Nat.le_of_ble_eq_true rfl, Nat.le_of_ble_eq_true rfl⟩ ⟨Nat.zero_le _, Nat.zero_le _⟩ (Nat.le_of_ble_eq_true rfl) dX8_readsOn_187 (fun rv w1 H L hp hW => ?_) rfl
          obtain ⟨rfl, rfl⟩ := hp
          replace hW : Wd X k A [(ad 0, .inr (8, [.ref (ad 1), .ref (ad 2), .int v_taped, .int v_fault, .int v_broken, .int v_brokenAt, .int v_spot, .int v_here, .int v_token, .int v_number, .ref (ad 3), .ref (ad 4), .ref (ad 5), .ref (ad 6), .ref (ad 7), .ref (ad 8), .ref (ad 9), .ref (ad 10), .int v_isStarted, .ref (ad 11), .ref (ad 12), .ref (ad 13), .int v_evaluated, .int v_moved, .int v_isChanged, .ref (ad 14), .int v_undoMany, .ref (ad 15), .ref (ad 16), .ref (ad 17), .ref (ad 18), .ref (ad 19), .ref (ad 20), .int v_torn, .int v_isAsideChanged])), (ad 1, .inl (eI X, 720, .inl v_state)), (ad 2, .inl (eI X, 320, .inl v_tape)), (ad 3, .inl (eI X, 9, .inl v_ends)), (ad 4, .inl (eI X, 27, .inl v_letters)), (ad 5, .inl (eI X, 30, .inl v_values)), (ad 6, .inl (eZ X, 30, .inl v_isTold)), (ad 7, .inl (eI X, 30, .inl v_waits)), (ad 8, .inl (eI X, 900, .inl v_readsOf)), (ad 9, .inl (eI X, 30, .inl v_readMany)), (ad 10, .inl (eI X, 30, .inl v_heights)), (ad 11, .inl (eI X, 30, .inl v_oldValues)), (ad 12, .inl (eZ X, 30, .inl v_isOldTold)), (ad 13, .inl (eI X, 30, .inl v_oldReads)), (ad 14, .inl (eI X, 100, .inl v_undos)), (ad 15, .inl (eI X, 103, .inl v_undoAside)), (ad 16, .inl (eI X, 4, .inl v_formula)), (ad 17, .inl (eZ X, 2, .inl v_isKept)), (ad 18, .inl (eI X, 4, .inl v_lanes)), (ad 19, .inl (eI X, 4, .inl v_lengths)), (ad 20, .inl (eI X, 160, .inl v_items))] H L := hW.sub [0, 1, 2, 3, 4, 5, 6, 7, 8, 9, 10, 11, 12, 13, 14, 15, 16, 17, 18, 19, 20] rfl rfl
          show Wx X k 0 0 H L 190 ls [.int r187, .int ((10 : Int32) * v_number), .ref (ad 0)]
          refine r_iadd C dX8_readsOn_190 ?_
          refine r_bipush (v := 48) C dX8_readsOn_191 (by decide) ?_
          refine r_isub C dX8_readsOn_193 ?_
          refine r_goto (tgt := 201) C dX8_readsOn_194 (by decide) ?_
          exact K201 v_spot v_number ((((10 : Int32) * v_number) + r187) - (48 : Int32)) H L ls hW hl h
  have K84 : ∀ (v_broken : Int32), ∀ (v_brokenAt : Int32), ∀ (v_here : Int32), ∀ (v_token : Int32), ∀ (v_number : Int32), ∀ (n84 : Nat), ∀ (v_spot : Int32), ∀ (H : Heap) (L : List Loc) (ls : Array Slot), Wd X k A [(ad 0, .inr (8, [.ref (ad 1), .ref (ad 2), .int v_taped, .int v_fault, .int v_broken, .int v_brokenAt, .int v_spot, .int v_here, .int v_token, .int v_number, .ref (ad 3), .ref (ad 4), .ref (ad 5), .ref (ad 6), .ref (ad 7), .ref (ad 8), .ref (ad 9), .ref (ad 10), .int v_isStarted, .ref (ad 11), .ref (ad 12), .ref (ad 13), .int v_evaluated, .int v_moved, .int v_isChanged, .ref (ad 14), .int v_undoMany, .ref (ad 15), .ref (ad 16), .ref (ad 17), .ref (ad 18), .ref (ad 19), .ref (ad 20), .int v_torn, .int v_isAsideChanged])), (ad 1, .inl (eI X, 720, .inl v_state)), (ad 2, .inl (eI X, 320, .inl v_tape)), (ad 3, .inl (eI X, 9, .inl v_ends)), (ad 4, .inl (eI X, 27, .inl v_letters)), (ad 5, .inl (eI X, 30, .inl v_values)), (ad 6, .inl (eZ X, 30, .inl v_isTold)), (ad 7, .inl (eI X, 30, .inl v_waits)), (ad 8, .inl (eI X, 900, .inl v_readsOf)), (ad 9, .inl (eI X, 30, .inl v_readMany)), (ad 10, .inl (eI X, 30, .inl v_heights)), (ad 11, .inl (eI X, 30, .inl v_oldValues)), (ad 12, .inl (eZ X, 30, .inl v_isOldTold)), (ad 13, .inl (eI X, 30, .inl v_oldReads)), (ad 14, .inl (eI X, 100, .inl v_undos)), (ad 15, .inl (eI X, 103, .inl v_undoAside)), (ad 16, .inl (eI X, 4, .inl v_formula)), (ad 17, .inl (eZ X, 2, .inl v_isKept)), (ad 18, .inl (eI X, 4, .inl v_lanes)), (ad 19, .inl (eI X, 4, .inl v_lengths)), (ad 20, .inl (eI X, 160, .inl v_items))] H L → lv_has ls 2 [(0, .ref (ad 0))] → lq1 (fX8_readsOn_b84 v_tape v_taped  v_broken v_brokenAt v_here v_token v_number) n84 v_spot = some o → Wx X k 0 0 H L 84 ls [] := by
    intro v_broken v_brokenAt v_here v_token v_number
    intro n84
    induction n84 with
    | zero => intro v_spot H L ls hW hl h; exact lq1_0 h
    | succ n84 ih84 =>
      intro v_spot H L ls hW hl h
      rw [lq1_s] at h
      unfold fX8_readsOn_b84 at h
      refine r_aload_n C hl 0 dX8_readsOn_84 rfl rfl ?_
      refine r_aload_n C hl 0 dX8_readsOn_85 rfl rfl ?_
      refine r_get C hW 0 rfl rfl iwX8 6 (by decide) w_fl_X8_93 rfl dX8_readsOn_86 ?_
      obtain ⟨r89, h89, h⟩ := bd1_some h
      refine r_V (wr := []) (np := 1) C hl (mX8_byteAt X ad  v_state v_tape v_taped v_fault v_broken v_brokenAt v_spot v_here v_token v_number v_ends v_letters v_values v_isTold v_waits v_readsOf v_readMany v_heights v_isStarted v_oldValues v_isOldTold v_oldReads v_evaluated v_moved v_isChanged v_undos v_undoMany v_undoAside v_formula v_isKept v_lanes v_lengths v_items v_torn v_isAsideChanged v_spot r89 h89) hW [0, 1, 2, 3, 4, 5, 6, 7, 8, 9, 10, 11, 12, 13, 14, 15, 16, 17, 18, 19, 20] [] rfl rfl rfl rfl (by decide) 0 rfl rfl w_cd_X8_byteAt w_ml_X8_96 w_im_X8_byteAt w_sel_X8_byteAt w_in_HeightSheetModel (by decide +kernel) rfl ⟨Nat.le_of_ble_eq_true rfl, Nat.le_of_ble_eq_true rfl⟩ ⟨Nat.zero_le _, Nat.zero_le _⟩ (Nat.le_of_ble_eq_true rfl) dX8_readsOn_89 (fun rv w1 H L hp hW => ?_) rfl
      obtain ⟨rfl, rfl⟩ := hp
      replace hW : Wd X k A [(ad 0, .inr (8, [.ref (ad 1), .ref (ad 2), .int v_taped, .int v_fault, .int v_broken, .int v_brokenAt, .int v_spot, .int v_here, .int v_token, .int v_number, .ref (ad 3), .ref (ad 4), .ref (ad 5), .ref (ad 6), .ref (ad 7), .ref (ad 8), .ref (ad 9), .ref (ad 10), .int v_isStarted, .ref (ad 11), .ref (ad 12), .ref (ad 13), .int v_evaluated, .int v_moved, .int v_isChanged, .ref (ad 14), .int v_undoMany, .ref (ad 15), .ref (ad 16), .ref (ad 17), .ref (ad 18), .ref (ad 19), .ref (ad 20), .int v_torn, .int v_isAsideChanged])), (ad 1, .inl (eI X, 720, .inl v_state)), (ad 2, .inl (eI X, 320, .inl v_tape)), (ad 3, .inl (eI X, 9, .inl v_ends)), (ad 4, .inl (eI X, 27, .inl v_letters)), (ad 5, .inl (eI X, 30, .inl v_values)), (ad 6, .inl (eZ X, 30, .inl v_isTold)), (ad 7, .inl (eI X, 30, .inl v_waits)), (ad 8, .inl (eI X, 900, .inl v_readsOf)), (ad 9, .inl (eI X, 30, .inl v_readMany)), (ad 10, .inl (eI X, 30, .inl v_heights)), (ad 11, .inl (eI X, 30, .inl v_oldValues)), (ad 12, .inl (eZ X, 30, .inl v_isOldTold)), (ad 13, .inl (eI X, 30, .inl v_oldReads)), (ad 14, .inl (eI X, 100, .inl v_undos)), (ad 15, .inl (eI X, 103, .inl v_undoAside)), (ad 16, .inl (eI X, 4, .inl v_formula)), (ad 17, .inl (eZ X, 2, .inl v_isKept)), (ad 18, .inl (eI X, 4, .inl v_lanes)), (ad 19, .inl (eI X, 4, .inl v_lengths)), (ad 20, .inl (eI X, 160, .inl v_items))] H L := hW.sub [0, 1, 2, 3, 4, 5, 6, 7, 8, 9, 10, 11, 12, 13, 14, 15, 16, 17, 18, 19, 20] rfl rfl
      show Wx X k 0 0 H L 92 ls [.int r89]
      refine r_i2l C dX8_readsOn_92 ?_
      refine r_ldc2 C w_cL_X8_103 dX8_readsOn_93 ?_
      refine r_ldc2 C w_cL_X8_105 dX8_readsOn_96 ?_
      obtain ⟨r99, h99, h⟩ := bd1_some h
      refine r_S (wr := [(ad 0, .inr (8, [.ref (ad 1), .ref (ad 2), .int v_taped, .int v_fault, .int v_broken, .int v_brokenAt, .int v_spot, .int v_here, .int v_token, .int v_number, .ref (ad 3), .ref (ad 4), .ref (ad 5), .ref (ad 6), .ref (ad 7), .ref (ad 8), .ref (ad 9), .ref (ad 10), .int v_isStarted, .ref (ad 11), .ref (ad 12), .ref (ad 13), .int v_evaluated, .int v_moved, .int v_isChanged, .ref (ad 14), .int v_undoMany, .ref (ad 15), .ref (ad 16), .ref (ad 17), .ref (ad 18), .ref (ad 19), .ref (ad 20), .int v_torn, .int v_isAsideChanged])), (ad 1, .inl (eI X, 720, .inl v_state)), (ad 2, .inl (eI X, 320, .inl v_tape)), (ad 3, .inl (eI X, 9, .inl v_ends)), (ad 4, .inl (eI X, 27, .inl v_letters)), (ad 5, .inl (eI X, 30, .inl v_values)), (ad 6, .inl (eZ X, 30, .inl v_isTold)), (ad 7, .inl (eI X, 30, .inl v_waits)), (ad 8, .inl (eI X, 900, .inl v_readsOf)), (ad 9, .inl (eI X, 30, .inl v_readMany)), (ad 10, .inl (eI X, 30, .inl v_heights)), (ad 11, .inl (eI X, 30, .inl v_oldValues)), (ad 12, .inl (eZ X, 30, .inl v_isOldTold)), (ad 13, .inl (eI X, 30, .inl v_oldReads)), (ad 14, .inl (eI X, 100, .inl v_undos)), (ad 15, .inl (eI X, 103, .inl v_undoAside)), (ad 16, .inl (eI X, 4, .inl v_formula)), (ad 17, .inl (eZ X, 2, .inl v_isKept)), (ad 18, .inl (eI X, 4, .inl v_lanes)), (ad 19, .inl (eI X, 4, .inl v_lengths)), (ad 20, .inl (eI X, 160, .inl v_items))]) (np := 3) C hl (mX8_in X    (r89.toInt64) (97 : Int64) (122 : Int64) r99 h99) hW [] [0, 1, 2, 3, 4, 5, 6, 7, 8, 9, 10, 11, 12, 13, 14, 15, 16, 17, 18, 19, 20] rfl rfl rfl rfl (by decide) w_cd_X8_in w_ml_X8_73 w_st_X8_in w_in_HeightSheetModel (by decide +kernel) rfl ⟨Nat.le_of_ble_eq_true rfl, Nat.le_of_ble_eq_true rfl⟩ ⟨Nat.zero_le _, Nat.zero_le _⟩ (Nat.le_of_ble_eq_true rfl) dX8_readsOn_99 (fun rv w1 H L hp hW => ?_) rfl
      obtain ⟨rfl, rfl⟩ := hp
      replace hW : Wd X k A [(ad 0, .inr (8, [.ref (ad 1), .ref (ad 2), .int v_taped, .int v_fault, .int v_broken, .int v_brokenAt, .int v_spot, .int v_here, .int v_token, .int v_number, .ref (ad 3), .ref (ad 4), .ref (ad 5), .ref (ad 6), .ref (ad 7), .ref (ad 8), .ref (ad 9), .ref (ad 10), .int v_isStarted, .ref (ad 11), .ref (ad 12), .ref (ad 13), .int v_evaluated, .int v_moved, .int v_isChanged, .ref (ad 14), .int v_undoMany, .ref (ad 15), .ref (ad 16), .ref (ad 17), .ref (ad 18), .ref (ad 19), .ref (ad 20), .int v_torn, .int v_isAsideChanged])), (ad 1, .inl (eI X, 720, .inl v_state)), (ad 2, .inl (eI X, 320, .inl v_tape)), (ad 3, .inl (eI X, 9, .inl v_ends)), (ad 4, .inl (eI X, 27, .inl v_letters)), (ad 5, .inl (eI X, 30, .inl v_values)), (ad 6, .inl (eZ X, 30, .inl v_isTold)), (ad 7, .inl (eI X, 30, .inl v_waits)), (ad 8, .inl (eI X, 900, .inl v_readsOf)), (ad 9, .inl (eI X, 30, .inl v_readMany)), (ad 10, .inl (eI X, 30, .inl v_heights)), (ad 11, .inl (eI X, 30, .inl v_oldValues)), (ad 12, .inl (eZ X, 30, .inl v_isOldTold)), (ad 13, .inl (eI X, 30, .inl v_oldReads)), (ad 14, .inl (eI X, 100, .inl v_undos)), (ad 15, .inl (eI X, 103, .inl v_undoAside)), (ad 16, .inl (eI X, 4, .inl v_formula)), (ad 17, .inl (eZ X, 2, .inl v_isKept)), (ad 18, .inl (eI X, 4, .inl v_lanes)), (ad 19, .inl (eI X, 4, .inl v_lengths)), (ad 20, .inl (eI X, 160, .inl v_items))] H L := hW.sub [0, 1, 2, 3, 4, 5, 6, 7, 8, 9, 10, 11, 12, 13, 14, 15, 16, 17, 18, 19, 20] rfl rfl
      show Wx X k 0 0 H L 102 ls [.int r99]
      refine r_if_eq (tgt := 118) C dX8_readsOn_102 (by decide) (fun c102 => ?_) (fun c102 => ?_)
      · replace h := iT c102 h
        refine r_aload_n C hl 0 dX8_readsOn_118 rfl rfl ?_
        refine r_iconst (v := 1) C dX8_readsOn_119 (by decide) ?_
        refine r_put (ws' := [(ad 0, .inr (8, [.ref (ad 1), .ref (ad 2), .int v_taped, .int v_fault, .int v_broken, .int v_brokenAt, .int v_spot, .int v_here, .int (1 : Int32), .int v_number, .ref (ad 3), .ref (ad 4), .ref (ad 5), .ref (ad 6), .ref (ad 7), .ref (ad 8), .ref (ad 9), .ref (ad 10), .int v_isStarted, .ref (ad 11), .ref (ad 12), .ref (ad 13), .int v_evaluated, .int v_moved, .int v_isChanged, .ref (ad 14), .int v_undoMany, .ref (ad 15), .ref (ad 16), .ref (ad 17), .ref (ad 18), .ref (ad 19), .ref (ad 20), .int v_torn, .int v_isAsideChanged])), (ad 1, .inl (eI X, 720, .inl v_state)), (ad 2, .inl (eI X, 320, .inl v_tape)), (ad 3, .inl (eI X, 9, .inl v_ends)), (ad 4, .inl (eI X, 27, .inl v_letters)), (ad 5, .inl (eI X, 30, .inl v_values)), (ad 6, .inl (eZ X, 30, .inl v_isTold)), (ad 7, .inl (eI X, 30, .inl v_waits)), (ad 8, .inl (eI X, 900, .inl v_readsOf)), (ad 9, .inl (eI X, 30, .inl v_readMany)), (ad 10, .inl (eI X, 30, .inl v_heights)), (ad 11, .inl (eI X, 30, .inl v_oldValues)), (ad 12, .inl (eZ X, 30, .inl v_isOldTold)), (ad 13, .inl (eI X, 30, .inl v_oldReads)), (ad 14, .inl (eI X, 100, .inl v_undos)), (ad 15, .inl (eI X, 103, .inl v_undoAside)), (ad 16, .inl (eI X, 4, .inl v_formula)), (ad 17, .inl (eZ X, 2, .inl v_isKept)), (ad 18, .inl (eI X, 4, .inl v_lanes)), (ad 19, .inl (eI X, 4, .inl v_lengths)), (ad 20, .inl (eI X, 160, .inl v_items))]) C hW 0 rfl rfl iwX8 tyX8_ok nmX8 8 (by decide) w_fl_X8_90 rfl (tyX8_ok 8 (by decide)) rfl rfl (Nat.le_of_ble_eq_true rfl) rfl dX8_readsOn_120 (fun H L hW => ?_)
        refine r_goto (tgt := 269) C dX8_readsOn_123 (by decide) ?_
        exact r_vret C hq hW (by obtain rfl := Option.some.inj h; exact ⟨rfl, rfl⟩) dX8_readsOn_269
      · replace h := iF c102 h
        refine r_aload_n C hl 0 dX8_readsOn_105 rfl rfl ?_
        refine r_dup C rfl dX8_readsOn_106 ?_
        refine r_get C hW 0 rfl rfl iwX8 6 (by decide) w_fl_X8_93 rfl dX8_readsOn_107 ?_
        refine r_iconst (v := 1) C dX8_readsOn_110 (by decide) ?_
        refine r_iadd C dX8_readsOn_111 ?_
        refine r_put (ws' := [(ad 0, .inr (8, [.ref (ad 1), .ref (ad 2), .int v_taped, .int v_fault, .int v_broken, .int v_brokenAt, .int (v_spot + (1 : Int32)), .int v_here, .int v_token, .int v_number, .ref (ad 3), .ref (ad 4), .ref (ad 5), .ref (ad 6), .ref (ad 7), .ref (ad 8), .ref (ad 9), .ref (ad 10), .int v_isStarted, .ref (ad 11), .ref (ad 12), .ref (ad 13), .int v_evaluated, .int v_moved, .int v_isChanged, .ref (ad 14), .int v_undoMany, .ref (ad 15), .ref (ad 16), .ref (ad 17), .ref (ad 18), .ref (ad 19), .ref (ad 20), .int v_torn, .int v_isAsideChanged])), (ad 1, .inl (eI X, 720, .inl v_state)), (ad 2, .inl (eI X, 320, .inl v_tape)), (ad 3, .inl (eI X, 9, .inl v_ends)), (ad 4, .inl (eI X, 27, .inl v_letters)), (ad 5, .inl (eI X, 30, .inl v_values)), (ad 6, .inl (eZ X, 30, .inl v_isTold)), (ad 7, .inl (eI X, 30, .inl v_waits)), (ad 8, .inl (eI X, 900, .inl v_readsOf)), (ad 9, .inl (eI X, 30, .inl v_readMany)), (ad 10, .inl (eI X, 30, .inl v_heights)), (ad 11, .inl (eI X, 30, .inl v_oldValues)), (ad 12, .inl (eZ X, 30, .inl v_isOldTold)), (ad 13, .inl (eI X, 30, .inl v_oldReads)), (ad 14, .inl (eI X, 100, .inl v_undos)), (ad 15, .inl (eI X, 103, .inl v_undoAside)), (ad 16, .inl (eI X, 4, .inl v_formula)), (ad 17, .inl (eZ X, 2, .inl v_isKept)), (ad 18, .inl (eI X, 4, .inl v_lanes)), (ad 19, .inl (eI X, 4, .inl v_lengths)), (ad 20, .inl (eI X, 160, .inl v_items))]) C hW 0 rfl rfl iwX8 tyX8_ok nmX8 6 (by decide) w_fl_X8_93 rfl (tyX8_ok 6 (by decide)) rfl rfl (Nat.le_of_ble_eq_true rfl) rfl dX8_readsOn_112 (fun H L hW => ?_)
        refine r_goto (tgt := 84) C dX8_readsOn_115 (by decide) ?_
        exact ih84 (v_spot + (1 : Int32)) H L ls hW hl h
  have K8 : ∀ (v_broken : Int32), ∀ (v_brokenAt : Int32), ∀ (v_here : Int32), ∀ (v_token : Int32), ∀ (v_number : Int32), ∀ (n8 : Nat), ∀ (v_spot : Int32), ∀ (H : Heap) (L : List Loc) (ls : Array Slot), Wd X k A [(ad 0, .inr (8, [.ref (ad 1), .ref (ad 2), .int v_taped, .int v_fault, .int v_broken, .int v_brokenAt, .int v_spot, .int v_here, .int v_token, .int v_number, .ref (ad 3), .ref (ad 4), .ref (ad 5), .ref (ad 6), .ref (ad 7), .ref (ad 8), .ref (ad 9), .ref (ad 10), .int v_isStarted, .ref (ad 11), .ref (ad 12), .ref (ad 13), .int v_evaluated, .int v_moved, .int v_isChanged, .ref (ad 14), .int v_undoMany, .ref (ad 15), .ref (ad 16), .ref (ad 17), .ref (ad 18), .ref (ad 19), .ref (ad 20), .int v_torn, .int v_isAsideChanged])), (ad 1, .inl (eI X, 720, .inl v_state)), (ad 2, .inl (eI X, 320, .inl v_tape)), (ad 3, .inl (eI X, 9, .inl v_ends)), (ad 4, .inl (eI X, 27, .inl v_letters)), (ad 5, .inl (eI X, 30, .inl v_values)), (ad 6, .inl (eZ X, 30, .inl v_isTold)), (ad 7, .inl (eI X, 30, .inl v_waits)), (ad 8, .inl (eI X, 900, .inl v_readsOf)), (ad 9, .inl (eI X, 30, .inl v_readMany)), (ad 10, .inl (eI X, 30, .inl v_heights)), (ad 11, .inl (eI X, 30, .inl v_oldValues)), (ad 12, .inl (eZ X, 30, .inl v_isOldTold)), (ad 13, .inl (eI X, 30, .inl v_oldReads)), (ad 14, .inl (eI X, 100, .inl v_undos)), (ad 15, .inl (eI X, 103, .inl v_undoAside)), (ad 16, .inl (eI X, 4, .inl v_formula)), (ad 17, .inl (eZ X, 2, .inl v_isKept)), (ad 18, .inl (eI X, 4, .inl v_lanes)), (ad 19, .inl (eI X, 4, .inl v_lengths)), (ad 20, .inl (eI X, 160, .inl v_items))] H L → lv_has ls 2 [(0, .ref (ad 0))] → lq1 (fX8_readsOn_b8 v_tape v_taped  v_broken v_brokenAt v_here v_token v_number) n8 v_spot = some o → Wx X k 0 0 H L 8 ls [] := by
    intro v_broken v_brokenAt v_here v_token v_number
    intro n8
    induction n8 with
    | zero => intro v_spot H L ls hW hl h; exact lq1_0 h
    | succ n8 ih8 =>
      intro v_spot H L ls hW hl h
      rw [lq1_s] at h
      unfold fX8_readsOn_b8 at h
      refine r_aload_n C hl 0 dX8_readsOn_8 rfl rfl ?_
      refine r_aload_n C hl 0 dX8_readsOn_9 rfl rfl ?_
      refine r_get C hW 0 rfl rfl iwX8 6 (by decide) w_fl_X8_93 rfl dX8_readsOn_10 ?_
      obtain ⟨r13, h13, h⟩ := bd1_some h
      refine r_V (wr := []) (np := 1) C hl (mX8_byteAt X ad  v_state v_tape v_taped v_fault v_broken v_brokenAt v_spot v_here v_token v_number v_ends v_letters v_values v_isTold v_waits v_readsOf v_readMany v_heights v_isStarted v_oldValues v_isOldTold v_oldReads v_evaluated v_moved v_isChanged v_undos v_undoMany v_undoAside v_formula v_isKept v_lanes v_lengths v_items v_torn v_isAsideChanged v_spot r13 h13) hW [0, 1, 2, 3, 4, 5, 6, 7, 8, 9, 10, 11, 12, 13, 14, 15, 16, 17, 18, 19, 20] [] rfl rfl rfl rfl (by decide) 0 rfl rfl w_cd_X8_byteAt w_ml_X8_96 w_im_X8_byteAt w_sel_X8_byteAt w_in_HeightSheetModel (by decide +kernel) rfl ⟨Nat.le_of_ble_eq_true rfl, Nat.le_of_ble_eq_true rfl⟩ ⟨Nat.zero_le _, Nat.zero_le _⟩ (Nat.le_of_ble_eq_true rfl) dX8_readsOn_13 (fun rv w1 H L hp hW => ?_) rfl
      obtain ⟨rfl, rfl⟩ := hp
      replace hW : Wd X k A [(ad 0, .inr (8, [.ref (ad 1), .ref (ad 2), .int v_taped, .int v_fault, .int v_broken, .int v_brokenAt, .int v_spot, .int v_here, .int v_token, .int v_number, .ref (ad 3), .ref (ad 4), .ref (ad 5), .ref (ad 6), .ref (ad 7), .ref (ad 8), .ref (ad 9), .ref (ad 10), .int v_isStarted, .ref (ad 11), .ref (ad 12), .ref (ad 13), .int v_evaluated, .int v_moved, .int v_isChanged, .ref (ad 14), .int v_undoMany, .ref (ad 15), .ref (ad 16), .ref (ad 17), .ref (ad 18), .ref (ad 19), .ref (ad 20), .int v_torn, .int v_isAsideChanged])), (ad 1, .inl (eI X, 720, .inl v_state)), (ad 2, .inl (eI X, 320, .inl v_tape)), (ad 3, .inl (eI X, 9, .inl v_ends)), (ad 4, .inl (eI X, 27, .inl v_letters)), (ad 5, .inl (eI X, 30, .inl v_values)), (ad 6, .inl (eZ X, 30, .inl v_isTold)), (ad 7, .inl (eI X, 30, .inl v_waits)), (ad 8, .inl (eI X, 900, .inl v_readsOf)), (ad 9, .inl (eI X, 30, .inl v_readMany)), (ad 10, .inl (eI X, 30, .inl v_heights)), (ad 11, .inl (eI X, 30, .inl v_oldValues)), (ad 12, .inl (eZ X, 30, .inl v_isOldTold)), (ad 13, .inl (eI X, 30, .inl v_oldReads)), (ad 14, .inl (eI X, 100, .inl v_undos)), (ad 15, .inl (eI X, 103, .inl v_undoAside)), (ad 16, .inl (eI X, 4, .inl v_formula)), (ad 17, .inl (eZ X, 2, .inl v_isKept)), (ad 18, .inl (eI X, 4, .inl v_lanes)), (ad 19, .inl (eI X, 4, .inl v_lengths)), (ad 20, .inl (eI X, 160, .inl v_items))] H L := hW.sub [0, 1, 2, 3, 4, 5, 6, 7, 8, 9, 10, 11, 12, 13, 14, 15, 16, 17, 18, 19, 20] rfl rfl
      show Wx X k 0 0 H L 16 ls [.int r13]
      refine r_bipush (v := 32) C dX8_readsOn_16 (by decide) ?_
      refine r_icmp_ne (tgt := 34) C dX8_readsOn_18 (by decide) (fun c18 => ?_) (fun c18 => ?_)
      · replace h := iF c18 h
        refine r_aload_n C hl 0 dX8_readsOn_34 rfl rfl ?_
        refine r_aload_n C hl 0 dX8_readsOn_35 rfl rfl ?_
        refine r_get C hW 0 rfl rfl iwX8 6 (by decide) w_fl_X8_93 rfl dX8_readsOn_36 ?_
        refine r_put (ws' := [(ad 0, .inr (8, [.ref (ad 1), .ref (ad 2), .int v_taped, .int v_fault, .int v_broken, .int v_brokenAt, .int v_spot, .int v_spot, .int v_token, .int v_number, .ref (ad 3), .ref (ad 4), .ref (ad 5), .ref (ad 6), .ref (ad 7), .ref (ad 8), .ref (ad 9), .ref (ad 10), .int v_isStarted, .ref (ad 11), .ref (ad 12), .ref (ad 13), .int v_evaluated, .int v_moved, .int v_isChanged, .ref (ad 14), .int v_undoMany, .ref (ad 15), .ref (ad 16), .ref (ad 17), .ref (ad 18), .ref (ad 19), .ref (ad 20), .int v_torn, .int v_isAsideChanged])), (ad 1, .inl (eI X, 720, .inl v_state)), (ad 2, .inl (eI X, 320, .inl v_tape)), (ad 3, .inl (eI X, 9, .inl v_ends)), (ad 4, .inl (eI X, 27, .inl v_letters)), (ad 5, .inl (eI X, 30, .inl v_values)), (ad 6, .inl (eZ X, 30, .inl v_isTold)), (ad 7, .inl (eI X, 30, .inl v_waits)), (ad 8, .inl (eI X, 900, .inl v_readsOf)), (ad 9, .inl (eI X, 30, .inl v_readMany)), (ad 10, .inl (eI X, 30, .inl v_heights)), (ad 11, .inl (eI X, 30, .inl v_oldValues)), (ad 12, .inl (eZ X, 30, .inl v_isOldTold)), (ad 13, .inl (eI X, 30, .inl v_oldReads)), (ad 14, .inl (eI X, 100, .inl v_undos)), (ad 15, .inl (eI X, 103, .inl v_undoAside)), (ad 16, .inl (eI X, 4, .inl v_formula)), (ad 17, .inl (eZ X, 2, .inl v_isKept)), (ad 18, .inl (eI X, 4, .inl v_lanes)), (ad 19, .inl (eI X, 4, .inl v_lengths)), (ad 20, .inl (eI X, 160, .inl v_items))]) C hW 0 rfl rfl iwX8 tyX8_ok nmX8 7 (by decide) w_fl_X8_84 rfl (tyX8_ok 7 (by decide)) rfl rfl (Nat.le_of_ble_eq_true rfl) rfl dX8_readsOn_39 (fun H L hW => ?_)
        refine r_aload_n C hl 0 dX8_readsOn_42 rfl rfl ?_
        refine r_aload_n C hl 0 dX8_readsOn_43 rfl rfl ?_
        refine r_get C hW 0 rfl rfl iwX8 6 (by decide) w_fl_X8_93 rfl dX8_readsOn_44 ?_
        obtain ⟨r47, h47, h⟩ := bd1_some h
        refine r_V (wr := []) (np := 1) C hl (mX8_byteAt X ad  v_state v_tape v_taped v_fault v_broken v_brokenAt v_spot v_spot v_token v_number v_ends v_letters v_values v_isTold v_waits v_readsOf v_readMany v_heights v_isStarted v_oldValues v_isOldTold v_oldReads v_evaluated v_moved v_isChanged v_undos v_undoMany v_undoAside v_formula v_isKept v_lanes v_lengths v_items v_torn v_isAsideChanged v_spot r47 h47) hW [0, 1, 2, 3, 4, 5, 6, 7, 8, 9, 10, 11, 12, 13, 14, 15, 16, 17, 18, 19, 20] [] rfl rfl rfl rfl (by decide) 0 rfl rfl w_cd_X8_byteAt w_ml_X8_96 w_im_X8_byteAt w_sel_X8_byteAt w_in_HeightSheetModel (by decide +kernel) rfl ⟨Nat.le_of_ble_eq_true rfl, Nat.le_of_ble_eq_true rfl⟩ ⟨Nat.zero_le _, Nat.zero_le _⟩ (Nat.le_of_ble_eq_true rfl) dX8_readsOn_47 (fun rv w1 H L hp hW => ?_) rfl
        obtain ⟨rfl, rfl⟩ := hp
        replace hW : Wd X k A [(ad 0, .inr (8, [.ref (ad 1), .ref (ad 2), .int v_taped, .int v_fault, .int v_broken, .int v_brokenAt, .int v_spot, .int v_spot, .int v_token, .int v_number, .ref (ad 3), .ref (ad 4), .ref (ad 5), .ref (ad 6), .ref (ad 7), .ref (ad 8), .ref (ad 9), .ref (ad 10), .int v_isStarted, .ref (ad 11), .ref (ad 12), .ref (ad 13), .int v_evaluated, .int v_moved, .int v_isChanged, .ref (ad 14), .int v_undoMany, .ref (ad 15), .ref (ad 16), .ref (ad 17), .ref (ad 18), .ref (ad 19), .ref (ad 20), .int v_torn, .int v_isAsideChanged])), (ad 1, .inl (eI X, 720, .inl v_state)), (ad 2, .inl (eI X, 320, .inl v_tape)), (ad 3, .inl (eI X, 9, .inl v_ends)), (ad 4, .inl (eI X, 27, .inl v_letters)), (ad 5, .inl (eI X, 30, .inl v_values)), (ad 6, .inl (eZ X, 30, .inl v_isTold)), (ad 7, .inl (eI X, 30, .inl v_waits)), (ad 8, .inl (eI X, 900, .inl v_readsOf)), (ad 9, .inl (eI X, 30, .inl v_readMany)), (ad 10, .inl (eI X, 30, .inl v_heights)), (ad 11, .inl (eI X, 30, .inl v_oldValues)), (ad 12, .inl (eZ X, 30, .inl v_isOldTold)), (ad 13, .inl (eI X, 30, .inl v_oldReads)), (ad 14, .inl (eI X, 100, .inl v_undos)), (ad 15, .inl (eI X, 103, .inl v_undoAside)), (ad 16, .inl (eI X, 4, .inl v_formula)), (ad 17, .inl (eZ X, 2, .inl v_isKept)), (ad 18, .inl (eI X, 4, .inl v_lanes)), (ad 19, .inl (eI X, 4, .inl v_lengths)), (ad 20, .inl (eI X, 160, .inl v_items))] H L := hW.sub [0, 1, 2, 3, 4, 5, 6, 7, 8, 9, 10, 11, 12, 13, 14, 15, 16, 17, 18, 19, 20] rfl rfl
        show Wx X k 0 0 H L 50 ls [.int r47]
        refine r_istore_n (lv' := [(1, .int r47), (0, .ref (ad 0))]) C hl dX8_readsOn_50 rfl (by decide) rfl (fun ls hl => ?_)
        refine r_aload_n C hl 1 dX8_readsOn_51 rfl rfl ?_
        refine r_iconst (v := 0) C dX8_readsOn_52 (by decide) ?_
        refine r_put (ws' := [(ad 0, .inr (8, [.ref (ad 1), .ref (ad 2), .int v_taped, .int v_fault, .int v_broken, .int v_brokenAt, .int v_spot, .int v_spot, .int v_token, .int (0 : Int32), .ref (ad 3), .ref (ad 4), .ref (ad 5), .ref (ad 6), .ref (ad 7), .ref (ad 8), .ref (ad 9), .ref (ad 10), .int v_isStarted, .ref (ad 11), .ref (ad 12), .ref (ad 13), .int v_evaluated, .int v_moved, .int v_isChanged, .ref (ad 14), .int v_undoMany, .ref (ad 15), .ref (ad 16), .ref (ad 17), .ref (ad 18), .ref (ad 19), .ref (ad 20), .int v_torn, .int v_isAsideChanged])), (ad 1, .inl (eI X, 720, .inl v_state)), (ad 2, .inl (eI X, 320, .inl v_tape)), (ad 3, .inl (eI X, 9, .inl v_ends)), (ad 4, .inl (eI X, 27, .inl v_letters)), (ad 5, .inl (eI X, 30, .inl v_values)), (ad 6, .inl (eZ X, 30, .inl v_isTold)), (ad 7, .inl (eI X, 30, .inl v_waits)), (ad 8, .inl (eI X, 900, .inl v_readsOf)), (ad 9, .inl (eI X, 30, .inl v_readMany)), (ad 10, .inl (eI X, 30, .inl v_heights)), (ad 11, .inl (eI X, 30, .inl v_oldValues)), (ad 12, .inl (eZ X, 30, .inl v_isOldTold)), (ad 13, .inl (eI X, 30, .inl v_oldReads)), (ad 14, .inl (eI X, 100, .inl v_undos)), (ad 15, .inl (eI X, 103, .inl v_undoAside)), (ad 16, .inl (eI X, 4, .inl v_formula)), (ad 17, .inl (eZ X, 2, .inl v_isKept)), (ad 18, .inl (eI X, 4, .inl v_lanes)), (ad 19, .inl (eI X, 4, .inl v_lengths)), (ad 20, .inl (eI X, 160, .inl v_items))]) C hW 0 rfl rfl iwX8 tyX8_ok nmX8 9 (by decide) w_fl_X8_100 rfl (tyX8_ok 9 (by decide)) rfl rfl (Nat.le_of_ble_eq_true rfl) rfl dX8_readsOn_53 (fun H L hW => ?_)
        refine r_iload_n C hl 0 dX8_readsOn_56 rfl rfl ?_
        refine r_bipush (v := -4) C dX8_readsOn_57 (by decide) ?_
        refine r_icmp_ne (tgt := 70) C dX8_readsOn_59 (by decide) (fun c59 => ?_) (fun c59 => ?_)
        · replace h := iF c59 h
          refine r_iload_n C hl 0 dX8_readsOn_70 rfl rfl ?_
          refine r_i2l C dX8_readsOn_71 ?_
          refine r_ldc2 C w_cL_X8_103 dX8_readsOn_72 ?_
          refine r_ldc2 C w_cL_X8_105 dX8_readsOn_75 ?_
          obtain ⟨r78, h78, h⟩ := bd1_some h
          refine r_S (wr := [(ad 0, .inr (8, [.ref (ad 1), .ref (ad 2), .int v_taped, .int v_fault, .int v_broken, .int v_brokenAt, .int v_spot, .int v_spot, .int v_token, .int (0 : Int32), .ref (ad 3), .ref (ad 4), .ref (ad 5), .ref (ad 6), .ref (ad 7), .ref (ad 8), .ref (ad 9), .ref (ad 10), .int v_isStarted, .ref (ad 11), .ref (ad 12), .ref (ad 13), .int v_evaluated, .int v_moved, .int v_isChanged, .ref (ad 14), .int v_undoMany, .ref (ad 15), .ref (ad 16), .ref (ad 17), .ref (ad 18), .ref (ad 19), .ref (ad 20), .int v_torn, .int v_isAsideChanged])), (ad 1, .inl (eI X, 720, .inl v_state)), (ad 2, .inl (eI X, 320, .inl v_tape)), (ad 3, .inl (eI X, 9, .inl v_ends)), (ad 4, .inl (eI X, 27, .inl v_letters)), (ad 5, .inl (eI X, 30, .inl v_values)), (ad 6, .inl (eZ X, 30, .inl v_isTold)), (ad 7, .inl (eI X, 30, .inl v_waits)), (ad 8, .inl (eI X, 900, .inl v_readsOf)), (ad 9, .inl (eI X, 30, .inl v_readMany)), (ad 10, .inl (eI X, 30, .inl v_heights)), (ad 11, .inl (eI X, 30, .inl v_oldValues)), (ad 12, .inl (eZ X, 30, .inl v_isOldTold)), (ad 13, .inl (eI X, 30, .inl v_oldReads)), (ad 14, .inl (eI X, 100, .inl v_undos)), (ad 15, .inl (eI X, 103, .inl v_undoAside)), (ad 16, .inl (eI X, 4, .inl v_formula)), (ad 17, .inl (eZ X, 2, .inl v_isKept)), (ad 18, .inl (eI X, 4, .inl v_lanes)), (ad 19, .inl (eI X, 4, .inl v_lengths)), (ad 20, .inl (eI X, 160, .inl v_items))]) (np := 3) C hl (mX8_in X    (r47.toInt64) (97 : Int64) (122 : Int64) r78 h78) hW [] [0, 1, 2, 3, 4, 5, 6, 7, 8, 9, 10, 11, 12, 13, 14, 15, 16, 17, 18, 19, 20] rfl rfl rfl rfl (by decide) w_cd_X8_in w_ml_X8_73 w_st_X8_in w_in_HeightSheetModel (by decide +kernel) rfl ⟨Nat.le_of_ble_eq_true rfl, Nat.le_of_ble_eq_true rfl⟩ ⟨Nat.zero_le _, Nat.zero_le _⟩ (Nat.le_of_ble_eq_true rfl) dX8_readsOn_78 (fun rv w1 H L hp hW => ?_) rfl
          obtain ⟨rfl, rfl⟩ := hp
          replace hW : Wd X k A [(ad 0, .inr (8, [.ref (ad 1), .ref (ad 2), .int v_taped, .int v_fault, .int v_broken, .int v_brokenAt, .int v_spot, .int v_spot, .int v_token, .int (0 : Int32), .ref (ad 3), .ref (ad 4), .ref (ad 5), .ref (ad 6), .ref (ad 7), .ref (ad 8), .ref (ad 9), .ref (ad 10), .int v_isStarted, .ref (ad 11), .ref (ad 12), .ref (ad 13), .int v_evaluated, .int v_moved, .int v_isChanged, .ref (ad 14), .int v_undoMany, .ref (ad 15), .ref (ad 16), .ref (ad 17), .ref (ad 18), .ref (ad 19), .ref (ad 20), .int v_torn, .int v_isAsideChanged])), (ad 1, .inl (eI X, 720, .inl v_state)), (ad 2, .inl (eI X, 320, .inl v_tape)), (ad 3, .inl (eI X, 9, .inl v_ends)), (ad 4, .inl (eI X, 27, .inl v_letters)), (ad 5, .inl (eI X, 30, .inl v_values)), (ad 6, .inl (eZ X, 30, .inl v_isTold)), (ad 7, .inl (eI X, 30, .inl v_waits)), (ad 8, .inl (eI X, 900, .inl v_readsOf)), (ad 9, .inl (eI X, 30, .inl v_readMany)), (ad 10, .inl (eI X, 30, .inl v_heights)), (ad 11, .inl (eI X, 30, .inl v_oldValues)), (ad 12, .inl (eZ X, 30, .inl v_isOldTold)), (ad 13, .inl (eI X, 30, .inl v_oldReads)), (ad 14, .inl (eI X, 100, .inl v_undos)), (ad 15, .inl (eI X, 103, .inl v_undoAside)), (ad 16, .inl (eI X, 4, .inl v_formula)), (ad 17, .inl (eZ X, 2, .inl v_isKept)), (ad 18, .inl (eI X, 4, .inl v_lanes)), (ad 19, .inl (eI X, 4, .inl v_lengths)), (ad 20, .inl (eI X, 160, .inl v_items))] H L := hW.sub [0, 1, 2, 3, 4, 5, 6, 7, 8, 9, 10, 11, 12, 13, 14, 15, 16, 17, 18, 19, 20] rfl rfl
          show Wx X k 0 0 H L 81 ls [.int r78]
          refine r_if_eq (tgt := 126) C dX8_readsOn_81 (by decide) (fun c81 => ?_) (fun c81 => ?_)
          · replace h := iT c81 h
            refine r_iload_n C hl 0 dX8_readsOn_126 rfl rfl ?_
            refine r_i2l C dX8_readsOn_127 ?_
            refine r_ldc2 C w_cL_X8_107 dX8_readsOn_128 ?_
            refine r_ldc2 C w_cL_X8_109 dX8_readsOn_131 ?_
            obtain ⟨r134, h134, h⟩ := bd1_some h
            refine r_S (wr := [(ad 0, .inr (8, [.ref (ad 1), .ref (ad 2), .int v_taped, .int v_fault, .int v_broken, .int v_brokenAt, .int v_spot, .int v_spot, .int v_token, .int (0 : Int32), .ref (ad 3), .ref (ad 4), .ref (ad 5), .ref (ad 6), .ref (ad 7), .ref (ad 8), .ref (ad 9), .ref (ad 10), .int v_isStarted, .ref (ad 11), .ref (ad 12), .ref (ad 13), .int v_evaluated, .int v_moved, .int v_isChanged, .ref (ad 14), .int v_undoMany, .ref (ad 15), .ref (ad 16), .ref (ad 17), .ref (ad 18), .ref (ad 19), .ref (ad 20), .int v_torn, .int v_isAsideChanged])), (ad 1, .inl (eI X, 720, .inl v_state)), (ad 2, .inl (eI X, 320, .inl v_tape)), (ad 3, .inl (eI X, 9, .inl v_ends)), (ad 4, .inl (eI X, 27, .inl v_letters)), (ad 5, .inl (eI X, 30, .inl v_values)), (ad 6, .inl (eZ X, 30, .inl v_isTold)), (ad 7, .inl (eI X, 30, .inl v_waits)), (ad 8, .inl (eI X, 900, .inl v_readsOf)), (ad 9, .inl (eI X, 30, .inl v_readMany)), (ad 10, .inl (eI X, 30, .inl v_heights)), (ad 11, .inl (eI X, 30, .inl v_oldValues)), (ad 12, .inl (eZ X, 30, .inl v_isOldTold)), (ad 13, .inl (eI X, 30, .inl v_oldReads)), (ad 14, .inl (eI X, 100, .inl v_undos)), (ad 15, .inl (eI X, 103, .inl v_undoAside)), (ad 16, .inl (eI X, 4, .inl v_formula)), (ad 17, .inl (eZ X, 2, .inl v_isKept)), (ad 18, .inl (eI X, 4, .inl v_lanes)), (ad 19, .inl (eI X, 4, .inl v_lengths)), (ad 20, .inl (eI X, 160, .inl v_items))]) (np := 3) C hl (mX8_in X    (r47.toInt64) (48 : Int64) (57 : Int64) r134 h134) hW [] [0, 1, 2, 3, 4, 5, 6, 7, 8, 9, 10, 11, 12, 13, 14, 15, 16, 17, 18, 19, 20] rfl rfl rfl rfl (by decide) w_cd_X8_in w_ml_X8_73 w_st_X8_in w_in_HeightSheetModel (by decide +kernel) rfl ⟨Nat.le_of_ble_eq_true rfl, Nat.le_of_ble_eq_true rfl⟩ ⟨Nat.zero_le _, Nat.zero_le _⟩ (Nat.le_of_ble_eq_true rfl) dX8_readsOn_134 (fun rv w1 H L hp hW => ?_) rfl
            obtain ⟨rfl, rfl⟩ := hp
            replace hW : Wd X k A [(ad 0, .inr (8, [.ref (ad 1), .ref (ad 2), .int v_taped, .int v_fault, .int v_broken, .int v_brokenAt, .int v_spot, .int v_spot, .int v_token, .int (0 : Int32), .ref (ad 3), .ref (ad 4), .ref (ad 5), .ref (ad 6), .ref (ad 7), .ref (ad 8), .ref (ad 9), .ref (ad 10), .int v_isStarted, .ref (ad 11), .ref (ad 12), .ref (ad 13), .int v_evaluated, .int v_moved, .int v_isChanged, .ref (ad 14), .int v_undoMany, .ref (ad 15), .ref (ad 16), .ref (ad 17), .ref (ad 18), .ref (ad 19), .ref (ad 20), .int v_torn, .int v_isAsideChanged])), (ad 1, .inl (eI X, 720, .inl v_state)), (ad 2, .inl (eI X, 320, .inl v_tape)), (ad 3, .inl (eI X, 9, .inl v_ends)), (ad 4, .inl (eI X, 27, .inl v_letters)), (ad 5, .inl (eI X, 30, .inl v_values)), (ad 6, .inl (eZ X, 30, .inl v_isTold)), (ad 7, .inl (eI X, 30, .inl v_waits)), (ad 8, .inl (eI X, 900, .inl v_readsOf)), (ad 9, .inl (eI X, 30, .inl v_readMany)), (ad 10, .inl (eI X, 30, .inl v_heights)), (ad 11, .inl (eI X, 30, .inl v_oldValues)), (ad 12, .inl (eZ X, 30, .inl v_isOldTold)), (ad 13, .inl (eI X, 30, .inl v_oldReads)), (ad 14, .inl (eI X, 100, .inl v_undos)), (ad 15, .inl (eI X, 103, .inl v_undoAside)), (ad 16, .inl (eI X, 4, .inl v_formula)), (ad 17, .inl (eZ X, 2, .inl v_isKept)), (ad 18, .inl (eI X, 4, .inl v_lanes)), (ad 19, .inl (eI X, 4, .inl v_lengths)), (ad 20, .inl (eI X, 160, .inl v_items))] H L := hW.sub [0, 1, 2, 3, 4, 5, 6, 7, 8, 9, 10, 11, 12, 13, 14, 15, 16, 17, 18, 19, 20] rfl rfl
            show Wx X k 0 0 H L 137 ls [.int r134]
            refine r_if_eq (tgt := 243) C dX8_readsOn_137 (by decide) (fun c137 => ?_) (fun c137 => ?_)
            · replace h := iT c137 h
              refine r_aload_n C hl 1 dX8_readsOn_243 rfl rfl ?_
              refine r_iconst (v := 3) C dX8_readsOn_244 (by decide) ?_
              refine r_put (ws' := [(ad 0, .inr (8, [.ref (ad 1), .ref (ad 2), .int v_taped, .int v_fault, .int v_broken, .int v_brokenAt, .int v_spot, .int v_spot, .int (3 : Int32), .int (0 : Int32), .ref (ad 3), .ref (ad 4), .ref (ad 5), .ref (ad 6), .ref (ad 7), .ref (ad 8), .ref (ad 9), .ref (ad 10), .int v_isStarted, .ref (ad 11), .ref (ad 12), .ref (ad 13), .int v_evaluated, .int v_moved, .int v_isChanged, .ref (ad 14), .int v_undoMany, .ref (ad 15), .ref (ad 16), .ref (ad 17), .ref (ad 18), .ref (ad 19), .ref (ad 20), .int v_torn, .int v_isAsideChanged])), (ad 1, .inl (eI X, 720, .inl v_state)), (ad 2, .inl (eI X, 320, .inl v_tape)), (ad 3, .inl (eI X, 9, .inl v_ends)), (ad 4, .inl (eI X, 27, .inl v_letters)), (ad 5, .inl (eI X, 30, .inl v_values)), (ad 6, .inl (eZ X, 30, .inl v_isTold)), (ad 7, .inl (eI X, 30, .inl v_waits)), (ad 8, .inl (eI X, 900, .inl v_readsOf)), (ad 9, .inl (eI X, 30, .inl v_readMany)), (ad 10, .inl (eI X, 30, .inl v_heights)), (ad 11, .inl (eI X, 30, .inl v_oldValues)), (ad 12, .inl (eZ X, 30, .inl v_isOldTold)), (ad 13, .inl (eI X, 30, .inl v_oldReads)), (ad 14, .inl (eI X, 100, .inl v_undos)), (ad 15, .inl (eI X, 103, .inl v_undoAside)), (ad 16, .inl (eI X, 4, .inl v_formula)), (ad 17, .inl (eZ X, 2, .inl v_isKept)), (ad 18, .inl (eI X, 4, .inl v_lanes)), (ad 19, .inl (eI X, 4, .inl v_lengths)), (ad 20, .inl (eI X, 160, .inl v_items))]) C hW 0 rfl rfl iwX8 tyX8_ok nmX8 8 (by decide) w_fl_X8_90 rfl (tyX8_ok 8 (by decide)) rfl rfl (Nat.le_of_ble_eq_true rfl) rfl dX8_readsOn_245 (fun H L hW => ?_)
              refine r_aload_n C hl 1 dX8_readsOn_248 rfl rfl ?_
              refine r_dup C rfl dX8_readsOn_249 ?_
              refine r_get C hW 0 rfl rfl iwX8 6 (by decide) w_fl_X8_93 rfl dX8_readsOn_250 ?_
              refine r_iconst (v := 1) C dX8_readsOn_253 (by decide) ?_
              refine r_iadd C dX8_readsOn_254 ?_
              refine r_put (ws' := [(ad 0, .inr (8, [.ref (ad 1), .ref (ad 2), .int v_taped, .int v_fault, .int v_broken, .int v_brokenAt, .int (v_spot + (1 : Int32)), .int v_spot, .int (3 : Int32), .int (0 : Int32), .ref (ad 3), .ref (ad 4), .ref (ad 5), .ref (ad 6), .ref (ad 7), .ref (ad 8), .ref (ad 9), .ref (ad 10), .int v_isStarted, .ref (ad 11), .ref (ad 12), .ref (ad 13), .int v_evaluated, .int v_moved, .int v_isChanged, .ref (ad 14), .int v_undoMany, .ref (ad 15), .ref (ad 16), .ref (ad 17), .ref (ad 18), .ref (ad 19), .ref (ad 20), .int v_torn, .int v_isAsideChanged])), (ad 1, .inl (eI X, 720, .inl v_state)), (ad 2, .inl (eI X, 320, .inl v_tape)), (ad 3, .inl (eI X, 9, .inl v_ends)), (ad 4, .inl (eI X, 27, .inl v_letters)), (ad 5, .inl (eI X, 30, .inl v_values)), (ad 6, .inl (eZ X, 30, .inl v_isTold)), (ad 7, .inl (eI X, 30, .inl v_waits)), (ad 8, .inl (eI X, 900, .inl v_readsOf)), (ad 9, .inl (eI X, 30, .inl v_readMany)), (ad 10, .inl (eI X, 30, .inl v_heights)), (ad 11, .inl (eI X, 30, .inl v_oldValues)), (ad 12, .inl (eZ X, 30, .inl v_isOldTold)), (ad 13, .inl (eI X, 30, .inl v_oldReads)), (ad 14, .inl (eI X, 100, .inl v_undos)), (ad 15, .inl (eI X, 103, .inl v_undoAside)), (ad 16, .inl (eI X, 4, .inl v_formula)), (ad 17, .inl (eZ X, 2, .inl v_isKept)), (ad 18, .inl (eI X, 4, .inl v_lanes)), (ad 19, .inl (eI X, 4, .inl v_lengths)), (ad 20, .inl (eI X, 160, .inl v_items))]) C hW 0 rfl rfl iwX8 tyX8_ok nmX8 6 (by decide) w_fl_X8_93 rfl (tyX8_ok 6 (by decide)) rfl rfl (Nat.le_of_ble_eq_true rfl) rfl dX8_readsOn_255 (fun H L hW => ?_)
              refine r_iload_n C hl 0 dX8_readsOn_258 rfl rfl ?_
              refine r_bipush (v := 59) C dX8_readsOn_259 (by decide) ?_
              refine r_icmp_eq (tgt := 269) C dX8_readsOn_261 (by decide) (fun c261 => ?_) (fun c261 => ?_)
              · replace h := iT c261 h
                exact r_vret C hq hW (by obtain rfl := Option.some.inj h; exact ⟨rfl, rfl⟩) dX8_readsOn_269
              · replace h := iF c261 h
                refine r_aload_n C hl 1 dX8_readsOn_264 rfl rfl ?_
                refine r_iconst (v := 1) C dX8_readsOn_265 (by decide) ?_
                obtain ⟨c266_broken, c266_brokenAt, h266, h⟩ := bd2_some h
                refine r_V (wr := []) (np := 1) C hl (mX8_fails X ad  v_state v_tape v_taped v_fault v_broken v_brokenAt (v_spot + (1 : Int32)) v_spot (3 : Int32) (0 : Int32) v_ends v_letters v_values v_isTold v_waits v_readsOf v_readMany v_heights v_isStarted v_oldValues v_isOldTold v_oldReads v_evaluated v_moved v_isChanged v_undos v_undoMany v_undoAside v_formula v_isKept v_lanes v_lengths v_items v_torn v_isAsideChanged (1 : Int32) (c266_broken, c266_brokenAt) h266) hW [0, 1, 2, 3, 4, 5, 6, 7, 8, 9, 10, 11, 12, 13, 14, 15, 16, 17, 18, 19, 20] [] rfl rfl rfl rfl (by decide) 0 rfl rfl w_cd_X8_fails w_ml_X8_111 w_im_X8_fails w_sel_X8_fails w_in_HeightSheetModel (by decide +kernel) rfl ⟨Nat.le_of_ble_eq_true rfl, Nat.le_of_ble_eq_true rfl⟩ ⟨Nat.zero_le _, Nat.zero_le _⟩ (Nat.le_of_ble_eq_true rfl) dX8_readsOn_266 (fun rv w1 H L hp hW => ?_) rfl
                obtain ⟨rfl, rfl⟩ := hp
                replace hW : Wd X k A [(ad 0, .inr (8, [.ref (ad 1), .ref (ad 2), .int v_taped, .int v_fault, .int c266_broken, .int c266_brokenAt, .int (v_spot + (1 : Int32)), .int v_spot, .int (3 : Int32), .int (0 : Int32), .ref (ad 3), .ref (ad 4), .ref (ad 5), .ref (ad 6), .ref (ad 7), .ref (ad 8), .ref (ad 9), .ref (ad 10), .int v_isStarted, .ref (ad 11), .ref (ad 12), .ref (ad 13), .int v_evaluated, .int v_moved, .int v_isChanged, .ref (ad 14), .int v_undoMany, .ref (ad 15), .ref (ad 16), .ref (ad 17), .ref (ad 18), .ref (ad 19), .ref (ad 20), .int v_torn, .int v_isAsideChanged])), (ad 1, .inl (eI X, 720, .inl v_state)), (ad 2, .inl (eI X, 320, .inl v_tape)), (ad 3, .inl (eI X, 9, .inl v_ends)), (ad 4, .inl (eI X, 27, .inl v_letters)), (ad 5, .inl (eI X, 30, .inl v_values)), (ad 6, .inl (eZ X, 30, .inl v_isTold)), (ad 7, .inl (eI X, 30, .inl v_waits)), (ad 8, .inl (eI X, 900, .inl v_readsOf)), (ad 9, .inl (eI X, 30, .inl v_readMany)), (ad 10, .inl (eI X, 30, .inl v_heights)), (ad 11, .inl (eI X, 30, .inl v_oldValues)), (ad 12, .inl (eZ X, 30, .inl v_isOldTold)), (ad 13, .inl (eI X, 30, .inl v_oldReads)), (ad 14, .inl (eI X, 100, .inl v_undos)), (ad 15, .inl (eI X, 103, .inl v_undoAside)), (ad 16, .inl (eI X, 4, .inl v_formula)), (ad 17, .inl (eZ X, 2, .inl v_isKept)), (ad 18, .inl (eI X, 4, .inl v_lanes)), (ad 19, .inl (eI X, 4, .inl v_lengths)), (ad 20, .inl (eI X, 160, .inl v_items))] H L := hW.sub [0, 1, 2, 3, 4, 5, 6, 7, 8, 9, 10, 11, 12, 13, 14, 15, 16, 17, 18, 19, 20] rfl rfl
                show Wx X k 0 0 H L 269 ls []
                exact r_vret C hq hW (by obtain rfl := Option.some.inj h; exact ⟨rfl, rfl⟩) dX8_readsOn_269
            · replace h := iF c137 h
              exact K140 v_broken v_brokenAt v_spot v_token fu v_spot (0 : Int32) H L ls hW (lv_sub hl [1] rfl) h
          · replace h := iF c81 h
            exact K84 v_broken v_brokenAt v_spot v_token (0 : Int32) fu v_spot H L ls hW (lv_sub hl [1] rfl) h
        · replace h := iT c59 h
          refine r_aload_n C hl 1 dX8_readsOn_62 rfl rfl ?_
          refine r_iconst (v := 0) C dX8_readsOn_63 (by decide) ?_
          refine r_put (ws' := [(ad 0, .inr (8, [.ref (ad 1), .ref (ad 2), .int v_taped, .int v_fault, .int v_broken, .int v_brokenAt, .int v_spot, .int v_spot, .int (0 : Int32), .int (0 : Int32), .ref (ad 3), .ref (ad 4), .ref (ad 5), .ref (ad 6), .ref (ad 7), .ref (ad 8), .ref (ad 9), .ref (ad 10), .int v_isStarted, .ref (ad 11), .ref (ad 12), .ref (ad 13), .int v_evaluated, .int v_moved, .int v_isChanged, .ref (ad 14), .int v_undoMany, .ref (ad 15), .ref (ad 16), .ref (ad 17), .ref (ad 18), .ref (ad 19), .ref (ad 20), .int v_torn, .int v_isAsideChanged])), (ad 1, .inl (eI X, 720, .inl v_state)), (ad 2, .inl (eI X, 320, .inl v_tape)), (ad 3, .inl (eI X, 9, .inl v_ends)), (ad 4, .inl (eI X, 27, .inl v_letters)), (ad 5, .inl (eI X, 30, .inl v_values)), (ad 6, .inl (eZ X, 30, .inl v_isTold)), (ad 7, .inl (eI X, 30, .inl v_waits)), (ad 8, .inl (eI X, 900, .inl v_readsOf)), (ad 9, .inl (eI X, 30, .inl v_readMany)), (ad 10, .inl (eI X, 30, .inl v_heights)), (ad 11, .inl (eI X, 30, .inl v_oldValues)), (ad 12, .inl (eZ X, 30, .inl v_isOldTold)), (ad 13, .inl (eI X, 30, .inl v_oldReads)), (ad 14, .inl (eI X, 100, .inl v_undos)), (ad 15, .inl (eI X, 103, .inl v_undoAside)), (ad 16, .inl (eI X, 4, .inl v_formula)), (ad 17, .inl (eZ X, 2, .inl v_isKept)), (ad 18, .inl (eI X, 4, .inl v_lanes)), (ad 19, .inl (eI X, 4, .inl v_lengths)), (ad 20, .inl (eI X, 160, .inl v_items))]) C hW 0 rfl rfl iwX8 tyX8_ok nmX8 8 (by decide) w_fl_X8_90 rfl (tyX8_ok 8 (by decide)) rfl rfl (Nat.le_of_ble_eq_true rfl) rfl dX8_readsOn_64 (fun H L hW => ?_)
          refine r_goto (tgt := 269) C dX8_readsOn_67 (by decide) ?_
          exact r_vret C hq hW (by obtain rfl := Option.some.inj h; exact ⟨rfl, rfl⟩) dX8_readsOn_269
      · replace h := iT c18 h
        refine r_aload_n C hl 0 dX8_readsOn_21 rfl rfl ?_
        refine r_dup C rfl dX8_readsOn_22 ?_
        refine r_get C hW 0 rfl rfl iwX8 6 (by decide) w_fl_X8_93 rfl dX8_readsOn_23 ?_
        refine r_iconst (v := 1) C dX8_readsOn_26 (by decide) ?_
        refine r_iadd C dX8_readsOn_27 ?_
        refine r_put (ws' := [(ad 0, .inr (8, [.ref (ad 1), .ref (ad 2), .int v_taped, .int v_fault, .int v_broken, .int v_brokenAt, .int (v_spot + (1 : Int32)), .int v_here, .int v_token, .int v_number, .ref (ad 3), .ref (ad 4), .ref (ad 5), .ref (ad 6), .ref (ad 7), .ref (ad 8), .ref (ad 9), .ref (ad 10), .int v_isStarted, .ref (ad 11), .ref (ad 12), .ref (ad 13), .int v_evaluated, .int v_moved, .int v_isChanged, .ref (ad 14), .int v_undoMany, .ref (ad 15), .ref (ad 16), .ref (ad 17), .ref (ad 18), .ref (ad 19), .ref (ad 20), .int v_torn, .int v_isAsideChanged])), (ad 1, .inl (eI X, 720, .inl v_state)), (ad 2, .inl (eI X, 320, .inl v_tape)), (ad 3, .inl (eI X, 9, .inl v_ends)), (ad 4, .inl (eI X, 27, .inl v_letters)), (ad 5, .inl (eI X, 30, .inl v_values)), (ad 6, .inl (eZ X, 30, .inl v_isTold)), (ad 7, .inl (eI X, 30, .inl v_waits)), (ad 8, .inl (eI X, 900, .inl v_readsOf)), (ad 9, .inl (eI X, 30, .inl v_readMany)), (ad 10, .inl (eI X, 30, .inl v_heights)), (ad 11, .inl (eI X, 30, .inl v_oldValues)), (ad 12, .inl (eZ X, 30, .inl v_isOldTold)), (ad 13, .inl (eI X, 30, .inl v_oldReads)), (ad 14, .inl (eI X, 100, .inl v_undos)), (ad 15, .inl (eI X, 103, .inl v_undoAside)), (ad 16, .inl (eI X, 4, .inl v_formula)), (ad 17, .inl (eZ X, 2, .inl v_isKept)), (ad 18, .inl (eI X, 4, .inl v_lanes)), (ad 19, .inl (eI X, 4, .inl v_lengths)), (ad 20, .inl (eI X, 160, .inl v_items))]) C hW 0 rfl rfl iwX8 tyX8_ok nmX8 6 (by decide) w_fl_X8_93 rfl (tyX8_ok 6 (by decide)) rfl rfl (Nat.le_of_ble_eq_true rfl) rfl dX8_readsOn_28 (fun H L hW => ?_)
        refine r_goto (tgt := 8) C dX8_readsOn_31 (by decide) ?_
        exact ih8 (v_spot + (1 : Int32)) H L ls hW hl h
  unfold fX8_readsOn at h
  refine r_aload_n C hl 0 dX8_readsOn_0 rfl rfl ?_
  refine r_get C hW 0 rfl rfl iwX8 4 (by decide) w_fl_X8_81 rfl dX8_readsOn_1 ?_
  refine r_if_le (tgt := 8) C dX8_readsOn_4 (by decide) (fun c4 => ?_) (fun c4 => ?_)
  · replace h := iT c4 h
    exact K8 v_broken v_brokenAt v_here v_token v_number fu v_spot H L ls hW hl h
  · replace h := iF c4 h
    exact r_vret C hq hW (by obtain rfl := Option.some.inj h; exact ⟨rfl, rfl⟩) dX8_readsOn_7
def fX8_numberRead_j62 (v_tape : (Nat → Int32)) (v_taped : Int32) (p1 : Int32) (p2 : Int32)  (v_broken : Int32) (v_brokenAt : Int32) (v_spot : Int32) (v_here : Int32) (v_token : Int32) (v_number : Int32) (s0 : Int32) : Option (Int32 × Int32 × Int32 × Int32 × Int32 × Int32 × Int32) :=
  bd6 (fX8_readsOn v_tape v_taped v_broken v_brokenAt v_spot v_here v_token v_number) fun c64_broken c64_brokenAt c64_spot c64_here c64_token c64_number =>
  some (s0, c64_broken, c64_brokenAt, c64_spot, c64_here, c64_token, c64_number)
def fX8_numberRead_j47 (v_tape : (Nat → Int32)) (v_taped : Int32) (p1 : Int32) (p2 : Int32)  (v_broken : Int32) (v_brokenAt : Int32) (v_spot : Int32) (v_here : Int32) (v_token : Int32) (v_number : Int32) : Option (Int32 × Int32 × Int32 × Int32 × Int32 × Int32 × Int32) :=
  if v_broken = (0 : Int32) then
    fX8_numberRead_j62 v_tape v_taped p1 p2  v_broken v_brokenAt v_spot v_here v_token v_number v_number
  else
    fX8_numberRead_j62 v_tape v_taped p1 p2  v_broken v_brokenAt v_spot v_here v_token v_number p1
def fX8_numberRead_j20 (v_tape : (Nat → Int32)) (v_taped : Int32) (p1 : Int32) (p2 : Int32)  (v_broken : Int32) (v_brokenAt : Int32) (v_spot : Int32) (v_here : Int32) (v_token : Int32) (v_number : Int32) : Option (Int32 × Int32 × Int32 × Int32 × Int32 × Int32 × Int32) :=
  if v_broken = (0 : Int32) then
    bd1 (fX8_in (v_number.toInt64) (p1.toInt64) (p2.toInt64)) fun r36 =>
    if r36 = (0 : Int32) then
      bd2 (fX8_fails v_broken v_brokenAt v_here (3 : Int32)) fun c44_broken c44_brokenAt =>
      fX8_numberRead_j47 v_tape v_taped p1 p2  c44_broken c44_brokenAt v_spot v_here v_token v_number
    else
      fX8_numberRead_j47 v_tape v_taped p1 p2  v_broken v_brokenAt v_spot v_here v_token v_number
  else
    fX8_numberRead_j47 v_tape v_taped p1 p2  v_broken v_brokenAt v_spot v_here v_token v_number
def fX8_numberRead (v_tape : (Nat → Int32)) (v_taped : Int32) (v_broken : Int32) (v_brokenAt : Int32) (v_spot : Int32) (v_here : Int32) (v_token : Int32) (v_number : Int32) (p1 : Int32) (p2 : Int32) : Option (Int32 × Int32 × Int32 × Int32 × Int32 × Int32 × Int32) :=
  if v_broken = (0 : Int32) then
    if v_token = (2 : Int32) then
      fX8_numberRead_j20 v_tape v_taped p1 p2  v_broken v_brokenAt v_spot v_here v_token v_number
    else
      bd2 (fX8_fails v_broken v_brokenAt v_here (2 : Int32)) fun c17_broken c17_brokenAt =>
      fX8_numberRead_j20 v_tape v_taped p1 p2  c17_broken c17_brokenAt v_spot v_here v_token v_number
  else
    fX8_numberRead_j20 v_tape v_taped p1 p2  v_broken v_brokenAt v_spot v_here v_token v_number
set_option maxRecDepth 100000 in
set_option maxHeartbeats 8000000 in
theorem mX8_numberRead (X : Ev) (ad : Nat → Nat) (v_state : (Nat → Int32)) (v_tape : (Nat → Int32)) (v_taped : Int32) (v_fault : Int32) (v_broken : Int32) (v_brokenAt : Int32) (v_spot : Int32) (v_here : Int32) (v_token : Int32) (v_number : Int32) (v_ends : (Nat → Int32)) (v_letters : (Nat → Int32)) (v_values : (Nat → Int32)) (v_isTold : (Nat → Int32)) (v_waits : (Nat → Int32)) (v_readsOf : (Nat → Int32)) (v_readMany : (Nat → Int32)) (v_heights : (Nat → Int32)) (v_isStarted : Int32) (v_oldValues : (Nat → Int32)) (v_isOldTold : (Nat → Int32)) (v_oldReads : (Nat → Int32)) (v_evaluated : Int32) (v_moved : Int32) (v_isChanged : Int32) (v_undos : (Nat → Int32)) (v_undoMany : Int32) (v_undoAside : (Nat → Int32)) (v_formula : (Nat → Int32)) (v_isKept : (Nat → Int32)) (v_lanes : (Nat → Int32)) (v_lengths : (Nat → Int32)) (v_items : (Nat → Int32)) (v_torn : Int32) (v_isAsideChanged : Int32) (p1 : Int32) (p2 : Int32) (o : Int32 × Int32 × Int32 × Int32 × Int32 × Int32 × Int32) (h : fX8_numberRead v_tape v_taped v_broken v_brokenAt v_spot v_here v_token v_number p1 p2 = some o) : Ctr X yX8_numberRead cX8_numberRead 4 (some .int) 2 46 0 0 [.ref (ad 0), .int p1, .int p2] [(ad 0, .inr (8, [.ref (ad 1), .ref (ad 2), .int v_taped, .int v_fault, .int v_broken, .int v_brokenAt, .int v_spot, .int v_here, .int v_token, .int v_number, .ref (ad 3), .ref (ad 4), .ref (ad 5), .ref (ad 6), .ref (ad 7), .ref (ad 8), .ref (ad 9), .ref (ad 10), .int v_isStarted, .ref (ad 11), .ref (ad 12), .ref (ad 13), .int v_evaluated, .int v_moved, .int v_isChanged, .ref (ad 14), .int v_undoMany, .ref (ad 15), .ref (ad 16), .ref (ad 17), .ref (ad 18), .ref (ad 19), .ref (ad 20), .int v_torn, .int v_isAsideChanged])), (ad 1, .inl (eI X, 720, .inl v_state)), (ad 2, .inl (eI X, 320, .inl v_tape)), (ad 3, .inl (eI X, 9, .inl v_ends)), (ad 4, .inl (eI X, 27, .inl v_letters)), (ad 5, .inl (eI X, 30, .inl v_values)), (ad 6, .inl (eZ X, 30, .inl v_isTold)), (ad 7, .inl (eI X, 30, .inl v_waits)), (ad 8, .inl (eI X, 900, .inl v_readsOf)), (ad 9, .inl (eI X, 30, .inl v_readMany)), (ad 10, .inl (eI X, 30, .inl v_heights)), (ad 11, .inl (eI X, 30, .inl v_oldValues)), (ad 12, .inl (eZ X, 30, .inl v_isOldTold)), (ad 13, .inl (eI X, 30, .inl v_oldReads)), (ad 14, .inl (eI X, 100, .inl v_undos)), (ad 15, .inl (eI X, 103, .inl v_undoAside)), (ad 16, .inl (eI X, 4, .inl v_formula)), (ad 17, .inl (eZ X, 2, .inl v_isKept)), (ad 18, .inl (eI X, 4, .inl v_lanes)), (ad 19, .inl (eI X, 4, .inl v_lengths)), (ad 20, .inl (eI X, 160, .inl v_items))] (De (some (.int o.1)) [(ad 0, .inr (8, [.ref (ad 1), .ref (ad 2), .int v_taped, .int v_fault, .int (o.2.1), .int (o.2.2.1), .int (o.2.2.2.1), .int (o.2.2.2.2.1), .int (o.2.2.2.2.2.1), .int (o.2.2.2.2.2.2), .ref (ad 3), .ref (ad 4), .ref (ad 5), .ref (ad 6), .ref (ad 7), .ref (ad 8), .ref (ad 9), .ref (ad 10), .int v_isStarted, .ref (ad 11), .ref (ad 12), .ref (ad 13), .int v_evaluated, .int v_moved, .int v_isChanged, .ref (ad 14), .int v_undoMany, .ref (ad 15), .ref (ad 16), .ref (ad 17), .ref (ad 18), .ref (ad 19), .ref (ad 20), .int v_torn, .int v_isAsideChanged])), (ad 1, .inl (eI X, 720, .inl v_state)), (ad 2, .inl (eI X, 320, .inl v_tape)), (ad 3, .inl (eI X, 9, .inl v_ends)), (ad 4, .inl (eI X, 27, .inl v_letters)), (ad 5, .inl (eI X, 30, .inl v_values)), (ad 6, .inl (eZ X, 30, .inl v_isTold)), (ad 7, .inl (eI X, 30, .inl v_waits)), (ad 8, .inl (eI X, 900, .inl v_readsOf)), (ad 9, .inl (eI X, 30, .inl v_readMany)), (ad 10, .inl (eI X, 30, .inl v_heights)), (ad 11, .inl (eI X, 30, .inl v_oldValues)), (ad 12, .inl (eZ X, 30, .inl v_isOldTold)), (ad 13, .inl (eI X, 30, .inl v_oldReads)), (ad 14, .inl (eI X, 100, .inl v_undos)), (ad 15, .inl (eI X, 103, .inl v_undoAside)), (ad 16, .inl (eI X, 4, .inl v_formula)), (ad 17, .inl (eZ X, 2, .inl v_isKept)), (ad 18, .inl (eI X, 4, .inl v_lanes)), (ad 19, .inl (eI X, 4, .inl v_lengths)), (ad 20, .inl (eI X, 160, .inl v_items))]) := by
  refine Ctr.start (by decide) (Nat.le_of_ble_eq_true rfl) (fun k A ls C hq hin hW hl => ?_)
  replace C : Cx X k cX8_numberRead 4 (some .int) RX8 A 2 46 0 0 := C
  replace hl : lv_has ls 4 [(0, .ref (ad 0)), (1, .int p1), (2, .int p2)] := hl
  suffices hh : ∀ (H : Heap) (L : List Loc), Wd X k A [(ad 0, .inr (8, [.ref (ad 1), .ref (ad 2), .int v_taped, .int v_fault, .int v_broken, .int v_brokenAt, .int v_spot, .int v_here, .int v_token, .int v_number, .ref (ad 3), .ref (ad 4), .ref (ad 5), .ref (ad 6), .ref (ad 7), .ref (ad 8), .ref (ad 9), .ref (ad 10), .int v_isStarted, .ref (ad 11), .ref (ad 12), .ref (ad 13), .int v_evaluated, .int v_moved, .int v_isChanged, .ref (ad 14), .int v_undoMany, .ref (ad 15), .ref (ad 16), .ref (ad 17), .ref (ad 18), .ref (ad 19), .ref (ad 20), .int v_torn, .int v_isAsideChanged])), (ad 1, .inl (eI X, 720, .inl v_state)), (ad 2, .inl (eI X, 320, .inl v_tape)), (ad 3, .inl (eI X, 9, .inl v_ends)), (ad 4, .inl (eI X, 27, .inl v_letters)), (ad 5, .inl (eI X, 30, .inl v_values)), (ad 6, .inl (eZ X, 30, .inl v_isTold)), (ad 7, .inl (eI X, 30, .inl v_waits)), (ad 8, .inl (eI X, 900, .inl v_readsOf)), (ad 9, .inl (eI X, 30, .inl v_readMany)), (ad 10, .inl (eI X, 30, .inl v_heights)), (ad 11, .inl (eI X, 30, .inl v_oldValues)), (ad 12, .inl (eZ X, 30, .inl v_isOldTold)), (ad 13, .inl (eI X, 30, .inl v_oldReads)), (ad 14, .inl (eI X, 100, .inl v_undos)), (ad 15, .inl (eI X, 103, .inl v_undoAside)), (ad 16, .inl (eI X, 4, .inl v_formula)), (ad 17, .inl (eZ X, 2, .inl v_isKept)), (ad 18, .inl (eI X, 4, .inl v_lanes)), (ad 19, .inl (eI X, 4, .inl v_lengths)), (ad 20, .inl (eI X, 160, .inl v_items))] H L → Wx X k 0 0 H L 0 ls [] from hh _ _ hW
  clear hW
  intro H L hW
  have K62 : ∀ (v_broken : Int32), ∀ (v_brokenAt : Int32), ∀ (v_spot : Int32), ∀ (v_here : Int32), ∀ (v_token : Int32), ∀ (v_number : Int32), ∀ (s0 : Int32), ∀ (H : Heap) (L : List Loc) (ls : Array Slot), Wd X k A [(ad 0, .inr (8, [.ref (ad 1), .ref (ad 2), .int v_taped, .int v_fault, .int v_broken, .int v_brokenAt, .int v_spot, .int v_here, .int v_token, .int v_number, .ref (ad 3), .ref (ad 4), .ref (ad 5), .ref (ad 6), .ref (ad 7), .ref (ad 8), .ref (ad 9), .ref (ad 10), .int v_isStarted, .ref (ad 11), .ref (ad 12), .ref (ad 13), .int v_evaluated, .int v_moved, .int v_isChanged, .ref (ad 14), .int v_undoMany, .ref (ad 15), .ref (ad 16), .ref (ad 17), .ref (ad 18), .ref (ad 19), .ref (ad 20), .int v_torn, .int v_isAsideChanged])), (ad 1, .inl (eI X, 720, .inl v_state)), (ad 2, .inl (eI X, 320, .inl v_tape)), (ad 3, .inl (eI X, 9, .inl v_ends)), (ad 4, .inl (eI X, 27, .inl v_letters)), (ad 5, .inl (eI X, 30, .inl v_values)), (ad 6, .inl (eZ X, 30, .inl v_isTold)), (ad 7, .inl (eI X, 30, .inl v_waits)), (ad 8, .inl (eI X, 900, .inl v_readsOf)), (ad 9, .inl (eI X, 30, .inl v_readMany)), (ad 10, .inl (eI X, 30, .inl v_heights)), (ad 11, .inl (eI X, 30, .inl v_oldValues)), (ad 12, .inl (eZ X, 30, .inl v_isOldTold)), (ad 13, .inl (eI X, 30, .inl v_oldReads)), (ad 14, .inl (eI X, 100, .inl v_undos)), (ad 15, .inl (eI X, 103, .inl v_undoAside)), (ad 16, .inl (eI X, 4, .inl v_formula)), (ad 17, .inl (eZ X, 2, .inl v_isKept)), (ad 18, .inl (eI X, 4, .inl v_lanes)), (ad 19, .inl (eI X, 4, .inl v_lengths)), (ad 20, .inl (eI X, 160, .inl v_items))] H L → lv_has ls 4 [(0, .ref (ad 0))] → fX8_numberRead_j62 v_tape v_taped p1 p2  v_broken v_brokenAt v_spot v_here v_token v_number s0 = some o → Wx X k 0 0 H L 62 ls [.int s0] := by
    intro v_broken v_brokenAt v_spot v_here v_token v_number s0 H L ls hW hl h
    unfold fX8_numberRead_j62 at h
    refine r_istore_n (lv' := [(3, .int s0), (0, .ref (ad 0))]) C hl dX8_numberRead_62 rfl (by decide) rfl (fun ls hl => ?_)
    refine r_aload_n C hl 1 dX8_numberRead_63 rfl rfl ?_
    obtain ⟨c64_broken, c64_brokenAt, c64_spot, c64_here, c64_token, c64_number, h64, h⟩ := bd6_some h
    refine r_V (wr := []) (np := 0) C hl (mX8_readsOn X ad  v_state v_tape v_taped v_fault v_broken v_brokenAt v_spot v_here v_token v_number v_ends v_letters v_values v_isTold v_waits v_readsOf v_readMany v_heights v_isStarted v_oldValues v_isOldTold v_oldReads v_evaluated v_moved v_isChanged v_undos v_undoMany v_undoAside v_formula v_isKept v_lanes v_lengths v_items v_torn v_isAsideChanged  (c64_broken, c64_brokenAt, c64_spot, c64_here, c64_token, c64_number) h64) hW [0, 1, 2, 3, 4, 5, 6, 7, 8, 9, 10, 11, 12, 13, 14, 15, 16, 17, 18, 19, 20] [] rfl rfl rfl rfl (by decide) 0 rfl rfl w_cd_X8_readsOn w_ml_X8_115 w_im_X8_readsOn w_sel_X8_readsOn w_in_HeightSheetModel (by decide +kernel) rfl ⟨Nat.le_of_ble_eq_true rfl, Nat.le_of_ble_eq_true rfl⟩ ⟨Nat.zero_le _, Nat.zero_le _⟩ (Nat.le_of_ble_eq_true rfl) dX8_numberRead_64 (fun rv w1 H L hp hW => ?_) rfl
    obtain ⟨rfl, rfl⟩ := hp
    replace hW : Wd X k A [(ad 0, .inr (8, [.ref (ad 1), .ref (ad 2), .int v_taped, .int v_fault, .int c64_broken, .int c64_brokenAt, .int c64_spot, .int c64_here, .int c64_token, .int c64_number, .ref (ad 3), .ref (ad 4), .ref (ad 5), .ref (ad 6), .ref (ad 7), .ref (ad 8), .ref (ad 9), .ref (ad 10), .int v_isStarted, .ref (ad 11), .ref (ad 12), .ref (ad 13), .int v_evaluated, .int v_moved, .int v_isChanged, .ref (ad 14), .int v_undoMany, .ref (ad 15), .ref (ad 16), .ref (ad 17), .ref (ad 18), .ref (ad 19), .ref (ad 20), .int v_torn, .int v_isAsideChanged])), (ad 1, .inl (eI X, 720, .inl v_state)), (ad 2, .inl (eI X, 320, .inl v_tape)), (ad 3, .inl (eI X, 9, .inl v_ends)), (ad 4, .inl (eI X, 27, .inl v_letters)), (ad 5, .inl (eI X, 30, .inl v_values)), (ad 6, .inl (eZ X, 30, .inl v_isTold)), (ad 7, .inl (eI X, 30, .inl v_waits)), (ad 8, .inl (eI X, 900, .inl v_readsOf)), (ad 9, .inl (eI X, 30, .inl v_readMany)), (ad 10, .inl (eI X, 30, .inl v_heights)), (ad 11, .inl (eI X, 30, .inl v_oldValues)), (ad 12, .inl (eZ X, 30, .inl v_isOldTold)), (ad 13, .inl (eI X, 30, .inl v_oldReads)), (ad 14, .inl (eI X, 100, .inl v_undos)), (ad 15, .inl (eI X, 103, .inl v_undoAside)), (ad 16, .inl (eI X, 4, .inl v_formula)), (ad 17, .inl (eZ X, 2, .inl v_isKept)), (ad 18, .inl (eI X, 4, .inl v_lanes)), (ad 19, .inl (eI X, 4, .inl v_lengths)), (ad 20, .inl (eI X, 160, .inl v_items))] H L := hW.sub [0, 1, 2, 3, 4, 5, 6, 7, 8, 9, 10, 11, 12, 13, 14, 15, 16, 17, 18, 19, 20] rfl rfl
    show Wx X k 0 0 H L 67 ls []
    refine r_iload_n C hl 0 dX8_numberRead_67 rfl rfl ?_
    exact r_iret C hq hW (by obtain rfl := Option.some.inj h; exact ⟨rfl, rfl⟩) dX8_numberRead_68
  have K47 : ∀ (v_broken : Int32), ∀ (v_brokenAt : Int32), ∀ (v_spot : Int32), ∀ (v_here : Int32), ∀ (v_token : Int32), ∀ (v_number : Int32), ∀ (H : Heap) (L : List Loc) (ls : Array Slot), Wd X k A [(ad 0, .inr (8, [.ref (ad 1), .ref (ad 2), .int v_taped, .int v_fault, .int v_broken, .int v_brokenAt, .int v_spot, .int v_here, .int v_token, .int v_number, .ref (ad 3), .ref (ad 4), .ref (ad 5), .ref (ad 6), .ref (ad 7), .ref (ad 8), .ref (ad 9), .ref (ad 10), .int v_isStarted, .ref (ad 11), .ref (ad 12), .ref (ad 13), .int v_evaluated, .int v_moved, .int v_isChanged, .ref (ad 14), .int v_undoMany, .ref (ad 15), .ref (ad 16), .ref (ad 17), .ref (ad 18), .ref (ad 19), .ref (ad 20), .int v_torn, .int v_isAsideChanged])), (ad 1, .inl (eI X, 720, .inl v_state)), (ad 2, .inl (eI X, 320, .inl v_tape)), (ad 3, .inl (eI X, 9, .inl v_ends)), (ad 4, .inl (eI X, 27, .inl v_letters)), (ad 5, .inl (eI X, 30, .inl v_values)), (ad 6, .inl (eZ X, 30, .inl v_isTold)), (ad 7, .inl (eI X, 30, .inl v_waits)), (ad 8, .inl (eI X, 900, .inl v_readsOf)), (ad 9, .inl (eI X, 30, .inl v_readMany)), (ad 10, .inl (eI X, 30, .inl v_heights)), (ad 11, .inl (eI X, 30, .inl v_oldValues)), (ad 12, .inl (eZ X, 30, .inl v_isOldTold)), (ad 13, .inl (eI X, 30, .inl v_oldReads)), (ad 14, .inl (eI X, 100, .inl v_undos)), (ad 15, .inl (eI X, 103, .inl v_undoAside)), (ad 16, .inl (eI X, 4, .inl v_formula)), (ad 17, .inl (eZ X, 2, .inl v_isKept)), (ad 18, .inl (eI X, 4, .inl v_lanes)), (ad 19, .inl (eI X, 4, .inl v_lengths)), (ad 20, .inl (eI X, 160, .inl v_items))] H L → lv_has ls 4 [(0, .ref (ad 0)), (1, .int p1)] → fX8_numberRead_j47 v_tape v_taped p1 p2  v_broken v_brokenAt v_spot v_here v_token v_number = some o → Wx X k 0 0 H L 47 ls [] := by
    intro v_broken v_brokenAt v_spot v_here v_token v_number H L ls hW hl h
    unfold fX8_numberRead_j47 at h
    refine r_aload_n C hl 0 dX8_numberRead_47 rfl rfl ?_
    refine r_get C hW 0 rfl rfl iwX8 4 (by decide) w_fl_X8_81 rfl dX8_numberRead_48 ?_
    refine r_if_ne (tgt := 61) C dX8_numberRead_51 (by decide) (fun c51 => ?_) (fun c51 => ?_)
    · replace h := iF c51 h
      refine r_iload_n C hl 1 dX8_numberRead_61 rfl rfl ?_
      exact K62 v_broken v_brokenAt v_spot v_here v_token v_number p1 H L ls hW (lv_sub hl [0] rfl) h
    · replace h := iT c51 h
      refine r_aload_n C hl 0 dX8_numberRead_54 rfl rfl ?_
      refine r_get C hW 0 rfl rfl iwX8 9 (by decide) w_fl_X8_100 rfl dX8_numberRead_55 ?_
      refine r_goto (tgt := 62) C dX8_numberRead_58 (by decide) ?_
      exact K62 v_broken v_brokenAt v_spot v_here v_token v_number v_number H L ls hW (lv_sub hl [0] rfl) h
  have K20 : ∀ (v_broken : Int32), ∀ (v_brokenAt : Int32), ∀ (v_spot : Int32), ∀ (v_here : Int32), ∀ (v_token : Int32), ∀ (v_number : Int32), ∀ (H : Heap) (L : List Loc) (ls : Array Slot), Wd X k A [(ad 0, .inr (8, [.ref (ad 1), .ref (ad 2), .int v_taped, .int v_fault, .int v_broken, .int v_brokenAt, .int v_spot, .int v_here, .int v_token, .int v_number, .ref (ad 3), .ref (ad 4), .ref (ad 5), .ref (ad 6), .ref (ad 7), .ref (ad 8), .ref (ad 9), .ref (ad 10), .int v_isStarted, .ref (ad 11), .ref (ad 12), .ref (ad 13), .int v_evaluated, .int v_moved, .int v_isChanged, .ref (ad 14), .int v_undoMany, .ref (ad 15), .ref (ad 16), .ref (ad 17), .ref (ad 18), .ref (ad 19), .ref (ad 20), .int v_torn, .int v_isAsideChanged])), (ad 1, .inl (eI X, 720, .inl v_state)), (ad 2, .inl (eI X, 320, .inl v_tape)), (ad 3, .inl (eI X, 9, .inl v_ends)), (ad 4, .inl (eI X, 27, .inl v_letters)), (ad 5, .inl (eI X, 30, .inl v_values)), (ad 6, .inl (eZ X, 30, .inl v_isTold)), (ad 7, .inl (eI X, 30, .inl v_waits)), (ad 8, .inl (eI X, 900, .inl v_readsOf)), (ad 9, .inl (eI X, 30, .inl v_readMany)), (ad 10, .inl (eI X, 30, .inl v_heights)), (ad 11, .inl (eI X, 30, .inl v_oldValues)), (ad 12, .inl (eZ X, 30, .inl v_isOldTold)), (ad 13, .inl (eI X, 30, .inl v_oldReads)), (ad 14, .inl (eI X, 100, .inl v_undos)), (ad 15, .inl (eI X, 103, .inl v_undoAside)), (ad 16, .inl (eI X, 4, .inl v_formula)), (ad 17, .inl (eZ X, 2, .inl v_isKept)), (ad 18, .inl (eI X, 4, .inl v_lanes)), (ad 19, .inl (eI X, 4, .inl v_lengths)), (ad 20, .inl (eI X, 160, .inl v_items))] H L → lv_has ls 4 [(0, .ref (ad 0)), (1, .int p1), (2, .int p2)] → fX8_numberRead_j20 v_tape v_taped p1 p2  v_broken v_brokenAt v_spot v_here v_token v_number = some o → Wx X k 0 0 H L 20 ls [] := by
    intro v_broken v_brokenAt v_spot v_here v_token v_number H L ls hW hl h
    unfold fX8_numberRead_j20 at h
    refine r_aload_n C hl 0 dX8_numberRead_20 rfl rfl ?_
    refine r_get C hW 0 rfl rfl iwX8 4 (by decide) w_fl_X8_81 rfl dX8_numberRead_21 ?_
    refine r_if_ne (tgt := 47) C dX8_numberRead_24 (by decide) (fun c24 => ?_) (fun c24 => ?_)
    · replace h := iF c24 h
      exact K47 v_broken v_brokenAt v_spot v_here v_token v_number H L ls hW (lv_sub hl [0, 1] rfl) h
    · replace h := iT c24 h
      refine r_aload_n C hl 0 dX8_numberRead_27 rfl rfl ?_
      refine r_get C hW 0 rfl rfl iwX8 9 (by decide) w_fl_X8_100 rfl dX8_numberRead_28 ?_
      refine r_i2l C dX8_numberRead_31 ?_
      refine r_iload_n C hl 1 dX8_numberRead_32 rfl rfl ?_
      refine r_i2l C dX8_numberRead_33 ?_
      refine r_iload_n C hl 2 dX8_numberRead_34 rfl rfl ?_
      refine r_i2l C dX8_numberRead_35 ?_
      obtain ⟨r36, h36, h⟩ := bd1_some h
      refine r_S (wr := [(ad 0, .inr (8, [.ref (ad 1), .ref (ad 2), .int v_taped, .int v_fault, .int v_broken, .int v_brokenAt, .int v_spot, .int v_here, .int v_token, .int v_number, .ref (ad 3), .ref (ad 4), .ref (ad 5), .ref (ad 6), .ref (ad 7), .ref (ad 8), .ref (ad 9), .ref (ad 10), .int v_isStarted, .ref (ad 11), .ref (ad 12), .ref (ad 13), .int v_evaluated, .int v_moved, .int v_isChanged, .ref (ad 14), .int v_undoMany, .ref (ad 15), .ref (ad 16), .ref (ad 17), .ref (ad 18), .ref (ad 19), .ref (ad 20), .int v_torn, .int v_isAsideChanged])), (ad 1, .inl (eI X, 720, .inl v_state)), (ad 2, .inl (eI X, 320, .inl v_tape)), (ad 3, .inl (eI X, 9, .inl v_ends)), (ad 4, .inl (eI X, 27, .inl v_letters)), (ad 5, .inl (eI X, 30, .inl v_values)), (ad 6, .inl (eZ X, 30, .inl v_isTold)), (ad 7, .inl (eI X, 30, .inl v_waits)), (ad 8, .inl (eI X, 900, .inl v_readsOf)), (ad 9, .inl (eI X, 30, .inl v_readMany)), (ad 10, .inl (eI X, 30, .inl v_heights)), (ad 11, .inl (eI X, 30, .inl v_oldValues)), (ad 12, .inl (eZ X, 30, .inl v_isOldTold)), (ad 13, .inl (eI X, 30, .inl v_oldReads)), (ad 14, .inl (eI X, 100, .inl v_undos)), (ad 15, .inl (eI X, 103, .inl v_undoAside)), (ad 16, .inl (eI X, 4, .inl v_formula)), (ad 17, .inl (eZ X, 2, .inl v_isKept)), (ad 18, .inl (eI X, 4, .inl v_lanes)), (ad 19, .inl (eI X, 4, .inl v_lengths)), (ad 20, .inl (eI X, 160, .inl v_items))]) (np := 3) C hl (mX8_in X    (v_number.toInt64) (p1.toInt64) (p2.toInt64) r36 h36) hW [] [0, 1, 2, 3, 4, 5, 6, 7, 8, 9, 10, 11, 12, 13, 14, 15, 16, 17, 18, 19, 20] rfl rfl rfl rfl (by decide) w_cd_X8_in w_ml_X8_73 w_st_X8_in w_in_HeightSheetModel (by decide +kernel) rfl ⟨Nat.le_of_ble_eq_true rfl, Nat.le_of_ble_eq_true rfl⟩ ⟨Nat.zero_le _, Nat.zero_le _⟩ (Nat.le_of_ble_eq_true rfl) dX8_numberRead_36 (fun rv w1 H L hp hW => ?_) rfl
      obtain ⟨rfl, rfl⟩ := hp
      replace hW : Wd X k A [(ad 0, .inr (8, [.ref (ad 1), .ref (ad 2), .int v_taped, .int v_fault, .int v_broken, .int v_brokenAt, .int v_spot, .int v_here, .int v_token, .int v_number, .ref (ad 3), .ref (ad 4), .ref (ad 5), .ref (ad 6), .ref (ad 7), .ref (ad 8), .ref (ad 9), .ref (ad 10), .int v_isStarted, .ref (ad 11), .ref (ad 12), .ref (ad 13), .int v_evaluated, .int v_moved, .int v_isChanged, .ref (ad 14), .int v_undoMany, .ref (ad 15), .ref (ad 16), .ref (ad 17), .ref (ad 18), .ref (ad 19), .ref (ad 20), .int v_torn, .int v_isAsideChanged])), (ad 1, .inl (eI X, 720, .inl v_state)), (ad 2, .inl (eI X, 320, .inl v_tape)), (ad 3, .inl (eI X, 9, .inl v_ends)), (ad 4, .inl (eI X, 27, .inl v_letters)), (ad 5, .inl (eI X, 30, .inl v_values)), (ad 6, .inl (eZ X, 30, .inl v_isTold)), (ad 7, .inl (eI X, 30, .inl v_waits)), (ad 8, .inl (eI X, 900, .inl v_readsOf)), (ad 9, .inl (eI X, 30, .inl v_readMany)), (ad 10, .inl (eI X, 30, .inl v_heights)), (ad 11, .inl (eI X, 30, .inl v_oldValues)), (ad 12, .inl (eZ X, 30, .inl v_isOldTold)), (ad 13, .inl (eI X, 30, .inl v_oldReads)), (ad 14, .inl (eI X, 100, .inl v_undos)), (ad 15, .inl (eI X, 103, .inl v_undoAside)), (ad 16, .inl (eI X, 4, .inl v_formula)), (ad 17, .inl (eZ X, 2, .inl v_isKept)), (ad 18, .inl (eI X, 4, .inl v_lanes)), (ad 19, .inl (eI X, 4, .inl v_lengths)), (ad 20, .inl (eI X, 160, .inl v_items))] H L := hW.sub [0, 1, 2, 3, 4, 5, 6, 7, 8, 9, 10, 11, 12, 13, 14, 15, 16, 17, 18, 19, 20] rfl rfl
      show Wx X k 0 0 H L 39 ls [.int r36]
      refine r_if_ne (tgt := 47) C dX8_numberRead_39 (by decide) (fun c39 => ?_) (fun c39 => ?_)
      · replace h := iF c39 h
        exact K47 v_broken v_brokenAt v_spot v_here v_token v_number H L ls hW (lv_sub hl [0, 1] rfl) h
      · replace h := iT c39 h
        refine r_aload_n C hl 0 dX8_numberRead_42 rfl rfl ?_
        refine r_iconst (v := 3) C dX8_numberRead_43 (by decide) ?_
        obtain ⟨c44_broken, c44_brokenAt, h44, h⟩ := bd2_some h
        refine r_V (wr := []) (np := 1) C hl (mX8_fails X ad  v_state v_tape v_taped v_fault v_broken v_brokenAt v_spot v_here v_token v_number v_ends v_letters v_values v_isTold v_waits v_readsOf v_readMany v_heights v_isStarted v_oldValues v_isOldTold v_oldReads v_evaluated v_moved v_isChanged v_undos v_undoMany v_undoAside v_formula v_isKept v_lanes v_lengths v_items v_torn v_isAsideChanged (3 : Int32) (c44_broken, c44_brokenAt) h44) hW [0, 1, 2, 3, 4, 5, 6, 7, 8, 9, 10, 11, 12, 13, 14, 15, 16, 17, 18, 19, 20] [] rfl rfl rfl rfl (by decide) 0 rfl rfl w_cd_X8_fails w_ml_X8_111 w_im_X8_fails w_sel_X8_fails w_in_HeightSheetModel (by decide +kernel) rfl ⟨Nat.le_of_ble_eq_true rfl, Nat.le_of_ble_eq_true rfl⟩ ⟨Nat.zero_le _, Nat.zero_le _⟩ (Nat.le_of_ble_eq_true rfl) dX8_numberRead_44 (fun rv w1 H L hp hW => ?_) rfl
        obtain ⟨rfl, rfl⟩ := hp
        replace hW : Wd X k A [(ad 0, .inr (8, [.ref (ad 1), .ref (ad 2), .int v_taped, .int v_fault, .int c44_broken, .int c44_brokenAt, .int v_spot, .int v_here, .int v_token, .int v_number, .ref (ad 3), .ref (ad 4), .ref (ad 5), .ref (ad 6), .ref (ad 7), .ref (ad 8), .ref (ad 9), .ref (ad 10), .int v_isStarted, .ref (ad 11), .ref (ad 12), .ref (ad 13), .int v_evaluated, .int v_moved, .int v_isChanged, .ref (ad 14), .int v_undoMany, .ref (ad 15), .ref (ad 16), .ref (ad 17), .ref (ad 18), .ref (ad 19), .ref (ad 20), .int v_torn, .int v_isAsideChanged])), (ad 1, .inl (eI X, 720, .inl v_state)), (ad 2, .inl (eI X, 320, .inl v_tape)), (ad 3, .inl (eI X, 9, .inl v_ends)), (ad 4, .inl (eI X, 27, .inl v_letters)), (ad 5, .inl (eI X, 30, .inl v_values)), (ad 6, .inl (eZ X, 30, .inl v_isTold)), (ad 7, .inl (eI X, 30, .inl v_waits)), (ad 8, .inl (eI X, 900, .inl v_readsOf)), (ad 9, .inl (eI X, 30, .inl v_readMany)), (ad 10, .inl (eI X, 30, .inl v_heights)), (ad 11, .inl (eI X, 30, .inl v_oldValues)), (ad 12, .inl (eZ X, 30, .inl v_isOldTold)), (ad 13, .inl (eI X, 30, .inl v_oldReads)), (ad 14, .inl (eI X, 100, .inl v_undos)), (ad 15, .inl (eI X, 103, .inl v_undoAside)), (ad 16, .inl (eI X, 4, .inl v_formula)), (ad 17, .inl (eZ X, 2, .inl v_isKept)), (ad 18, .inl (eI X, 4, .inl v_lanes)), (ad 19, .inl (eI X, 4, .inl v_lengths)), (ad 20, .inl (eI X, 160, .inl v_items))] H L := hW.sub [0, 1, 2, 3, 4, 5, 6, 7, 8, 9, 10, 11, 12, 13, 14, 15, 16, 17, 18, 19, 20] rfl rfl
        show Wx X k 0 0 H L 47 ls []
        exact K47 c44_broken c44_brokenAt v_spot v_here v_token v_number H L ls hW (lv_sub hl [0, 1] rfl) h
  unfold fX8_numberRead at h
  refine r_aload_n C hl 0 dX8_numberRead_0 rfl rfl ?_
  refine r_get C hW 0 rfl rfl iwX8 4 (by decide) w_fl_X8_81 rfl dX8_numberRead_1 ?_
  refine r_if_ne (tgt := 20) C dX8_numberRead_4 (by decide) (fun c4 => ?_) (fun c4 => ?_)
  · replace h := iF c4 h
    exact K20 v_broken v_brokenAt v_spot v_here v_token v_number H L ls hW hl h
  · replace h := iT c4 h
    refine r_aload_n C hl 0 dX8_numberRead_7 rfl rfl ?_
    refine r_get C hW 0 rfl rfl iwX8 8 (by decide) w_fl_X8_90 rfl dX8_numberRead_8 ?_
    refine r_iconst (v := 2) C dX8_numberRead_11 (by decide) ?_
    refine r_icmp_eq (tgt := 20) C dX8_numberRead_12 (by decide) (fun c12 => ?_) (fun c12 => ?_)
    · replace h := iT c12 h
      exact K20 v_broken v_brokenAt v_spot v_here v_token v_number H L ls hW hl h
    · replace h := iF c12 h
      refine r_aload_n C hl 0 dX8_numberRead_15 rfl rfl ?_
      refine r_iconst (v := 2) C dX8_numberRead_16 (by decide) ?_
      obtain ⟨c17_broken, c17_brokenAt, h17, h⟩ := bd2_some h
      refine r_V (wr := []) (np := 1) C hl (mX8_fails X ad  v_state v_tape v_taped v_fault v_broken v_brokenAt v_spot v_here v_token v_number v_ends v_letters v_values v_isTold v_waits v_readsOf v_readMany v_heights v_isStarted v_oldValues v_isOldTold v_oldReads v_evaluated v_moved v_isChanged v_undos v_undoMany v_undoAside v_formula v_isKept v_lanes v_lengths v_items v_torn v_isAsideChanged (2 : Int32) (c17_broken, c17_brokenAt) h17) hW [0, 1, 2, 3, 4, 5, 6, 7, 8, 9, 10, 11, 12, 13, 14, 15, 16, 17, 18, 19, 20] [] rfl rfl rfl rfl (by decide) 0 rfl rfl w_cd_X8_fails w_ml_X8_111 w_im_X8_fails w_sel_X8_fails w_in_HeightSheetModel (by decide +kernel) rfl ⟨Nat.le_of_ble_eq_true rfl, Nat.le_of_ble_eq_true rfl⟩ ⟨Nat.zero_le _, Nat.zero_le _⟩ (Nat.le_of_ble_eq_true rfl) dX8_numberRead_17 (fun rv w1 H L hp hW => ?_) rfl
      obtain ⟨rfl, rfl⟩ := hp
      replace hW : Wd X k A [(ad 0, .inr (8, [.ref (ad 1), .ref (ad 2), .int v_taped, .int v_fault, .int c17_broken, .int c17_brokenAt, .int v_spot, .int v_here, .int v_token, .int v_number, .ref (ad 3), .ref (ad 4), .ref (ad 5), .ref (ad 6), .ref (ad 7), .ref (ad 8), .ref (ad 9), .ref (ad 10), .int v_isStarted, .ref (ad 11), .ref (ad 12), .ref (ad 13), .int v_evaluated, .int v_moved, .int v_isChanged, .ref (ad 14), .int v_undoMany, .ref (ad 15), .ref (ad 16), .ref (ad 17), .ref (ad 18), .ref (ad 19), .ref (ad 20), .int v_torn, .int v_isAsideChanged])), (ad 1, .inl (eI X, 720, .inl v_state)), (ad 2, .inl (eI X, 320, .inl v_tape)), (ad 3, .inl (eI X, 9, .inl v_ends)), (ad 4, .inl (eI X, 27, .inl v_letters)), (ad 5, .inl (eI X, 30, .inl v_values)), (ad 6, .inl (eZ X, 30, .inl v_isTold)), (ad 7, .inl (eI X, 30, .inl v_waits)), (ad 8, .inl (eI X, 900, .inl v_readsOf)), (ad 9, .inl (eI X, 30, .inl v_readMany)), (ad 10, .inl (eI X, 30, .inl v_heights)), (ad 11, .inl (eI X, 30, .inl v_oldValues)), (ad 12, .inl (eZ X, 30, .inl v_isOldTold)), (ad 13, .inl (eI X, 30, .inl v_oldReads)), (ad 14, .inl (eI X, 100, .inl v_undos)), (ad 15, .inl (eI X, 103, .inl v_undoAside)), (ad 16, .inl (eI X, 4, .inl v_formula)), (ad 17, .inl (eZ X, 2, .inl v_isKept)), (ad 18, .inl (eI X, 4, .inl v_lanes)), (ad 19, .inl (eI X, 4, .inl v_lengths)), (ad 20, .inl (eI X, 160, .inl v_items))] H L := hW.sub [0, 1, 2, 3, 4, 5, 6, 7, 8, 9, 10, 11, 12, 13, 14, 15, 16, 17, 18, 19, 20] rfl rfl
      show Wx X k 0 0 H L 20 ls []
      exact K20 c17_broken c17_brokenAt v_spot v_here v_token v_number H L ls hW hl h
def fX8_operandsOf (p0 : Int32) : Option (Int32) :=
  if p0 = (0 : Int32) then
    some (0 : Int32)
  else
    if p0 = (1 : Int32) then
      some (1 : Int32)
    else
      if p0 = (5 : Int32) then
        some (1 : Int32)
      else
        if p0 = (8 : Int32) then
          some (3 : Int32)
        else
          some (2 : Int32)
set_option maxRecDepth 100000 in
set_option maxHeartbeats 8000000 in
theorem mX8_operandsOf (X : Ev)   (p0 : Int32) (o : Int32) (h : fX8_operandsOf p0 = some o) : Ctr X yX8_operandsOf cX8_operandsOf 1 (some .int) 0 0 0 0 [.int p0] [] (De (some (.int o)) []) := by
  refine Ctr.start (by decide) (Nat.le_of_ble_eq_true rfl) (fun k A ls C hq hin hW hl => ?_)
  replace C : Cx X k cX8_operandsOf 1 (some .int) RX8 A 0 0 0 0 := C
  replace hl : lv_has ls 1 [(0, .int p0)] := hl
  suffices hh : ∀ (H : Heap) (L : List Loc), Wd X k A [] H L → Wx X k 0 0 H L 0 ls [] from hh _ _ hW
  clear hW
  intro H L hW
  unfold fX8_operandsOf at h
  refine r_iload_n C hl 0 dX8_operandsOf_0 rfl rfl ?_
  refine r_if_ne (tgt := 8) C dX8_operandsOf_1 (by decide) (fun c1 => ?_) (fun c1 => ?_)
  · replace h := iF c1 h
    refine r_iload_n C hl 0 dX8_operandsOf_8 rfl rfl ?_
    refine r_iconst (v := 1) C dX8_operandsOf_9 (by decide) ?_
    refine r_icmp_eq (tgt := 18) C dX8_operandsOf_10 (by decide) (fun c10 => ?_) (fun c10 => ?_)
    · replace h := iT c10 h
      refine r_iconst (v := 1) C dX8_operandsOf_18 (by decide) ?_
      refine r_goto (tgt := 33) C dX8_operandsOf_19 (by decide) ?_
      exact r_iret C hq hW (by obtain rfl := Option.some.inj h; exact ⟨rfl, rfl⟩) dX8_operandsOf_33
    · replace h := iF c10 h
      refine r_iload_n C hl 0 dX8_operandsOf_13 rfl rfl ?_
      refine r_iconst (v := 5) C dX8_operandsOf_14 (by decide) ?_
      refine r_icmp_ne (tgt := 22) C dX8_operandsOf_15 (by decide) (fun c15 => ?_) (fun c15 => ?_)
      · replace h := iF c15 h
        refine r_iload_n C hl 0 dX8_operandsOf_22 rfl rfl ?_
        refine r_bipush (v := 8) C dX8_operandsOf_23 (by decide) ?_
        refine r_icmp_ne (tgt := 32) C dX8_operandsOf_25 (by decide) (fun c25 => ?_) (fun c25 => ?_)
        · replace h := iF c25 h
          refine r_iconst (v := 2) C dX8_operandsOf_32 (by decide) ?_
          exact r_iret C hq hW (by obtain rfl := Option.some.inj h; exact ⟨rfl, rfl⟩) dX8_operandsOf_33
        · replace h := iT c25 h
          refine r_iconst (v := 3) C dX8_operandsOf_28 (by decide) ?_
          refine r_goto (tgt := 33) C dX8_operandsOf_29 (by decide) ?_
          exact r_iret C hq hW (by obtain rfl := Option.some.inj h; exact ⟨rfl, rfl⟩) dX8_operandsOf_33
      · replace h := iT c15 h
        refine r_iconst (v := 1) C dX8_operandsOf_18 (by decide) ?_
        refine r_goto (tgt := 33) C dX8_operandsOf_19 (by decide) ?_
        exact r_iret C hq hW (by obtain rfl := Option.some.inj h; exact ⟨rfl, rfl⟩) dX8_operandsOf_33
  · replace h := iT c1 h
    refine r_iconst (v := 0) C dX8_operandsOf_4 (by decide) ?_
    refine r_goto (tgt := 33) C dX8_operandsOf_5 (by decide) ?_
    exact r_iret C hq hW (by obtain rfl := Option.some.inj h; exact ⟨rfl, rfl⟩) dX8_operandsOf_33
def fX8_readLine_j176 (v_tape : (Nat → Int32)) (v_taped : Int32) (v_ends : (Nat → Int32)) (v_letters : (Nat → Int32))  (v_state : (Nat → Int32)) (v_broken : Int32) (v_brokenAt : Int32) (v_spot : Int32) (v_here : Int32) (v_token : Int32) (v_number : Int32) : Option ((Nat → Int32) × Int32 × Int32 × Int32 × Int32 × Int32 × Int32) :=
  bd6 (fX8_readsOn v_tape v_taped v_broken v_brokenAt v_spot v_here v_token v_number) fun c177_broken c177_brokenAt c177_spot c177_here c177_token c177_number =>
  some (v_state, c177_broken, c177_brokenAt, c177_spot, c177_here, c177_token, c177_number)
def fX8_readLine_j144 (v_tape : (Nat → Int32)) (v_taped : Int32) (v_ends : (Nat → Int32)) (v_letters : (Nat → Int32)) (self102 : (Nat → Int32) → Int32 → Int32 → Int32 → Int32 → Int32 → Int32 → Int32 → Option ((Nat → Int32) × Int32 × Int32 × Int32 × Int32 × Int32 × Int32)) (v_state : (Nat → Int32)) (v_broken : Int32) (v_brokenAt : Int32) (v_spot : Int32) (v_here : Int32) (v_token : Int32) (v_number : Int32) (l1 : Int32) (l2 : Int32) (l3 : Int32) (l4 : Int32) (s1 : Int32) (s3 : Int32) : Option ((Nat → Int32) × Int32 × Int32 × Int32 × Int32 × Int32 × Int32) :=
  bd7 (fX8_numberRead v_tape v_taped v_broken v_brokenAt v_spot v_here v_token v_number s3 (29 : Int32)) fun r146 c146_broken c146_brokenAt c146_spot c146_here c146_token c146_number =>
  wr v_state 720 s1 r146 fun w149 =>
  self102 w149 c146_broken c146_brokenAt c146_spot c146_here c146_token c146_number (l4 + (1 : Int32))
def fX8_readLine_j139 (v_tape : (Nat → Int32)) (v_taped : Int32) (v_ends : (Nat → Int32)) (v_letters : (Nat → Int32)) (self102 : (Nat → Int32) → Int32 → Int32 → Int32 → Int32 → Int32 → Int32 → Int32 → Option ((Nat → Int32) × Int32 × Int32 × Int32 × Int32 × Int32 × Int32)) (v_state : (Nat → Int32)) (v_broken : Int32) (v_brokenAt : Int32) (v_spot : Int32) (v_here : Int32) (v_token : Int32) (v_number : Int32) (l1 : Int32) (l2 : Int32) (l3 : Int32) (l4 : Int32) (s1 : Int32) : Option ((Nat → Int32) × Int32 × Int32 × Int32 × Int32 × Int32 × Int32) :=
  fX8_readLine_j144 v_tape v_taped v_ends v_letters self102 v_state v_broken v_brokenAt v_spot v_here v_token v_number l1 l2 l3 l4 s1 l3
def fX8_readLine_b102 (v_tape : (Nat → Int32)) (v_taped : Int32) (v_ends : (Nat → Int32)) (v_letters : (Nat → Int32))  (l1 : Int32) (l2 : Int32) (l3 : Int32) (self102 : (Nat → Int32) → Int32 → Int32 → Int32 → Int32 → Int32 → Int32 → Int32 → Option ((Nat → Int32) × Int32 × Int32 × Int32 × Int32 × Int32 × Int32)) (v_state : (Nat → Int32)) (v_broken : Int32) (v_brokenAt : Int32) (v_spot : Int32) (v_here : Int32) (v_token : Int32) (v_number : Int32) (l4 : Int32) : Option ((Nat → Int32) × Int32 × Int32 × Int32 × Int32 × Int32 × Int32) :=
  bd1 (fX8_operandsOf l1) fun r105 =>
  if r105 < l4 then
    if v_broken = (0 : Int32) then
      if v_token = (3 : Int32) then
        fX8_readLine_j176 v_tape v_taped v_ends v_letters  v_state v_broken v_brokenAt v_spot v_here v_token v_number
      else
        bd2 (fX8_fails v_broken v_brokenAt v_here (2 : Int32)) fun c173_broken c173_brokenAt =>
        fX8_readLine_j176 v_tape v_taped v_ends v_letters  v_state c173_broken c173_brokenAt v_spot v_here v_token v_number
    else
      fX8_readLine_j176 v_tape v_taped v_ends v_letters  v_state v_broken v_brokenAt v_spot v_here v_token v_number
  else
    if l1 = (6 : Int32) then
      fX8_readLine_j139 v_tape v_taped v_ends v_letters self102 v_state v_broken v_brokenAt v_spot v_here v_token v_number l1 l2 l3 l4 (((360 : Int32) + ((30 : Int32) * l4)) + l2)
    else
      if l1 = (7 : Int32) then
        fX8_readLine_j139 v_tape v_taped v_ends v_letters self102 v_state v_broken v_brokenAt v_spot v_here v_token v_number l1 l2 l3 l4 (((360 : Int32) + ((30 : Int32) * l4)) + l2)
      else
        fX8_readLine_j144 v_tape v_taped v_ends v_letters self102 v_state v_broken v_brokenAt v_spot v_here v_token v_number l1 l2 l3 l4 (((360 : Int32) + ((30 : Int32) * l4)) + l2) (0 : Int32)
def fX8_readLine_j84 (v_tape : (Nat → Int32)) (v_taped : Int32) (v_ends : (Nat → Int32)) (v_letters : (Nat → Int32))  (v_state : (Nat → Int32)) (v_broken : Int32) (v_brokenAt : Int32) (v_spot : Int32) (v_here : Int32) (v_token : Int32) (v_number : Int32) (l1 : Int32) (l2 : Int32) (s1 : Int32) (s2 : Int32) : Option ((Nat → Int32) × Int32 × Int32 × Int32 × Int32 × Int32 × Int32) :=
  bd7 (fX8_numberRead v_tape v_taped v_broken v_brokenAt v_spot v_here v_token v_number s1 s2) fun r84 c84_broken c84_brokenAt c84_spot c84_here c84_token c84_number =>
  wr v_state 720 ((390 : Int32) + l2) r84 fun w98 =>
  lq8 (fX8_readLine_b102 v_tape v_taped v_ends v_letters  l1 l2 r84) fu w98 c84_broken c84_brokenAt c84_spot c84_here c84_token c84_number (2 : Int32)
def fX8_readLine_b31 (v_tape : (Nat → Int32)) (v_taped : Int32) (v_ends : (Nat → Int32)) (v_letters : (Nat → Int32))  (v_broken : Int32) (v_brokenAt : Int32) (v_spot : Int32) (v_here : Int32) (v_token : Int32) (v_number : Int32) (l1 : Int32) (l2 : Int32) (self31 : (Nat → Int32) → Int32 → Option ((Nat → Int32) × Int32 × Int32 × Int32 × Int32 × Int32 × Int32)) (v_state : (Nat → Int32)) (l3 : Int32) : Option ((Nat → Int32) × Int32 × Int32 × Int32 × Int32 × Int32 × Int32) :=
  if (4 : Int32) ≤ l3 then
    wr v_state 720 ((360 : Int32) + l2) l1 fun w68 =>
    if l1 = (1 : Int32) then
      fX8_readLine_j84 v_tape v_taped v_ends v_letters  w68 v_broken v_brokenAt v_spot v_here v_token v_number l1 l2 (0 : Int32) (999 : Int32)
    else
      fX8_readLine_j84 v_tape v_taped v_ends v_letters  w68 v_broken v_brokenAt v_spot v_here v_token v_number l1 l2 (0 : Int32) (29 : Int32)
  else
    wr v_state 720 (((360 : Int32) + ((30 : Int32) * l3)) + l2) (0 : Int32) fun w51 =>
    self31 w51 (l3 + (1 : Int32))
def fX8_readLine (v_state : (Nat → Int32)) (v_tape : (Nat → Int32)) (v_taped : Int32) (v_broken : Int32) (v_brokenAt : Int32) (v_spot : Int32) (v_here : Int32) (v_token : Int32) (v_number : Int32) (v_ends : (Nat → Int32)) (v_letters : (Nat → Int32)) : Option ((Nat → Int32) × Int32 × Int32 × Int32 × Int32 × Int32 × Int32) :=
  bd1 (fX8_kindHere v_tape v_taped v_spot v_here v_token v_ends v_letters) fun r1 =>
  if r1 = (-4 : Int32) then
    bd2 (fX8_fails v_broken v_brokenAt v_here (2 : Int32)) fun c13_broken c13_brokenAt =>
    some (v_state, c13_broken, c13_brokenAt, v_spot, v_here, v_token, v_number)
  else
    bd6 (fX8_readsOn v_tape v_taped v_broken v_brokenAt v_spot v_here v_token v_number) fun c18_broken c18_brokenAt c18_spot c18_here c18_token c18_number =>
    bd7 (fX8_numberRead v_tape v_taped c18_broken c18_brokenAt c18_spot c18_here c18_token c18_number (0 : Int32) (29 : Int32)) fun r25 c25_broken c25_brokenAt c25_spot c25_here c25_token c25_number =>
    lq2 (fX8_readLine_b31 v_tape v_taped v_ends v_letters  c25_broken c25_brokenAt c25_spot c25_here c25_token c25_number r1 r25) fu v_state (1 : Int32)
set_option maxRecDepth 100000 in
set_option maxHeartbeats 8000000 in
theorem mX8_readLine (X : Ev) (ad : Nat → Nat) (v_state : (Nat → Int32)) (v_tape : (Nat → Int32)) (v_taped : Int32) (v_fault : Int32) (v_broken : Int32) (v_brokenAt : Int32) (v_spot : Int32) (v_here : Int32) (v_token : Int32) (v_number : Int32) (v_ends : (Nat → Int32)) (v_letters : (Nat → Int32)) (v_values : (Nat → Int32)) (v_isTold : (Nat → Int32)) (v_waits : (Nat → Int32)) (v_readsOf : (Nat → Int32)) (v_readMany : (Nat → Int32)) (v_heights : (Nat → Int32)) (v_isStarted : Int32) (v_oldValues : (Nat → Int32)) (v_isOldTold : (Nat → Int32)) (v_oldReads : (Nat → Int32)) (v_evaluated : Int32) (v_moved : Int32) (v_isChanged : Int32) (v_undos : (Nat → Int32)) (v_undoMany : Int32) (v_undoAside : (Nat → Int32)) (v_formula : (Nat → Int32)) (v_isKept : (Nat → Int32)) (v_lanes : (Nat → Int32)) (v_lengths : (Nat → Int32)) (v_items : (Nat → Int32)) (v_torn : Int32) (v_isAsideChanged : Int32)  (o : (Nat → Int32) × Int32 × Int32 × Int32 × Int32 × Int32 × Int32) (h : fX8_readLine v_state v_tape v_taped v_broken v_brokenAt v_spot v_here v_token v_number v_ends v_letters = some o) : Ctr X yX8_readLine cX8_readLine 5 none 3 69 0 0 [.ref (ad 0)] [(ad 0, .inr (8, [.ref (ad 1), .ref (ad 2), .int v_taped, .int v_fault, .int v_broken, .int v_brokenAt, .int v_spot, .int v_here, .int v_token, .int v_number, .ref (ad 3), .ref (ad 4), .ref (ad 5), .ref (ad 6), .ref (ad 7), .ref (ad 8), .ref (ad 9), .ref (ad 10), .int v_isStarted, .ref (ad 11), .ref (ad 12), .ref (ad 13), .int v_evaluated, .int v_moved, .int v_isChanged, .ref (ad 14), .int v_undoMany, .ref (ad 15), .ref (ad 16), .ref (ad 17), .ref (ad 18), .ref (ad 19), .ref (ad 20), .int v_torn, .int v_isAsideChanged])), (ad 1, .inl (eI X, 720, .inl v_state)), (ad 2, .inl (eI X, 320, .inl v_tape)), (ad 3, .inl (eI X, 9, .inl v_ends)), (ad 4, .inl (eI X, 27, .inl v_letters)), (ad 5, .inl (eI X, 30, .inl v_values)), (ad 6, .inl (eZ X, 30, .inl v_isTold)), (ad 7, .inl (eI X, 30, .inl v_waits)), (ad 8, .inl (eI X, 900, .inl v_readsOf)), (ad 9, .inl (eI X, 30, .inl v_readMany)), (ad 10, .inl (eI X, 30, .inl v_heights)), (ad 11, .inl (eI X, 30, .inl v_oldValues)), (ad 12, .inl (eZ X, 30, .inl v_isOldTold)), (ad 13, .inl (eI X, 30, .inl v_oldReads)), (ad 14, .inl (eI X, 100, .inl v_undos)), (ad 15, .inl (eI X, 103, .inl v_undoAside)), (ad 16, .inl (eI X, 4, .inl v_formula)), (ad 17, .inl (eZ X, 2, .inl v_isKept)), (ad 18, .inl (eI X, 4, .inl v_lanes)), (ad 19, .inl (eI X, 4, .inl v_lengths)), (ad 20, .inl (eI X, 160, .inl v_items))] (De none [(ad 0, .inr (8, [.ref (ad 1), .ref (ad 2), .int v_taped, .int v_fault, .int (o.2.1), .int (o.2.2.1), .int (o.2.2.2.1), .int (o.2.2.2.2.1), .int (o.2.2.2.2.2.1), .int (o.2.2.2.2.2.2), .ref (ad 3), .ref (ad 4), .ref (ad 5), .ref (ad 6), .ref (ad 7), .ref (ad 8), .ref (ad 9), .ref (ad 10), .int v_isStarted, .ref (ad 11), .ref (ad 12), .ref (ad 13), .int v_evaluated, .int v_moved, .int v_isChanged, .ref (ad 14), .int v_undoMany, .ref (ad 15), .ref (ad 16), .ref (ad 17), .ref (ad 18), .ref (ad 19), .ref (ad 20), .int v_torn, .int v_isAsideChanged])), (ad 1, .inl (eI X, 720, .inl (o.1))), (ad 2, .inl (eI X, 320, .inl v_tape)), (ad 3, .inl (eI X, 9, .inl v_ends)), (ad 4, .inl (eI X, 27, .inl v_letters)), (ad 5, .inl (eI X, 30, .inl v_values)), (ad 6, .inl (eZ X, 30, .inl v_isTold)), (ad 7, .inl (eI X, 30, .inl v_waits)), (ad 8, .inl (eI X, 900, .inl v_readsOf)), (ad 9, .inl (eI X, 30, .inl v_readMany)), (ad 10, .inl (eI X, 30, .inl v_heights)), (ad 11, .inl (eI X, 30, .inl v_oldValues)), (ad 12, .inl (eZ X, 30, .inl v_isOldTold)), (ad 13, .inl (eI X, 30, .inl v_oldReads)), (ad 14, .inl (eI X, 100, .inl v_undos)), (ad 15, .inl (eI X, 103, .inl v_undoAside)), (ad 16, .inl (eI X, 4, .inl v_formula)), (ad 17, .inl (eZ X, 2, .inl v_isKept)), (ad 18, .inl (eI X, 4, .inl v_lanes)), (ad 19, .inl (eI X, 4, .inl v_lengths)), (ad 20, .inl (eI X, 160, .inl v_items))]) := by
  refine Ctr.start (by decide) (Nat.le_of_ble_eq_true rfl) (fun k A ls C hq hin hW hl => ?_)
  replace C : Cx X k cX8_readLine 5 none RX8 A 3 69 0 0 := C
  replace hl : lv_has ls 5 [(0, .ref (ad 0))] := hl
  suffices hh : ∀ (H : Heap) (L : List Loc), Wd X k A [(ad 0, .inr (8, [.ref (ad 1), .ref (ad 2), .int v_taped, .int v_fault, .int v_broken, .int v_brokenAt, .int v_spot, .int v_here, .int v_token, .int v_number, .ref (ad 3), .ref (ad 4), .ref (ad 5), .ref (ad 6), .ref (ad 7), .ref (ad 8), .ref (ad 9), .ref (ad 10), .int v_isStarted, .ref (ad 11), .ref (ad 12), .ref (ad 13), .int v_evaluated, .int v_moved, .int v_isChanged, .ref (ad 14), .int v_undoMany, .ref (ad 15), .ref (ad 16), .ref (ad 17), .ref (ad 18), .ref (ad 19), .ref (ad 20), .int v_torn, .int v_isAsideChanged])), (ad 1, .inl (eI X, 720, .inl v_state)), (ad 2, .inl (eI X, 320, .inl v_tape)), (ad 3, .inl (eI X, 9, .inl v_ends)), (ad 4, .inl (eI X, 27, .inl v_letters)), (ad 5, .inl (eI X, 30, .inl v_values)), (ad 6, .inl (eZ X, 30, .inl v_isTold)), (ad 7, .inl (eI X, 30, .inl v_waits)), (ad 8, .inl (eI X, 900, .inl v_readsOf)), (ad 9, .inl (eI X, 30, .inl v_readMany)), (ad 10, .inl (eI X, 30, .inl v_heights)), (ad 11, .inl (eI X, 30, .inl v_oldValues)), (ad 12, .inl (eZ X, 30, .inl v_isOldTold)), (ad 13, .inl (eI X, 30, .inl v_oldReads)), (ad 14, .inl (eI X, 100, .inl v_undos)), (ad 15, .inl (eI X, 103, .inl v_undoAside)), (ad 16, .inl (eI X, 4, .inl v_formula)), (ad 17, .inl (eZ X, 2, .inl v_isKept)), (ad 18, .inl (eI X, 4, .inl v_lanes)), (ad 19, .inl (eI X, 4, .inl v_lengths)), (ad 20, .inl (eI X, 160, .inl v_items))] H L → Wx X k 0 0 H L 0 ls [] from hh _ _ hW
  clear hW
  intro H L hW
  have K176 : ∀ (v_state : (Nat → Int32)), ∀ (v_broken : Int32), ∀ (v_brokenAt : Int32), ∀ (v_spot : Int32), ∀ (v_here : Int32), ∀ (v_token : Int32), ∀ (v_number : Int32), ∀ (H : Heap) (L : List Loc) (ls : Array Slot), Wd X k A [(ad 0, .inr (8, [.ref (ad 1), .ref (ad 2), .int v_taped, .int v_fault, .int v_broken, .int v_brokenAt, .int v_spot, .int v_here, .int v_token, .int v_number, .ref (ad 3), .ref (ad 4), .ref (ad 5), .ref (ad 6), .ref (ad 7), .ref (ad 8), .ref (ad 9), .ref (ad 10), .int v_isStarted, .ref (ad 11), .ref (ad 12), .ref (ad 13), .int v_evaluated, .int v_moved, .int v_isChanged, .ref (ad 14), .int v_undoMany, .ref (ad 15), .ref (ad 16), .ref (ad 17), .ref (ad 18), .ref (ad 19), .ref (ad 20), .int v_torn, .int v_isAsideChanged])), (ad 1, .inl (eI X, 720, .inl v_state)), (ad 2, .inl (eI X, 320, .inl v_tape)), (ad 3, .inl (eI X, 9, .inl v_ends)), (ad 4, .inl (eI X, 27, .inl v_letters)), (ad 5, .inl (eI X, 30, .inl v_values)), (ad 6, .inl (eZ X, 30, .inl v_isTold)), (ad 7, .inl (eI X, 30, .inl v_waits)), (ad 8, .inl (eI X, 900, .inl v_readsOf)), (ad 9, .inl (eI X, 30, .inl v_readMany)), (ad 10, .inl (eI X, 30, .inl v_heights)), (ad 11, .inl (eI X, 30, .inl v_oldValues)), (ad 12, .inl (eZ X, 30, .inl v_isOldTold)), (ad 13, .inl (eI X, 30, .inl v_oldReads)), (ad 14, .inl (eI X, 100, .inl v_undos)), (ad 15, .inl (eI X, 103, .inl v_undoAside)), (ad 16, .inl (eI X, 4, .inl v_formula)), (ad 17, .inl (eZ X, 2, .inl v_isKept)), (ad 18, .inl (eI X, 4, .inl v_lanes)), (ad 19, .inl (eI X, 4, .inl v_lengths)), (ad 20, .inl (eI X, 160, .inl v_items))] H L → lv_has ls 5 [(0, .ref (ad 0))] → fX8_readLine_j176 v_tape v_taped v_ends v_letters  v_state v_broken v_brokenAt v_spot v_here v_token v_number = some o → Wx X k 0 0 H L 176 ls [] := by
    intro v_state v_broken v_brokenAt v_spot v_here v_token v_number H L ls hW hl h
    unfold fX8_readLine_j176 at h
    refine r_aload_n C hl 0 dX8_readLine_176 rfl rfl ?_
    obtain ⟨c177_broken, c177_brokenAt, c177_spot, c177_here, c177_token, c177_number, h177, h⟩ := bd6_some h
    refine r_V (wr := []) (np := 0) C hl (mX8_readsOn X ad  v_state v_tape v_taped v_fault v_broken v_brokenAt v_spot v_here v_token v_number v_ends v_letters v_values v_isTold v_waits v_readsOf v_readMany v_heights v_isStarted v_oldValues v_isOldTold v_oldReads v_evaluated v_moved v_isChanged v_undos v_undoMany v_undoAside v_formula v_isKept v_lanes v_lengths v_items v_torn v_isAsideChanged  (c177_broken, c177_brokenAt, c177_spot, c177_here, c177_token, c177_number) h177) hW [0, 1, 2, 3, 4, 5, 6, 7, 8, 9, 10, 11, 12, 13, 14, 15, 16, 17, 18, 19, 20] [] rfl rfl rfl rfl (by decide) 0 rfl rfl w_cd_X8_readsOn w_ml_X8_115 w_im_X8_readsOn w_sel_X8_readsOn w_in_HeightSheetModel (by decide +kernel) rfl ⟨Nat.le_of_ble_eq_true rfl, Nat.le_of_ble_eq_true rfl⟩ ⟨Nat.zero_le _, Nat.zero_le _⟩ (Nat.le_of_ble_eq_true rfl) dX8_readLine_177 (fun rv w1 H L hp hW => ?_) rfl
    obtain ⟨rfl, rfl⟩ := hp
    replace hW : Wd X k A [(ad 0, .inr (8, [.ref (ad 1), .ref (ad 2), .int v_taped, .int v_fault, .int c177_broken, .int c177_brokenAt, .int c177_spot, .int c177_here, .int c177_token, .int c177_number, .ref (ad 3), .ref (ad 4), .ref (ad 5), .ref (ad 6), .ref (ad 7), .ref (ad 8), .ref (ad 9), .ref (ad 10), .int v_isStarted, .ref (ad 11), .ref (ad 12), .ref (ad 13), .int v_evaluated, .int v_moved, .int v_isChanged, .ref (ad 14), .int v_undoMany, .ref (ad 15), .ref (ad 16), .ref (ad 17), .ref (ad 18), .ref (ad 19), .ref (ad 20), .int v_torn, .int v_isAsideChanged])), (ad 1, .inl (eI X, 720, .inl v_state)), (ad 2, .inl (eI X, 320, .inl v_tape)), (ad 3, .inl (eI X, 9, .inl v_ends)), (ad 4, .inl (eI X, 27, .inl v_letters)), (ad 5, .inl (eI X, 30, .inl v_values)), (ad 6, .inl (eZ X, 30, .inl v_isTold)), (ad 7, .inl (eI X, 30, .inl v_waits)), (ad 8, .inl (eI X, 900, .inl v_readsOf)), (ad 9, .inl (eI X, 30, .inl v_readMany)), (ad 10, .inl (eI X, 30, .inl v_heights)), (ad 11, .inl (eI X, 30, .inl v_oldValues)), (ad 12, .inl (eZ X, 30, .inl v_isOldTold)), (ad 13, .inl (eI X, 30, .inl v_oldReads)), (ad 14, .inl (eI X, 100, .inl v_undos)), (ad 15, .inl (eI X, 103, .inl v_undoAside)), (ad 16, .inl (eI X, 4, .inl v_formula)), (ad 17, .inl (eZ X, 2, .inl v_isKept)), (ad 18, .inl (eI X, 4, .inl v_lanes)), (ad 19, .inl (eI X, 4, .inl v_lengths)), (ad 20, .inl (eI X, 160, .inl v_items))] H L := hW.sub [0, 1, 2, 3, 4, 5, 6, 7, 8, 9, 10, 11, 12, 13, 14, 15, 16, 17, 18, 19, 20] rfl rfl
    show Wx X k 0 0 H L 180 ls []
    exact r_vret C hq hW (by obtain rfl := Option.some.inj h; exact ⟨rfl, rfl⟩) dX8_readLine_180
  have K102 : ∀ (l1 : Int32), ∀ (l2 : Int32), ∀ (l3 : Int32), ∀ (n102 : Nat), ∀ (v_state : (Nat → Int32)), ∀ (v_broken : Int32), ∀ (v_brokenAt : Int32), ∀ (v_spot : Int32), ∀ (v_here : Int32), ∀ (v_token : Int32), ∀ (v_number : Int32), ∀ (l4 : Int32), ∀ (H : Heap) (L : List Loc) (ls : Array Slot), Wd X k A [(ad 0, .inr (8, [.ref (ad 1), .ref (ad 2), .int v_taped, .int v_fault, .int v_broken, .int v_brokenAt, .int v_spot, .int v_here, .int v_token, .int v_number, .ref (ad 3), .ref (ad 4), .ref (ad 5), .ref (ad 6), .ref (ad 7), .ref (ad 8), .ref (ad 9), .ref (ad 10), .int v_isStarted, .ref (ad 11), .ref (ad 12), .ref (ad 13), .int v_evaluated, .int v_moved, .int v_isChanged, .ref (ad 14), .int v_undoMany, .ref (ad 15), .ref (ad 16), .ref (ad 17), .ref (ad 18), .ref (ad 19), .ref (ad 20), .int v_torn, .int v_isAsideChanged])), (ad 1, .inl (eI X, 720, .inl v_state)), (ad 2, .inl (eI X, 320, .inl v_tape)), (ad 3, .inl (eI X, 9, .inl v_ends)), (ad 4, .inl (eI X, 27, .inl v_letters)), (ad 5, .inl (eI X, 30, .inl v_values)), (ad 6, .inl (eZ X, 30, .inl v_isTold)), (ad 7, .inl (eI X, 30, .inl v_waits)), (ad 8, .inl (eI X, 900, .inl v_readsOf)), (ad 9, .inl (eI X, 30, .inl v_readMany)), (ad 10, .inl (eI X, 30, .inl v_heights)), (ad 11, .inl (eI X, 30, .inl v_oldValues)), (ad 12, .inl (eZ X, 30, .inl v_isOldTold)), (ad 13, .inl (eI X, 30, .inl v_oldReads)), (ad 14, .inl (eI X, 100, .inl v_undos)), (ad 15, .inl (eI X, 103, .inl v_undoAside)), (ad 16, .inl (eI X, 4, .inl v_formula)), (ad 17, .inl (eZ X, 2, .inl v_isKept)), (ad 18, .inl (eI X, 4, .inl v_lanes)), (ad 19, .inl (eI X, 4, .inl v_lengths)), (ad 20, .inl (eI X, 160, .inl v_items))] H L → lv_has ls 5 [(0, .ref (ad 0)), (1, .int l1), (2, .int l2), (3, .int l3), (4, .int l4)] → lq8 (fX8_readLine_b102 v_tape v_taped v_ends v_letters  l1 l2 l3) n102 v_state v_broken v_brokenAt v_spot v_here v_token v_number l4 = some o → Wx X k 0 0 H L 102 ls [] := by
    intro l1 l2 l3
    intro n102
    induction n102 with
    | zero => intro v_state v_broken v_brokenAt v_spot v_here v_token v_number l4 H L ls hW hl h; exact lq8_0 h
    | succ n102 ih102 =>
      have K144 : ∀ (v_state : (Nat → Int32)), ∀ (v_broken : Int32), ∀ (v_brokenAt : Int32), ∀ (v_spot : Int32), ∀ (v_here : Int32), ∀ (v_token : Int32), ∀ (v_number : Int32), ∀ (l4 : Int32), ∀ (s1 : Int32), ∀ (s3 : Int32), ∀ (H : Heap) (L : List Loc) (ls : Array Slot), Wd X k A [(ad 0, .inr (8, [.ref (ad 1), .ref (ad 2), .int v_taped, .int v_fault, .int v_broken, .int v_brokenAt, .int v_spot, .int v_here, .int v_token, .int v_number, .ref (ad 3), .ref (ad 4), .ref (ad 5), .ref (ad 6), .ref (ad 7), .ref (ad 8), .ref (ad 9), .ref (ad 10), .int v_isStarted, .ref (ad 11), .ref (ad 12), .ref (ad 13), .int v_evaluated, .int v_moved, .int v_isChanged, .ref (ad 14), .int v_undoMany, .ref (ad 15), .ref (ad 16), .ref (ad 17), .ref (ad 18), .ref (ad 19), .ref (ad 20), .int v_torn, .int v_isAsideChanged])), (ad 1, .inl (eI X, 720, .inl v_state)), (ad 2, .inl (eI X, 320, .inl v_tape)), (ad 3, .inl (eI X, 9, .inl v_ends)), (ad 4, .inl (eI X, 27, .inl v_letters)), (ad 5, .inl (eI X, 30, .inl v_values)), (ad 6, .inl (eZ X, 30, .inl v_isTold)), (ad 7, .inl (eI X, 30, .inl v_waits)), (ad 8, .inl (eI X, 900, .inl v_readsOf)), (ad 9, .inl (eI X, 30, .inl v_readMany)), (ad 10, .inl (eI X, 30, .inl v_heights)), (ad 11, .inl (eI X, 30, .inl v_oldValues)), (ad 12, .inl (eZ X, 30, .inl v_isOldTold)), (ad 13, .inl (eI X, 30, .inl v_oldReads)), (ad 14, .inl (eI X, 100, .inl v_undos)), (ad 15, .inl (eI X, 103, .inl v_undoAside)), (ad 16, .inl (eI X, 4, .inl v_formula)), (ad 17, .inl (eZ X, 2, .inl v_isKept)), (ad 18, .inl (eI X, 4, .inl v_lanes)), (ad 19, .inl (eI X, 4, .inl v_lengths)), (ad 20, .inl (eI X, 160, .inl v_items))] H L → lv_has ls 5 [(0, .ref (ad 0)), (1, .int l1), (2, .int l2), (3, .int l3), (4, .int l4)] → fX8_readLine_j144 v_tape v_taped v_ends v_letters (lq8 (fX8_readLine_b102 v_tape v_taped v_ends v_letters  l1 l2 l3) n102) v_state v_broken v_brokenAt v_spot v_here v_token v_number l1 l2 l3 l4 s1 s3 = some o → Wx X k 0 0 H L 144 ls [.int s3, .ref (ad 0), .int s1, .ref (ad 1)] := by
        intro v_state v_broken v_brokenAt v_spot v_here v_token v_number l4 s1 s3 H L ls hW hl h
        unfold fX8_readLine_j144 at h
        refine r_bipush (v := 29) C dX8_readLine_144 (by decide) ?_
        obtain ⟨r146, c146_broken, c146_brokenAt, c146_spot, c146_here, c146_token, c146_number, h146, h⟩ := bd7_some h
        refine r_V (wr := []) (np := 2) C hl (mX8_numberRead X ad  v_state v_tape v_taped v_fault v_broken v_brokenAt v_spot v_here v_token v_number v_ends v_letters v_values v_isTold v_waits v_readsOf v_readMany v_heights v_isStarted v_oldValues v_isOldTold v_oldReads v_evaluated v_moved v_isChanged v_undos v_undoMany v_undoAside v_formula v_isKept v_lanes v_lengths v_items v_torn v_isAsideChanged s3 (29 : Int32) (r146, c146_broken, c146_brokenAt, c146_spot, c146_here, c146_token, c146_number) h146) hW [0, 1, 2, 3, 4, 5, 6, 7, 8, 9, 10, 11, 12, 13, 14, 15, 16, 17, 18, 19, 20] [] rfl rfl rfl rfl (by decide) 0 rfl rfl w_cd_X8_numberRead w_ml_X8_122 w_im_X8_numberRead w_sel_X8_numberRead w_in_HeightSheetModel (by decide +kernel) rfl ⟨Nat.le_of_ble_eq_true rfl, Nat.le_of_ble_eq_true rfl⟩ ⟨Nat.zero_le _, Nat.zero_le _⟩ (Nat.le_of_ble_eq_true rfl) dX8_readLine_146 (fun rv w1 H L hp hW => ?_) rfl
        obtain ⟨rfl, rfl⟩ := hp
        replace hW : Wd X k A [(ad 0, .inr (8, [.ref (ad 1), .ref (ad 2), .int v_taped, .int v_fault, .int c146_broken, .int c146_brokenAt, .int c146_spot, .int c146_here, .int c146_token, .int c146_number, .ref (ad 3), .ref (ad 4), .ref (ad 5), .ref (ad 6), .ref (ad 7), .ref (ad 8), .ref (ad 9), .ref (ad 10), .int v_isStarted, .ref (ad 11), .ref (ad 12), .ref (ad 13), .int v_evaluated, .int v_moved, .int v_isChanged, .ref (ad 14), .int v_undoMany, .ref (ad 15), .ref (ad 16), .ref (ad 17), .ref (ad 18), .ref (ad 19), .ref (ad 20), .int v_torn, .int v_isAsideChanged])), (ad 1, .inl (eI X, 720, .inl v_state)), (ad 2, .inl (eI X, 320, .inl v_tape)), (ad 3, .inl (eI X, 9, .inl v_ends)), (ad 4, .inl (eI X, 27, .inl v_letters)), (ad 5, .inl (eI X, 30, .inl v_values)), (ad 6, .inl (eZ X, 30, .inl v_isTold)), (ad 7, .inl (eI X, 30, .inl v_waits)), (ad 8, .inl (eI X, 900, .inl v_readsOf)), (ad 9, .inl (eI X, 30, .inl v_readMany)), (ad 10, .inl (eI X, 30, .inl v_heights)), (ad 11, .inl (eI X, 30, .inl v_oldValues)), (ad 12, .inl (eZ X, 30, .inl v_isOldTold)), (ad 13, .inl (eI X, 30, .inl v_oldReads)), (ad 14, .inl (eI X, 100, .inl v_undos)), (ad 15, .inl (eI X, 103, .inl v_undoAside)), (ad 16, .inl (eI X, 4, .inl v_formula)), (ad 17, .inl (eZ X, 2, .inl v_isKept)), (ad 18, .inl (eI X, 4, .inl v_lanes)), (ad 19, .inl (eI X, 4, .inl v_lengths)), (ad 20, .inl (eI X, 160, .inl v_items))] H L := hW.sub [0, 1, 2, 3, 4, 5, 6, 7, 8, 9, 10, 11, 12, 13, 14, 15, 16, 17, 18, 19, 20] rfl rfl
        show Wx X k 0 0 H L 149 ls [.int r146, .int s1, .ref (ad 1)]
        obtain ⟨w149, e149, g149, h⟩ := wr_some h
        refine r_iast (ws' := [(ad 0, .inr (8, [.ref (ad 1), .ref (ad 2), .int v_taped, .int v_fault, .int c146_broken, .int c146_brokenAt, .int c146_spot, .int c146_here, .int c146_token, .int c146_number, .ref (ad 3), .ref (ad 4), .ref (ad 5), .ref (ad 6), .ref (ad 7), .ref (ad 8), .ref (ad 9), .ref (ad 10), .int v_isStarted, .ref (ad 11), .ref (ad 12), .ref (ad 13), .int v_evaluated, .int v_moved, .int v_isChanged, .ref (ad 14), .int v_undoMany, .ref (ad 15), .ref (ad 16), .ref (ad 17), .ref (ad 18), .ref (ad 19), .ref (ad 20), .int v_torn, .int v_isAsideChanged])), (ad 1, .inl (eI X, 720, .inl w149)), (ad 2, .inl (eI X, 320, .inl v_tape)), (ad 3, .inl (eI X, 9, .inl v_ends)), (ad 4, .inl (eI X, 27, .inl v_letters)), (ad 5, .inl (eI X, 30, .inl v_values)), (ad 6, .inl (eZ X, 30, .inl v_isTold)), (ad 7, .inl (eI X, 30, .inl v_waits)), (ad 8, .inl (eI X, 900, .inl v_readsOf)), (ad 9, .inl (eI X, 30, .inl v_readMany)), (ad 10, .inl (eI X, 30, .inl v_heights)), (ad 11, .inl (eI X, 30, .inl v_oldValues)), (ad 12, .inl (eZ X, 30, .inl v_isOldTold)), (ad 13, .inl (eI X, 30, .inl v_oldReads)), (ad 14, .inl (eI X, 100, .inl v_undos)), (ad 15, .inl (eI X, 103, .inl v_undoAside)), (ad 16, .inl (eI X, 4, .inl v_formula)), (ad 17, .inl (eZ X, 2, .inl v_isKept)), (ad 18, .inl (eI X, 4, .inl v_lanes)), (ad 19, .inl (eI X, 4, .inl v_lengths)), (ad 20, .inl (eI X, 160, .inl v_items))]) C hW 1 rfl g149 e149 rfl dX8_readLine_149 (fun H L hW => ?_)
        refine r_iinc (j := 4) (v := l4 + (1 : Int32)) (lv' := [(4, .int (l4 + (1 : Int32))), (0, .ref (ad 0)), (1, .int l1), (2, .int l2), (3, .int l3)]) C hl dX8_readLine_150 rfl rfl (by decide) rfl (fun ls hl => ?_)
        refine r_goto (tgt := 102) C dX8_readLine_153 (by decide) ?_
        exact ih102 w149 c146_broken c146_brokenAt c146_spot c146_here c146_token c146_number (l4 + (1 : Int32)) H L ls hW (lv_sub hl [1, 2, 3, 4, 0] rfl) h
      have K139 : ∀ (v_state : (Nat → Int32)), ∀ (v_broken : Int32), ∀ (v_brokenAt : Int32), ∀ (v_spot : Int32), ∀ (v_here : Int32), ∀ (v_token : Int32), ∀ (v_number : Int32), ∀ (l4 : Int32), ∀ (s1 : Int32), ∀ (H : Heap) (L : List Loc) (ls : Array Slot), Wd X k A [(ad 0, .inr (8, [.ref (ad 1), .ref (ad 2), .int v_taped, .int v_fault, .int v_broken, .int v_brokenAt, .int v_spot, .int v_here, .int v_token, .int v_number, .ref (ad 3), .ref (ad 4), .ref (ad 5), .ref (ad 6), .ref (ad 7), .ref (ad 8), .ref (ad 9), .ref (ad 10), .int v_isStarted, .ref (ad 11), .ref (ad 12), .ref (ad 13), .int v_evaluated, .int v_moved, .int v_isChanged, .ref (ad 14), .int v_undoMany, .ref (ad 15), .ref (ad 16), .ref (ad 17), .ref (ad 18), .ref (ad 19), .ref (ad 20), .int v_torn, .int v_isAsideChanged])), (ad 1, .inl (eI X, 720, .inl v_state)), (ad 2, .inl (eI X, 320, .inl v_tape)), (ad 3, .inl (eI X, 9, .inl v_ends)), (ad 4, .inl (eI X, 27, .inl v_letters)), (ad 5, .inl (eI X, 30, .inl v_values)), (ad 6, .inl (eZ X, 30, .inl v_isTold)), (ad 7, .inl (eI X, 30, .inl v_waits)), (ad 8, .inl (eI X, 900, .inl v_readsOf)), (ad 9, .inl (eI X, 30, .inl v_readMany)), (ad 10, .inl (eI X, 30, .inl v_heights)), (ad 11, .inl (eI X, 30, .inl v_oldValues)), (ad 12, .inl (eZ X, 30, .inl v_isOldTold)), (ad 13, .inl (eI X, 30, .inl v_oldReads)), (ad 14, .inl (eI X, 100, .inl v_undos)), (ad 15, .inl (eI X, 103, .inl v_undoAside)), (ad 16, .inl (eI X, 4, .inl v_formula)), (ad 17, .inl (eZ X, 2, .inl v_isKept)), (ad 18, .inl (eI X, 4, .inl v_lanes)), (ad 19, .inl (eI X, 4, .inl v_lengths)), (ad 20, .inl (eI X, 160, .inl v_items))] H L → lv_has ls 5 [(0, .ref (ad 0)), (1, .int l1), (2, .int l2), (3, .int l3), (4, .int l4)] → fX8_readLine_j139 v_tape v_taped v_ends v_letters (lq8 (fX8_readLine_b102 v_tape v_taped v_ends v_letters  l1 l2 l3) n102) v_state v_broken v_brokenAt v_spot v_here v_token v_number l1 l2 l3 l4 s1 = some o → Wx X k 0 0 H L 139 ls [.ref (ad 0), .int s1, .ref (ad 1)] := by
        intro v_state v_broken v_brokenAt v_spot v_here v_token v_number l4 s1 H L ls hW hl h
        unfold fX8_readLine_j139 at h
        refine r_iload_n C hl 3 dX8_readLine_139 rfl rfl ?_
        refine r_goto (tgt := 144) C dX8_readLine_140 (by decide) ?_
        exact K144 v_state v_broken v_brokenAt v_spot v_here v_token v_number l4 s1 l3 H L ls hW hl h
      intro v_state v_broken v_brokenAt v_spot v_here v_token v_number l4 H L ls hW hl h
      rw [lq8_s] at h
      unfold fX8_readLine_b102 at h
      refine r_iload C hl 4 dX8_readLine_102 rfl ?_
      refine r_iload_n C hl 1 dX8_readLine_104 rfl rfl ?_
      obtain ⟨r105, h105, h⟩ := bd1_some h
      refine r_S (wr := [(ad 0, .inr (8, [.ref (ad 1), .ref (ad 2), .int v_taped, .int v_fault, .int v_broken, .int v_brokenAt, .int v_spot, .int v_here, .int v_token, .int v_number, .ref (ad 3), .ref (ad 4), .ref (ad 5), .ref (ad 6), .ref (ad 7), .ref (ad 8), .ref (ad 9), .ref (ad 10), .int v_isStarted, .ref (ad 11), .ref (ad 12), .ref (ad 13), .int v_evaluated, .int v_moved, .int v_isChanged, .ref (ad 14), .int v_undoMany, .ref (ad 15), .ref (ad 16), .ref (ad 17), .ref (ad 18), .ref (ad 19), .ref (ad 20), .int v_torn, .int v_isAsideChanged])), (ad 1, .inl (eI X, 720, .inl v_state)), (ad 2, .inl (eI X, 320, .inl v_tape)), (ad 3, .inl (eI X, 9, .inl v_ends)), (ad 4, .inl (eI X, 27, .inl v_letters)), (ad 5, .inl (eI X, 30, .inl v_values)), (ad 6, .inl (eZ X, 30, .inl v_isTold)), (ad 7, .inl (eI X, 30, .inl v_waits)), (ad 8, .inl (eI X, 900, .inl v_readsOf)), (ad 9, .inl (eI X, 30, .inl v_readMany)), (ad 10, .inl (eI X, 30, .inl v_heights)), (ad 11, .inl (eI X, 30, .inl v_oldValues)), (ad 12, .inl (eZ X, 30, .inl v_isOldTold)), (ad 13, .inl (eI X, 30, .inl v_oldReads)), (ad 14, .inl (eI X, 100, .inl v_undos)), (ad 15, .inl (eI X, 103, .inl v_undoAside)), (ad 16, .inl (eI X, 4, .inl v_formula)), (ad 17, .inl (eZ X, 2, .inl v_isKept)), (ad 18, .inl (eI X, 4, .inl v_lanes)), (ad 19, .inl (eI X, 4, .inl v_lengths)), (ad 20, .inl (eI X, 160, .inl v_items))]) (np := 1) C hl (mX8_operandsOf X    l1 r105 h105) hW [] [0, 1, 2, 3, 4, 5, 6, 7, 8, 9, 10, 11, 12, 13, 14, 15, 16, 17, 18, 19, 20] rfl rfl rfl rfl (by decide) w_cd_X8_operandsOf w_ml_X8_126 w_st_X8_operandsOf w_in_HeightSheetModel (by decide +kernel) rfl ⟨Nat.le_of_ble_eq_true rfl, Nat.le_of_ble_eq_true rfl⟩ ⟨Nat.zero_le _, Nat.zero_le _⟩ (Nat.le_of_ble_eq_true rfl) dX8_readLine_105 (fun rv w1 H L hp hW => ?_) rfl
      obtain ⟨rfl, rfl⟩ := hp
      replace hW : Wd X k A [(ad 0, .inr (8, [.ref (ad 1), .ref (ad 2), .int v_taped, .int v_fault, .int v_broken, .int v_brokenAt, .int v_spot, .int v_here, .int v_token, .int v_number, .ref (ad 3), .ref (ad 4), .ref (ad 5), .ref (ad 6), .ref (ad 7), .ref (ad 8), .ref (ad 9), .ref (ad 10), .int v_isStarted, .ref (ad 11), .ref (ad 12), .ref (ad 13), .int v_evaluated, .int v_moved, .int v_isChanged, .ref (ad 14), .int v_undoMany, .ref (ad 15), .ref (ad 16), .ref (ad 17), .ref (ad 18), .ref (ad 19), .ref (ad 20), .int v_torn, .int v_isAsideChanged])), (ad 1, .inl (eI X, 720, .inl v_state)), (ad 2, .inl (eI X, 320, .inl v_tape)), (ad 3, .inl (eI X, 9, .inl v_ends)), (ad 4, .inl (eI X, 27, .inl v_letters)), (ad 5, .inl (eI X, 30, .inl v_values)), (ad 6, .inl (eZ X, 30, .inl v_isTold)), (ad 7, .inl (eI X, 30, .inl v_waits)), (ad 8, .inl (eI X, 900, .inl v_readsOf)), (ad 9, .inl (eI X, 30, .inl v_readMany)), (ad 10, .inl (eI X, 30, .inl v_heights)), (ad 11, .inl (eI X, 30, .inl v_oldValues)), (ad 12, .inl (eZ X, 30, .inl v_isOldTold)), (ad 13, .inl (eI X, 30, .inl v_oldReads)), (ad 14, .inl (eI X, 100, .inl v_undos)), (ad 15, .inl (eI X, 103, .inl v_undoAside)), (ad 16, .inl (eI X, 4, .inl v_formula)), (ad 17, .inl (eZ X, 2, .inl v_isKept)), (ad 18, .inl (eI X, 4, .inl v_lanes)), (ad 19, .inl (eI X, 4, .inl v_lengths)), (ad 20, .inl (eI X, 160, .inl v_items))] H L := hW.sub [0, 1, 2, 3, 4, 5, 6, 7, 8, 9, 10, 11, 12, 13, 14, 15, 16, 17, 18, 19, 20] rfl rfl
      show Wx X k 0 0 H L 108 ls [.int r105, .int l4]
      refine r_icmp_gt (tgt := 156) C dX8_readLine_108 (by decide) (fun c108 => ?_) (fun c108 => ?_)
      · replace h := iT c108 h
        refine r_aload_n C hl 0 dX8_readLine_156 rfl rfl ?_
        refine r_get C hW 0 rfl rfl iwX8 4 (by decide) w_fl_X8_81 rfl dX8_readLine_157 ?_
        refine r_if_ne (tgt := 176) C dX8_readLine_160 (by decide) (fun c160 => ?_) (fun c160 => ?_)
        · replace h := iF c160 h
          exact K176 v_state v_broken v_brokenAt v_spot v_here v_token v_number H L ls hW (lv_sub hl [0] rfl) h
        · replace h := iT c160 h
          refine r_aload_n C hl 0 dX8_readLine_163 rfl rfl ?_
          refine r_get C hW 0 rfl rfl iwX8 8 (by decide) w_fl_X8_90 rfl dX8_readLine_164 ?_
          refine r_iconst (v := 3) C dX8_readLine_167 (by decide) ?_
          refine r_icmp_eq (tgt := 176) C dX8_readLine_168 (by decide) (fun c168 => ?_) (fun c168 => ?_)
          · replace h := iT c168 h
            exact K176 v_state v_broken v_brokenAt v_spot v_here v_token v_number H L ls hW (lv_sub hl [0] rfl) h
          · replace h := iF c168 h
            refine r_aload_n C hl 0 dX8_readLine_171 rfl rfl ?_
            refine r_iconst (v := 2) C dX8_readLine_172 (by decide) ?_
            obtain ⟨c173_broken, c173_brokenAt, h173, h⟩ := bd2_some h
            refine r_V (wr := []) (np := 1) C hl (mX8_fails X ad  v_state v_tape v_taped v_fault v_broken v_brokenAt v_spot v_here v_token v_number v_ends v_letters v_values v_isTold v_waits v_readsOf v_readMany v_heights v_isStarted v_oldValues v_isOldTold v_oldReads v_evaluated v_moved v_isChanged v_undos v_undoMany v_undoAside v_formula v_isKept v_lanes v_lengths v_items v_torn v_isAsideChanged (2 : Int32) (c173_broken, c173_brokenAt) h173) hW [0, 1, 2, 3, 4, 5, 6, 7, 8, 9, 10, 11, 12, 13, 14, 15, 16, 17, 18, 19, 20] [] rfl rfl rfl rfl (by decide) 0 rfl rfl w_cd_X8_fails w_ml_X8_111 w_im_X8_fails w_sel_X8_fails w_in_HeightSheetModel (by decide +kernel) rfl ⟨Nat.le_of_ble_eq_true rfl, Nat.le_of_ble_eq_true rfl⟩ ⟨Nat.zero_le _, Nat.zero_le _⟩ (Nat.le_of_ble_eq_true rfl) dX8_readLine_173 (fun rv w1 H L hp hW => ?_) rfl
            obtain ⟨rfl, rfl⟩ := hp
            replace hW : Wd X k A [(ad 0, .inr (8, [.ref (ad 1), .ref (ad 2), .int v_taped, .int v_fault, .int c173_broken, .int c173_brokenAt, .int v_spot, .int v_here, .int v_token, .int v_number, .ref (ad 3), .ref (ad 4), .ref (ad 5), .ref (ad 6), .ref (ad 7), .ref (ad 8), .ref (ad 9), .ref (ad 10), .int v_isStarted, .ref (ad 11), .ref (ad 12), .ref (ad 13), .int v_evaluated, .int v_moved, .int v_isChanged, .ref (ad 14), .int v_undoMany, .ref (ad 15), .ref (ad 16), .ref (ad 17), .ref (ad 18), .ref (ad 19), .ref (ad 20), .int v_torn, .int v_isAsideChanged])), (ad 1, .inl (eI X, 720, .inl v_state)), (ad 2, .inl (eI X, 320, .inl v_tape)), (ad 3, .inl (eI X, 9, .inl v_ends)), (ad 4, .inl (eI X, 27, .inl v_letters)), (ad 5, .inl (eI X, 30, .inl v_values)), (ad 6, .inl (eZ X, 30, .inl v_isTold)), (ad 7, .inl (eI X, 30, .inl v_waits)), (ad 8, .inl (eI X, 900, .inl v_readsOf)), (ad 9, .inl (eI X, 30, .inl v_readMany)), (ad 10, .inl (eI X, 30, .inl v_heights)), (ad 11, .inl (eI X, 30, .inl v_oldValues)), (ad 12, .inl (eZ X, 30, .inl v_isOldTold)), (ad 13, .inl (eI X, 30, .inl v_oldReads)), (ad 14, .inl (eI X, 100, .inl v_undos)), (ad 15, .inl (eI X, 103, .inl v_undoAside)), (ad 16, .inl (eI X, 4, .inl v_formula)), (ad 17, .inl (eZ X, 2, .inl v_isKept)), (ad 18, .inl (eI X, 4, .inl v_lanes)), (ad 19, .inl (eI X, 4, .inl v_lengths)), (ad 20, .inl (eI X, 160, .inl v_items))] H L := hW.sub [0, 1, 2, 3, 4, 5, 6, 7, 8, 9, 10, 11, 12, 13, 14, 15, 16, 17, 18, 19, 20] rfl rfl
            show Wx X k 0 0 H L 176 ls []
            exact K176 v_state c173_broken c173_brokenAt v_spot v_here v_token v_number H L ls hW (lv_sub hl [0] rfl) h
      · replace h := iF c108 h
        refine r_aload_n C hl 0 dX8_readLine_111 rfl rfl ?_
        refine r_get C hW 0 rfl rfl iwX8 0 (by decide) w_fl_X8_7 rfl dX8_readLine_112 ?_
        refine r_sipush (v := 360) C dX8_readLine_115 (by decide) ?_
        refine r_bipush (v := 30) C dX8_readLine_118 (by decide) ?_
        refine r_iload C hl 4 dX8_readLine_120 rfl ?_
        refine r_imul C dX8_readLine_122 ?_
        refine r_iadd C dX8_readLine_123 ?_
        refine r_iload_n C hl 2 dX8_readLine_124 rfl rfl ?_
        refine r_iadd C dX8_readLine_125 ?_
        refine r_aload_n C hl 0 dX8_readLine_126 rfl rfl ?_
        refine r_iload_n C hl 1 dX8_readLine_127 rfl rfl ?_
        refine r_bipush (v := 6) C dX8_readLine_128 (by decide) ?_
        refine r_icmp_eq (tgt := 139) C dX8_readLine_130 (by decide) (fun c130 => ?_) (fun c130 => ?_)
        · replace h := iT c130 h
          exact K139 v_state v_broken v_brokenAt v_spot v_here v_token v_number l4 (((360 : Int32) + ((30 : Int32) * l4)) + l2) H L ls hW hl h
        · replace h := iF c130 h
          refine r_iload_n C hl 1 dX8_readLine_133 rfl rfl ?_
          refine r_bipush (v := 7) C dX8_readLine_134 (by decide) ?_
          refine r_icmp_ne (tgt := 143) C dX8_readLine_136 (by decide) (fun c136 => ?_) (fun c136 => ?_)
          · replace h := iF c136 h
            refine r_iconst (v := 0) C dX8_readLine_143 (by decide) ?_
            exact K144 v_state v_broken v_brokenAt v_spot v_here v_token v_number l4 (((360 : Int32) + ((30 : Int32) * l4)) + l2) (0 : Int32) H L ls hW hl h
          · replace h := iT c136 h
            exact K139 v_state v_broken v_brokenAt v_spot v_here v_token v_number l4 (((360 : Int32) + ((30 : Int32) * l4)) + l2) H L ls hW hl h
  have K84 : ∀ (v_state : (Nat → Int32)), ∀ (v_broken : Int32), ∀ (v_brokenAt : Int32), ∀ (v_spot : Int32), ∀ (v_here : Int32), ∀ (v_token : Int32), ∀ (v_number : Int32), ∀ (l1 : Int32), ∀ (l2 : Int32), ∀ (s1 : Int32), ∀ (s2 : Int32), ∀ (H : Heap) (L : List Loc) (ls : Array Slot), Wd X k A [(ad 0, .inr (8, [.ref (ad 1), .ref (ad 2), .int v_taped, .int v_fault, .int v_broken, .int v_brokenAt, .int v_spot, .int v_here, .int v_token, .int v_number, .ref (ad 3), .ref (ad 4), .ref (ad 5), .ref (ad 6), .ref (ad 7), .ref (ad 8), .ref (ad 9), .ref (ad 10), .int v_isStarted, .ref (ad 11), .ref (ad 12), .ref (ad 13), .int v_evaluated, .int v_moved, .int v_isChanged, .ref (ad 14), .int v_undoMany, .ref (ad 15), .ref (ad 16), .ref (ad 17), .ref (ad 18), .ref (ad 19), .ref (ad 20), .int v_torn, .int v_isAsideChanged])), (ad 1, .inl (eI X, 720, .inl v_state)), (ad 2, .inl (eI X, 320, .inl v_tape)), (ad 3, .inl (eI X, 9, .inl v_ends)), (ad 4, .inl (eI X, 27, .inl v_letters)), (ad 5, .inl (eI X, 30, .inl v_values)), (ad 6, .inl (eZ X, 30, .inl v_isTold)), (ad 7, .inl (eI X, 30, .inl v_waits)), (ad 8, .inl (eI X, 900, .inl v_readsOf)), (ad 9, .inl (eI X, 30, .inl v_readMany)), (ad 10, .inl (eI X, 30, .inl v_heights)), (ad 11, .inl (eI X, 30, .inl v_oldValues)), (ad 12, .inl (eZ X, 30, .inl v_isOldTold)), (ad 13, .inl (eI X, 30, .inl v_oldReads)), (ad 14, .inl (eI X, 100, .inl v_undos)), (ad 15, .inl (eI X, 103, .inl v_undoAside)), (ad 16, .inl (eI X, 4, .inl v_formula)), (ad 17, .inl (eZ X, 2, .inl v_isKept)), (ad 18, .inl (eI X, 4, .inl v_lanes)), (ad 19, .inl (eI X, 4, .inl v_lengths)), (ad 20, .inl (eI X, 160, .inl v_items))] H L → lv_has ls 5 [(0, .ref (ad 0)), (1, .int l1), (2, .int l2)] → fX8_readLine_j84 v_tape v_taped v_ends v_letters  v_state v_broken v_brokenAt v_spot v_here v_token v_number l1 l2 s1 s2 = some o → Wx X k 0 0 H L 84 ls [.int s2, .int s1, .ref (ad 0)] := by
    intro v_state v_broken v_brokenAt v_spot v_here v_token v_number l1 l2 s1 s2 H L ls hW hl h
    unfold fX8_readLine_j84 at h
    obtain ⟨r84, c84_broken, c84_brokenAt, c84_spot, c84_here, c84_token, c84_number, h84, h⟩ := bd7_some h
    refine r_V (wr := []) (np := 2) C hl (mX8_numberRead X ad  v_state v_tape v_taped v_fault v_broken v_brokenAt v_spot v_here v_token v_number v_ends v_letters v_values v_isTold v_waits v_readsOf v_readMany v_heights v_isStarted v_oldValues v_isOldTold v_oldReads v_evaluated v_moved v_isChanged v_undos v_undoMany v_undoAside v_formula v_isKept v_lanes v_lengths v_items v_torn v_isAsideChanged s1 s2 (r84, c84_broken, c84_brokenAt, c84_spot, c84_here, c84_token, c84_number) h84) hW [0, 1, 2, 3, 4, 5, 6, 7, 8, 9, 10, 11, 12, 13, 14, 15, 16, 17, 18, 19, 20] [] rfl rfl rfl rfl (by decide) 0 rfl rfl w_cd_X8_numberRead w_ml_X8_122 w_im_X8_numberRead w_sel_X8_numberRead w_in_HeightSheetModel (by decide +kernel) rfl ⟨Nat.le_of_ble_eq_true rfl, Nat.le_of_ble_eq_true rfl⟩ ⟨Nat.zero_le _, Nat.zero_le _⟩ (Nat.le_of_ble_eq_true rfl) dX8_readLine_84 (fun rv w1 H L hp hW => ?_) rfl
    obtain ⟨rfl, rfl⟩ := hp
    replace hW : Wd X k A [(ad 0, .inr (8, [.ref (ad 1), .ref (ad 2), .int v_taped, .int v_fault, .int c84_broken, .int c84_brokenAt, .int c84_spot, .int c84_here, .int c84_token, .int c84_number, .ref (ad 3), .ref (ad 4), .ref (ad 5), .ref (ad 6), .ref (ad 7), .ref (ad 8), .ref (ad 9), .ref (ad 10), .int v_isStarted, .ref (ad 11), .ref (ad 12), .ref (ad 13), .int v_evaluated, .int v_moved, .int v_isChanged, .ref (ad 14), .int v_undoMany, .ref (ad 15), .ref (ad 16), .ref (ad 17), .ref (ad 18), .ref (ad 19), .ref (ad 20), .int v_torn, .int v_isAsideChanged])), (ad 1, .inl (eI X, 720, .inl v_state)), (ad 2, .inl (eI X, 320, .inl v_tape)), (ad 3, .inl (eI X, 9, .inl v_ends)), (ad 4, .inl (eI X, 27, .inl v_letters)), (ad 5, .inl (eI X, 30, .inl v_values)), (ad 6, .inl (eZ X, 30, .inl v_isTold)), (ad 7, .inl (eI X, 30, .inl v_waits)), (ad 8, .inl (eI X, 900, .inl v_readsOf)), (ad 9, .inl (eI X, 30, .inl v_readMany)), (ad 10, .inl (eI X, 30, .inl v_heights)), (ad 11, .inl (eI X, 30, .inl v_oldValues)), (ad 12, .inl (eZ X, 30, .inl v_isOldTold)), (ad 13, .inl (eI X, 30, .inl v_oldReads)), (ad 14, .inl (eI X, 100, .inl v_undos)), (ad 15, .inl (eI X, 103, .inl v_undoAside)), (ad 16, .inl (eI X, 4, .inl v_formula)), (ad 17, .inl (eZ X, 2, .inl v_isKept)), (ad 18, .inl (eI X, 4, .inl v_lanes)), (ad 19, .inl (eI X, 4, .inl v_lengths)), (ad 20, .inl (eI X, 160, .inl v_items))] H L := hW.sub [0, 1, 2, 3, 4, 5, 6, 7, 8, 9, 10, 11, 12, 13, 14, 15, 16, 17, 18, 19, 20] rfl rfl
    show Wx X k 0 0 H L 87 ls [.int r84]
    refine r_istore_n (lv' := [(3, .int r84), (0, .ref (ad 0)), (1, .int l1), (2, .int l2)]) C hl dX8_readLine_87 rfl (by decide) rfl (fun ls hl => ?_)
    refine r_aload_n C hl 1 dX8_readLine_88 rfl rfl ?_
    refine r_get C hW 0 rfl rfl iwX8 0 (by decide) w_fl_X8_7 rfl dX8_readLine_89 ?_
    refine r_sipush (v := 390) C dX8_readLine_92 (by decide) ?_
    refine r_iload_n C hl 3 dX8_readLine_95 rfl rfl ?_
    refine r_iadd C dX8_readLine_96 ?_
    refine r_iload_n C hl 0 dX8_readLine_97 rfl rfl ?_
    obtain ⟨w98, e98, g98, h⟩ := wr_some h
    refine r_iast (ws' := [(ad 0, .inr (8, [.ref (ad 1), .ref (ad 2), .int v_taped, .int v_fault, .int c84_broken, .int c84_brokenAt, .int c84_spot, .int c84_here, .int c84_token, .int c84_number, .ref (ad 3), .ref (ad 4), .ref (ad 5), .ref (ad 6), .ref (ad 7), .ref (ad 8), .ref (ad 9), .ref (ad 10), .int v_isStarted, .ref (ad 11), .ref (ad 12), .ref (ad 13), .int v_evaluated, .int v_moved, .int v_isChanged, .ref (ad 14), .int v_undoMany, .ref (ad 15), .ref (ad 16), .ref (ad 17), .ref (ad 18), .ref (ad 19), .ref (ad 20), .int v_torn, .int v_isAsideChanged])), (ad 1, .inl (eI X, 720, .inl w98)), (ad 2, .inl (eI X, 320, .inl v_tape)), (ad 3, .inl (eI X, 9, .inl v_ends)), (ad 4, .inl (eI X, 27, .inl v_letters)), (ad 5, .inl (eI X, 30, .inl v_values)), (ad 6, .inl (eZ X, 30, .inl v_isTold)), (ad 7, .inl (eI X, 30, .inl v_waits)), (ad 8, .inl (eI X, 900, .inl v_readsOf)), (ad 9, .inl (eI X, 30, .inl v_readMany)), (ad 10, .inl (eI X, 30, .inl v_heights)), (ad 11, .inl (eI X, 30, .inl v_oldValues)), (ad 12, .inl (eZ X, 30, .inl v_isOldTold)), (ad 13, .inl (eI X, 30, .inl v_oldReads)), (ad 14, .inl (eI X, 100, .inl v_undos)), (ad 15, .inl (eI X, 103, .inl v_undoAside)), (ad 16, .inl (eI X, 4, .inl v_formula)), (ad 17, .inl (eZ X, 2, .inl v_isKept)), (ad 18, .inl (eI X, 4, .inl v_lanes)), (ad 19, .inl (eI X, 4, .inl v_lengths)), (ad 20, .inl (eI X, 160, .inl v_items))]) C hW 1 rfl g98 e98 rfl dX8_readLine_98 (fun H L hW => ?_)
    refine r_iconst (v := 2) C dX8_readLine_99 (by decide) ?_
    refine r_istore (lv' := [(4, .int (2 : Int32)), (3, .int r84), (0, .ref (ad 0)), (1, .int l1), (2, .int l2)]) C hl dX8_readLine_100 (by decide) rfl (fun ls hl => ?_)
    exact K102 l1 l2 r84 fu w98 c84_broken c84_brokenAt c84_spot c84_here c84_token c84_number (2 : Int32) H L ls hW (lv_sub hl [2, 3, 4, 1, 0] rfl) h
  have K31 : ∀ (v_broken : Int32), ∀ (v_brokenAt : Int32), ∀ (v_spot : Int32), ∀ (v_here : Int32), ∀ (v_token : Int32), ∀ (v_number : Int32), ∀ (l1 : Int32), ∀ (l2 : Int32), ∀ (n31 : Nat), ∀ (v_state : (Nat → Int32)), ∀ (l3 : Int32), ∀ (H : Heap) (L : List Loc) (ls : Array Slot), Wd X k A [(ad 0, .inr (8, [.ref (ad 1), .ref (ad 2), .int v_taped, .int v_fault, .int v_broken, .int v_brokenAt, .int v_spot, .int v_here, .int v_token, .int v_number, .ref (ad 3), .ref (ad 4), .ref (ad 5), .ref (ad 6), .ref (ad 7), .ref (ad 8), .ref (ad 9), .ref (ad 10), .int v_isStarted, .ref (ad 11), .ref (ad 12), .ref (ad 13), .int v_evaluated, .int v_moved, .int v_isChanged, .ref (ad 14), .int v_undoMany, .ref (ad 15), .ref (ad 16), .ref (ad 17), .ref (ad 18), .ref (ad 19), .ref (ad 20), .int v_torn, .int v_isAsideChanged])), (ad 1, .inl (eI X, 720, .inl v_state)), (ad 2, .inl (eI X, 320, .inl v_tape)), (ad 3, .inl (eI X, 9, .inl v_ends)), (ad 4, .inl (eI X, 27, .inl v_letters)), (ad 5, .inl (eI X, 30, .inl v_values)), (ad 6, .inl (eZ X, 30, .inl v_isTold)), (ad 7, .inl (eI X, 30, .inl v_waits)), (ad 8, .inl (eI X, 900, .inl v_readsOf)), (ad 9, .inl (eI X, 30, .inl v_readMany)), (ad 10, .inl (eI X, 30, .inl v_heights)), (ad 11, .inl (eI X, 30, .inl v_oldValues)), (ad 12, .inl (eZ X, 30, .inl v_isOldTold)), (ad 13, .inl (eI X, 30, .inl v_oldReads)), (ad 14, .inl (eI X, 100, .inl v_undos)), (ad 15, .inl (eI X, 103, .inl v_undoAside)), (ad 16, .inl (eI X, 4, .inl v_formula)), (ad 17, .inl (eZ X, 2, .inl v_isKept)), (ad 18, .inl (eI X, 4, .inl v_lanes)), (ad 19, .inl (eI X, 4, .inl v_lengths)), (ad 20, .inl (eI X, 160, .inl v_items))] H L → lv_has ls 5 [(0, .ref (ad 0)), (1, .int l1), (2, .int l2), (3, .int l3)] → lq2 (fX8_readLine_b31 v_tape v_taped v_ends v_letters  v_broken v_brokenAt v_spot v_here v_token v_number l1 l2) n31 v_state l3 = some o → Wx X k 0 0 H L 31 ls [] := by
    intro v_broken v_brokenAt v_spot v_here v_token v_number l1 l2
    intro n31
    induction n31 with
    | zero => intro v_state l3 H L ls hW hl h; exact lq2_0 h
    | succ n31 ih31 =>
      intro v_state l3 H L ls hW hl h
      rw [lq2_s] at h
      unfold fX8_readLine_b31 at h
      refine r_iload_n C hl 3 dX8_readLine_31 rfl rfl ?_
      refine r_iconst (v := 4) C dX8_readLine_32 (by decide) ?_
      refine r_icmp_ge (tgt := 58) C dX8_readLine_33 (by decide) (fun c33 => ?_) (fun c33 => ?_)
      · replace h := iT c33 h
        refine r_aload_n C hl 0 dX8_readLine_58 rfl rfl ?_
        refine r_get C hW 0 rfl rfl iwX8 0 (by decide) w_fl_X8_7 rfl dX8_readLine_59 ?_
        refine r_sipush (v := 360) C dX8_readLine_62 (by decide) ?_
        refine r_iload_n C hl 2 dX8_readLine_65 rfl rfl ?_
        refine r_iadd C dX8_readLine_66 ?_
        refine r_iload_n C hl 1 dX8_readLine_67 rfl rfl ?_
        obtain ⟨w68, e68, g68, h⟩ := wr_some h
        refine r_iast (ws' := [(ad 0, .inr (8, [.ref (ad 1), .ref (ad 2), .int v_taped, .int v_fault, .int v_broken, .int v_brokenAt, .int v_spot, .int v_here, .int v_token, .int v_number, .ref (ad 3), .ref (ad 4), .ref (ad 5), .ref (ad 6), .ref (ad 7), .ref (ad 8), .ref (ad 9), .ref (ad 10), .int v_isStarted, .ref (ad 11), .ref (ad 12), .ref (ad 13), .int v_evaluated, .int v_moved, .int v_isChanged, .ref (ad 14), .int v_undoMany, .ref (ad 15), .ref (ad 16), .ref (ad 17), .ref (ad 18), .ref (ad 19), .ref (ad 20), .int v_torn, .int v_isAsideChanged])), (ad 1, .inl (eI X, 720, .inl w68)), (ad 2, .inl (eI X, 320, .inl v_tape)), (ad 3, .inl (eI X, 9, .inl v_ends)), (ad 4, .inl (eI X, 27, .inl v_letters)), (ad 5, .inl (eI X, 30, .inl v_values)), (ad 6, .inl (eZ X, 30, .inl v_isTold)), (ad 7, .inl (eI X, 30, .inl v_waits)), (ad 8, .inl (eI X, 900, .inl v_readsOf)), (ad 9, .inl (eI X, 30, .inl v_readMany)), (ad 10, .inl (eI X, 30, .inl v_heights)), (ad 11, .inl (eI X, 30, .inl v_oldValues)), (ad 12, .inl (eZ X, 30, .inl v_isOldTold)), (ad 13, .inl (eI X, 30, .inl v_oldReads)), (ad 14, .inl (eI X, 100, .inl v_undos)), (ad 15, .inl (eI X, 103, .inl v_undoAside)), (ad 16, .inl (eI X, 4, .inl v_formula)), (ad 17, .inl (eZ X, 2, .inl v_isKept)), (ad 18, .inl (eI X, 4, .inl v_lanes)), (ad 19, .inl (eI X, 4, .inl v_lengths)), (ad 20, .inl (eI X, 160, .inl v_items))]) C hW 1 rfl g68 e68 rfl dX8_readLine_68 (fun H L hW => ?_)
        refine r_aload_n C hl 0 dX8_readLine_69 rfl rfl ?_
        refine r_iconst (v := 0) C dX8_readLine_70 (by decide) ?_
        refine r_iload_n C hl 1 dX8_readLine_71 rfl rfl ?_
        refine r_iconst (v := 1) C dX8_readLine_72 (by decide) ?_
        refine r_icmp_ne (tgt := 82) C dX8_readLine_73 (by decide) (fun c73 => ?_) (fun c73 => ?_)
        · replace h := iF c73 h
          refine r_bipush (v := 29) C dX8_readLine_82 (by decide) ?_
          exact K84 w68 v_broken v_brokenAt v_spot v_here v_token v_number l1 l2 (0 : Int32) (29 : Int32) H L ls hW (lv_sub hl [0, 1, 2] rfl) h
        · replace h := iT c73 h
          refine r_sipush (v := 999) C dX8_readLine_76 (by decide) ?_
          refine r_goto (tgt := 84) C dX8_readLine_79 (by decide) ?_
          exact K84 w68 v_broken v_brokenAt v_spot v_here v_token v_number l1 l2 (0 : Int32) (999 : Int32) H L ls hW (lv_sub hl [0, 1, 2] rfl) h
      · replace h := iF c33 h
        refine r_aload_n C hl 0 dX8_readLine_36 rfl rfl ?_
        refine r_get C hW 0 rfl rfl iwX8 0 (by decide) w_fl_X8_7 rfl dX8_readLine_37 ?_
        refine r_sipush (v := 360) C dX8_readLine_40 (by decide) ?_
        refine r_bipush (v := 30) C dX8_readLine_43 (by decide) ?_
        refine r_iload_n C hl 3 dX8_readLine_45 rfl rfl ?_
        refine r_imul C dX8_readLine_46 ?_
        refine r_iadd C dX8_readLine_47 ?_
        refine r_iload_n C hl 2 dX8_readLine_48 rfl rfl ?_
        refine r_iadd C dX8_readLine_49 ?_
        refine r_iconst (v := 0) C dX8_readLine_50 (by decide) ?_
        obtain ⟨w51, e51, g51, h⟩ := wr_some h
        refine r_iast (ws' := [(ad 0, .inr (8, [.ref (ad 1), .ref (ad 2), .int v_taped, .int v_fault, .int v_broken, .int v_brokenAt, .int v_spot, .int v_here, .int v_token, .int v_number, .ref (ad 3), .ref (ad 4), .ref (ad 5), .ref (ad 6), .ref (ad 7), .ref (ad 8), .ref (ad 9), .ref (ad 10), .int v_isStarted, .ref (ad 11), .ref (ad 12), .ref (ad 13), .int v_evaluated, .int v_moved, .int v_isChanged, .ref (ad 14), .int v_undoMany, .ref (ad 15), .ref (ad 16), .ref (ad 17), .ref (ad 18), .ref (ad 19), .ref (ad 20), .int v_torn, .int v_isAsideChanged])), (ad 1, .inl (eI X, 720, .inl w51)), (ad 2, .inl (eI X, 320, .inl v_tape)), (ad 3, .inl (eI X, 9, .inl v_ends)), (ad 4, .inl (eI X, 27, .inl v_letters)), (ad 5, .inl (eI X, 30, .inl v_values)), (ad 6, .inl (eZ X, 30, .inl v_isTold)), (ad 7, .inl (eI X, 30, .inl v_waits)), (ad 8, .inl (eI X, 900, .inl v_readsOf)), (ad 9, .inl (eI X, 30, .inl v_readMany)), (ad 10, .inl (eI X, 30, .inl v_heights)), (ad 11, .inl (eI X, 30, .inl v_oldValues)), (ad 12, .inl (eZ X, 30, .inl v_isOldTold)), (ad 13, .inl (eI X, 30, .inl v_oldReads)), (ad 14, .inl (eI X, 100, .inl v_undos)), (ad 15, .inl (eI X, 103, .inl v_undoAside)), (ad 16, .inl (eI X, 4, .inl v_formula)), (ad 17, .inl (eZ X, 2, .inl v_isKept)), (ad 18, .inl (eI X, 4, .inl v_lanes)), (ad 19, .inl (eI X, 4, .inl v_lengths)), (ad 20, .inl (eI X, 160, .inl v_items))]) C hW 1 rfl g51 e51 rfl dX8_readLine_51 (fun H L hW => ?_)
        refine r_iinc (j := 3) (v := l3 + (1 : Int32)) (lv' := [(3, .int (l3 + (1 : Int32))), (0, .ref (ad 0)), (1, .int l1), (2, .int l2)]) C hl dX8_readLine_52 rfl rfl (by decide) rfl (fun ls hl => ?_)
        refine r_goto (tgt := 31) C dX8_readLine_55 (by decide) ?_
        exact ih31 w51 (l3 + (1 : Int32)) H L ls hW (lv_sub hl [1, 2, 3, 0] rfl) h
  unfold fX8_readLine at h
  refine r_aload_n C hl 0 dX8_readLine_0 rfl rfl ?_
  obtain ⟨r1, h1, h⟩ := bd1_some h
  refine r_V (wr := []) (np := 0) C hl (mX8_kindHere X ad  v_state v_tape v_taped v_fault v_broken v_brokenAt v_spot v_here v_token v_number v_ends v_letters v_values v_isTold v_waits v_readsOf v_readMany v_heights v_isStarted v_oldValues v_isOldTold v_oldReads v_evaluated v_moved v_isChanged v_undos v_undoMany v_undoAside v_formula v_isKept v_lanes v_lengths v_items v_torn v_isAsideChanged  r1 h1) hW [0, 1, 2, 3, 4, 5, 6, 7, 8, 9, 10, 11, 12, 13, 14, 15, 16, 17, 18, 19, 20] [] rfl rfl rfl rfl (by decide) 0 rfl rfl w_cd_X8_kindHere w_ml_X8_118 w_im_X8_kindHere w_sel_X8_kindHere w_in_HeightSheetModel (by decide +kernel) rfl ⟨Nat.le_of_ble_eq_true rfl, Nat.le_of_ble_eq_true rfl⟩ ⟨Nat.zero_le _, Nat.zero_le _⟩ (Nat.le_of_ble_eq_true rfl) dX8_readLine_1 (fun rv w1 H L hp hW => ?_) rfl
  obtain ⟨rfl, rfl⟩ := hp
  replace hW : Wd X k A [(ad 0, .inr (8, [.ref (ad 1), .ref (ad 2), .int v_taped, .int v_fault, .int v_broken, .int v_brokenAt, .int v_spot, .int v_here, .int v_token, .int v_number, .ref (ad 3), .ref (ad 4), .ref (ad 5), .ref (ad 6), .ref (ad 7), .ref (ad 8), .ref (ad 9), .ref (ad 10), .int v_isStarted, .ref (ad 11), .ref (ad 12), .ref (ad 13), .int v_evaluated, .int v_moved, .int v_isChanged, .ref (ad 14), .int v_undoMany, .ref (ad 15), .ref (ad 16), .ref (ad 17), .ref (ad 18), .ref (ad 19), .ref (ad 20), .int v_torn, .int v_isAsideChanged])), (ad 1, .inl (eI X, 720, .inl v_state)), (ad 2, .inl (eI X, 320, .inl v_tape)), (ad 3, .inl (eI X, 9, .inl v_ends)), (ad 4, .inl (eI X, 27, .inl v_letters)), (ad 5, .inl (eI X, 30, .inl v_values)), (ad 6, .inl (eZ X, 30, .inl v_isTold)), (ad 7, .inl (eI X, 30, .inl v_waits)), (ad 8, .inl (eI X, 900, .inl v_readsOf)), (ad 9, .inl (eI X, 30, .inl v_readMany)), (ad 10, .inl (eI X, 30, .inl v_heights)), (ad 11, .inl (eI X, 30, .inl v_oldValues)), (ad 12, .inl (eZ X, 30, .inl v_isOldTold)), (ad 13, .inl (eI X, 30, .inl v_oldReads)), (ad 14, .inl (eI X, 100, .inl v_undos)), (ad 15, .inl (eI X, 103, .inl v_undoAside)), (ad 16, .inl (eI X, 4, .inl v_formula)), (ad 17, .inl (eZ X, 2, .inl v_isKept)), (ad 18, .inl (eI X, 4, .inl v_lanes)), (ad 19, .inl (eI X, 4, .inl v_lengths)), (ad 20, .inl (eI X, 160, .inl v_items))] H L := hW.sub [0, 1, 2, 3, 4, 5, 6, 7, 8, 9, 10, 11, 12, 13, 14, 15, 16, 17, 18, 19, 20] rfl rfl
  show Wx X k 0 0 H L 4 ls [.int r1]
  refine r_istore_n (lv' := [(1, .int r1), (0, .ref (ad 0))]) C hl dX8_readLine_4 rfl (by decide) rfl (fun ls hl => ?_)
  refine r_iload_n C hl 0 dX8_readLine_5 rfl rfl ?_
  refine r_bipush (v := -4) C dX8_readLine_6 (by decide) ?_
  refine r_icmp_ne (tgt := 17) C dX8_readLine_8 (by decide) (fun c8 => ?_) (fun c8 => ?_)
  · replace h := iF c8 h
    refine r_aload_n C hl 1 dX8_readLine_17 rfl rfl ?_
    obtain ⟨c18_broken, c18_brokenAt, c18_spot, c18_here, c18_token, c18_number, h18, h⟩ := bd6_some h
    refine r_V (wr := []) (np := 0) C hl (mX8_readsOn X ad  v_state v_tape v_taped v_fault v_broken v_brokenAt v_spot v_here v_token v_number v_ends v_letters v_values v_isTold v_waits v_readsOf v_readMany v_heights v_isStarted v_oldValues v_isOldTold v_oldReads v_evaluated v_moved v_isChanged v_undos v_undoMany v_undoAside v_formula v_isKept v_lanes v_lengths v_items v_torn v_isAsideChanged  (c18_broken, c18_brokenAt, c18_spot, c18_here, c18_token, c18_number) h18) hW [0, 1, 2, 3, 4, 5, 6, 7, 8, 9, 10, 11, 12, 13, 14, 15, 16, 17, 18, 19, 20] [] rfl rfl rfl rfl (by decide) 0 rfl rfl w_cd_X8_readsOn w_ml_X8_115 w_im_X8_readsOn w_sel_X8_readsOn w_in_HeightSheetModel (by decide +kernel) rfl ⟨Nat.le_of_ble_eq_true rfl, Nat.le_of_ble_eq_true rfl⟩ ⟨Nat.zero_le _, Nat.zero_le _⟩ (Nat.le_of_ble_eq_true rfl) dX8_readLine_18 (fun rv w1 H L hp hW => ?_) rfl
    obtain ⟨rfl, rfl⟩ := hp
    replace hW : Wd X k A [(ad 0, .inr (8, [.ref (ad 1), .ref (ad 2), .int v_taped, .int v_fault, .int c18_broken, .int c18_brokenAt, .int c18_spot, .int c18_here, .int c18_token, .int c18_number, .ref (ad 3), .ref (ad 4), .ref (ad 5), .ref (ad 6), .ref (ad 7), .ref (ad 8), .ref (ad 9), .ref (ad 10), .int v_isStarted, .ref (ad 11), .ref (ad 12), .ref (ad 13), .int v_evaluated, .int v_moved, .int v_isChanged, .ref (ad 14), .int v_undoMany, .ref (ad 15), .ref (ad 16), .ref (ad 17), .ref (ad 18), .ref (ad 19), .ref (ad 20), .int v_torn, .int v_isAsideChanged])), (ad 1, .inl (eI X, 720, .inl v_state)), (ad 2, .inl (eI X, 320, .inl v_tape)), (ad 3, .inl (eI X, 9, .inl v_ends)), (ad 4, .inl (eI X, 27, .inl v_letters)), (ad 5, .inl (eI X, 30, .inl v_values)), (ad 6, .inl (eZ X, 30, .inl v_isTold)), (ad 7, .inl (eI X, 30, .inl v_waits)), (ad 8, .inl (eI X, 900, .inl v_readsOf)), (ad 9, .inl (eI X, 30, .inl v_readMany)), (ad 10, .inl (eI X, 30, .inl v_heights)), (ad 11, .inl (eI X, 30, .inl v_oldValues)), (ad 12, .inl (eZ X, 30, .inl v_isOldTold)), (ad 13, .inl (eI X, 30, .inl v_oldReads)), (ad 14, .inl (eI X, 100, .inl v_undos)), (ad 15, .inl (eI X, 103, .inl v_undoAside)), (ad 16, .inl (eI X, 4, .inl v_formula)), (ad 17, .inl (eZ X, 2, .inl v_isKept)), (ad 18, .inl (eI X, 4, .inl v_lanes)), (ad 19, .inl (eI X, 4, .inl v_lengths)), (ad 20, .inl (eI X, 160, .inl v_items))] H L := hW.sub [0, 1, 2, 3, 4, 5, 6, 7, 8, 9, 10, 11, 12, 13, 14, 15, 16, 17, 18, 19, 20] rfl rfl
    show Wx X k 0 0 H L 21 ls []
    refine r_aload_n C hl 1 dX8_readLine_21 rfl rfl ?_
    refine r_iconst (v := 0) C dX8_readLine_22 (by decide) ?_
    refine r_bipush (v := 29) C dX8_readLine_23 (by decide) ?_
    obtain ⟨r25, c25_broken, c25_brokenAt, c25_spot, c25_here, c25_token, c25_number, h25, h⟩ := bd7_some h
    refine r_V (wr := []) (np := 2) C hl (mX8_numberRead X ad  v_state v_tape v_taped v_fault c18_broken c18_brokenAt c18_spot c18_here c18_token c18_number v_ends v_letters v_values v_isTold v_waits v_readsOf v_readMany v_heights v_isStarted v_oldValues v_isOldTold v_oldReads v_evaluated v_moved v_isChanged v_undos v_undoMany v_undoAside v_formula v_isKept v_lanes v_lengths v_items v_torn v_isAsideChanged (0 : Int32) (29 : Int32) (r25, c25_broken, c25_brokenAt, c25_spot, c25_here, c25_token, c25_number) h25) hW [0, 1, 2, 3, 4, 5, 6, 7, 8, 9, 10, 11, 12, 13, 14, 15, 16, 17, 18, 19, 20] [] rfl rfl rfl rfl (by decide) 0 rfl rfl w_cd_X8_numberRead w_ml_X8_122 w_im_X8_numberRead w_sel_X8_numberRead w_in_HeightSheetModel (by decide +kernel) rfl ⟨Nat.le_of_ble_eq_true rfl, Nat.le_of_ble_eq_true rfl⟩ ⟨Nat.zero_le _, Nat.zero_le _⟩ (Nat.le_of_ble_eq_true rfl) dX8_readLine_25 (fun rv w1 H L hp hW => ?_) rfl
    obtain ⟨rfl, rfl⟩ := hp
    replace hW : Wd X k A [(ad 0, .inr (8, [.ref (ad 1), .ref (ad 2), .int v_taped, .int v_fault, .int c25_broken, .int c25_brokenAt, .int c25_spot, .int c25_here, .int c25_token, .int c25_number, .ref (ad 3), .ref (ad 4), .ref (ad 5), .ref (ad 6), .ref (ad 7), .ref (ad 8), .ref (ad 9), .ref (ad 10), .int v_isStarted, .ref (ad 11), .ref (ad 12), .ref (ad 13), .int v_evaluated, .int v_moved, .int v_isChanged, .ref (ad 14), .int v_undoMany, .ref (ad 15), .ref (ad 16), .ref (ad 17), .ref (ad 18), .ref (ad 19), .ref (ad 20), .int v_torn, .int v_isAsideChanged])), (ad 1, .inl (eI X, 720, .inl v_state)), (ad 2, .inl (eI X, 320, .inl v_tape)), (ad 3, .inl (eI X, 9, .inl v_ends)), (ad 4, .inl (eI X, 27, .inl v_letters)), (ad 5, .inl (eI X, 30, .inl v_values)), (ad 6, .inl (eZ X, 30, .inl v_isTold)), (ad 7, .inl (eI X, 30, .inl v_waits)), (ad 8, .inl (eI X, 900, .inl v_readsOf)), (ad 9, .inl (eI X, 30, .inl v_readMany)), (ad 10, .inl (eI X, 30, .inl v_heights)), (ad 11, .inl (eI X, 30, .inl v_oldValues)), (ad 12, .inl (eZ X, 30, .inl v_isOldTold)), (ad 13, .inl (eI X, 30, .inl v_oldReads)), (ad 14, .inl (eI X, 100, .inl v_undos)), (ad 15, .inl (eI X, 103, .inl v_undoAside)), (ad 16, .inl (eI X, 4, .inl v_formula)), (ad 17, .inl (eZ X, 2, .inl v_isKept)), (ad 18, .inl (eI X, 4, .inl v_lanes)), (ad 19, .inl (eI X, 4, .inl v_lengths)), (ad 20, .inl (eI X, 160, .inl v_items))] H L := hW.sub [0, 1, 2, 3, 4, 5, 6, 7, 8, 9, 10, 11, 12, 13, 14, 15, 16, 17, 18, 19, 20] rfl rfl
    show Wx X k 0 0 H L 28 ls [.int r25]
    refine r_istore_n (lv' := [(2, .int r25), (1, .int r1), (0, .ref (ad 0))]) C hl dX8_readLine_28 rfl (by decide) rfl (fun ls hl => ?_)
    refine r_iconst (v := 1) C dX8_readLine_29 (by decide) ?_
    refine r_istore_n (lv' := [(3, .int (1 : Int32)), (2, .int r25), (1, .int r1), (0, .ref (ad 0))]) C hl dX8_readLine_30 rfl (by decide) rfl (fun ls hl => ?_)
    exact K31 c25_broken c25_brokenAt c25_spot c25_here c25_token c25_number r1 r25 fu v_state (1 : Int32) H L ls hW (lv_sub hl [3, 2, 1, 0] rfl) h
  · replace h := iT c8 h
    refine r_aload_n C hl 1 dX8_readLine_11 rfl rfl ?_
    refine r_iconst (v := 2) C dX8_readLine_12 (by decide) ?_
    obtain ⟨c13_broken, c13_brokenAt, h13, h⟩ := bd2_some h
    refine r_V (wr := []) (np := 1) C hl (mX8_fails X ad  v_state v_tape v_taped v_fault v_broken v_brokenAt v_spot v_here v_token v_number v_ends v_letters v_values v_isTold v_waits v_readsOf v_readMany v_heights v_isStarted v_oldValues v_isOldTold v_oldReads v_evaluated v_moved v_isChanged v_undos v_undoMany v_undoAside v_formula v_isKept v_lanes v_lengths v_items v_torn v_isAsideChanged (2 : Int32) (c13_broken, c13_brokenAt) h13) hW [0, 1, 2, 3, 4, 5, 6, 7, 8, 9, 10, 11, 12, 13, 14, 15, 16, 17, 18, 19, 20] [] rfl rfl rfl rfl (by decide) 0 rfl rfl w_cd_X8_fails w_ml_X8_111 w_im_X8_fails w_sel_X8_fails w_in_HeightSheetModel (by decide +kernel) rfl ⟨Nat.le_of_ble_eq_true rfl, Nat.le_of_ble_eq_true rfl⟩ ⟨Nat.zero_le _, Nat.zero_le _⟩ (Nat.le_of_ble_eq_true rfl) dX8_readLine_13 (fun rv w1 H L hp hW => ?_) rfl
    obtain ⟨rfl, rfl⟩ := hp
    replace hW : Wd X k A [(ad 0, .inr (8, [.ref (ad 1), .ref (ad 2), .int v_taped, .int v_fault, .int c13_broken, .int c13_brokenAt, .int v_spot, .int v_here, .int v_token, .int v_number, .ref (ad 3), .ref (ad 4), .ref (ad 5), .ref (ad 6), .ref (ad 7), .ref (ad 8), .ref (ad 9), .ref (ad 10), .int v_isStarted, .ref (ad 11), .ref (ad 12), .ref (ad 13), .int v_evaluated, .int v_moved, .int v_isChanged, .ref (ad 14), .int v_undoMany, .ref (ad 15), .ref (ad 16), .ref (ad 17), .ref (ad 18), .ref (ad 19), .ref (ad 20), .int v_torn, .int v_isAsideChanged])), (ad 1, .inl (eI X, 720, .inl v_state)), (ad 2, .inl (eI X, 320, .inl v_tape)), (ad 3, .inl (eI X, 9, .inl v_ends)), (ad 4, .inl (eI X, 27, .inl v_letters)), (ad 5, .inl (eI X, 30, .inl v_values)), (ad 6, .inl (eZ X, 30, .inl v_isTold)), (ad 7, .inl (eI X, 30, .inl v_waits)), (ad 8, .inl (eI X, 900, .inl v_readsOf)), (ad 9, .inl (eI X, 30, .inl v_readMany)), (ad 10, .inl (eI X, 30, .inl v_heights)), (ad 11, .inl (eI X, 30, .inl v_oldValues)), (ad 12, .inl (eZ X, 30, .inl v_isOldTold)), (ad 13, .inl (eI X, 30, .inl v_oldReads)), (ad 14, .inl (eI X, 100, .inl v_undos)), (ad 15, .inl (eI X, 103, .inl v_undoAside)), (ad 16, .inl (eI X, 4, .inl v_formula)), (ad 17, .inl (eZ X, 2, .inl v_isKept)), (ad 18, .inl (eI X, 4, .inl v_lanes)), (ad 19, .inl (eI X, 4, .inl v_lengths)), (ad 20, .inl (eI X, 160, .inl v_items))] H L := hW.sub [0, 1, 2, 3, 4, 5, 6, 7, 8, 9, 10, 11, 12, 13, 14, 15, 16, 17, 18, 19, 20] rfl rfl
    show Wx X k 0 0 H L 16 ls []
    exact r_vret C hq hW (by obtain rfl := Option.some.inj h; exact ⟨rfl, rfl⟩) dX8_readLine_16
def fX8_copies_b2 (p1 : Int32) (p2 : Int32)   (self2 : (Nat → Int32) → Int32 → Option ((Nat → Int32))) (v_state : (Nat → Int32)) (l3 : Int32) : Option ((Nat → Int32)) :=
  if (120 : Int32) ≤ l3 then
    some v_state
  else
    rd v_state 720 (p1 + l3) fun x22 =>
    wr v_state 720 (p2 + l3) x22 fun w23 =>
    self2 w23 (l3 + (1 : Int32))
def fX8_copies (v_state : (Nat → Int32)) (p1 : Int32) (p2 : Int32) : Option ((Nat → Int32)) :=
  lq2 (fX8_copies_b2 p1 p2  ) fu v_state (0 : Int32)
set_option maxRecDepth 100000 in
set_option maxHeartbeats 8000000 in
theorem mX8_copies (X : Ev) (ad : Nat → Nat) (v_state : (Nat → Int32)) (v_tape : (Nat → Int32)) (v_taped : Int32) (v_fault : Int32) (v_broken : Int32) (v_brokenAt : Int32) (v_spot : Int32) (v_here : Int32) (v_token : Int32) (v_number : Int32) (v_ends : (Nat → Int32)) (v_letters : (Nat → Int32)) (v_values : (Nat → Int32)) (v_isTold : (Nat → Int32)) (v_waits : (Nat → Int32)) (v_readsOf : (Nat → Int32)) (v_readMany : (Nat → Int32)) (v_heights : (Nat → Int32)) (v_isStarted : Int32) (v_oldValues : (Nat → Int32)) (v_isOldTold : (Nat → Int32)) (v_oldReads : (Nat → Int32)) (v_evaluated : Int32) (v_moved : Int32) (v_isChanged : Int32) (v_undos : (Nat → Int32)) (v_undoMany : Int32) (v_undoAside : (Nat → Int32)) (v_formula : (Nat → Int32)) (v_isKept : (Nat → Int32)) (v_lanes : (Nat → Int32)) (v_lengths : (Nat → Int32)) (v_items : (Nat → Int32)) (v_torn : Int32) (v_isAsideChanged : Int32) (p1 : Int32) (p2 : Int32) (o : (Nat → Int32)) (h : fX8_copies v_state p1 p2 = some o) : Ctr X yX8_copies cX8_copies 4 none 0 0 0 0 [.ref (ad 0), .int p1, .int p2] [(ad 0, .inr (8, [.ref (ad 1), .ref (ad 2), .int v_taped, .int v_fault, .int v_broken, .int v_brokenAt, .int v_spot, .int v_here, .int v_token, .int v_number, .ref (ad 3), .ref (ad 4), .ref (ad 5), .ref (ad 6), .ref (ad 7), .ref (ad 8), .ref (ad 9), .ref (ad 10), .int v_isStarted, .ref (ad 11), .ref (ad 12), .ref (ad 13), .int v_evaluated, .int v_moved, .int v_isChanged, .ref (ad 14), .int v_undoMany, .ref (ad 15), .ref (ad 16), .ref (ad 17), .ref (ad 18), .ref (ad 19), .ref (ad 20), .int v_torn, .int v_isAsideChanged])), (ad 1, .inl (eI X, 720, .inl v_state)), (ad 2, .inl (eI X, 320, .inl v_tape)), (ad 3, .inl (eI X, 9, .inl v_ends)), (ad 4, .inl (eI X, 27, .inl v_letters)), (ad 5, .inl (eI X, 30, .inl v_values)), (ad 6, .inl (eZ X, 30, .inl v_isTold)), (ad 7, .inl (eI X, 30, .inl v_waits)), (ad 8, .inl (eI X, 900, .inl v_readsOf)), (ad 9, .inl (eI X, 30, .inl v_readMany)), (ad 10, .inl (eI X, 30, .inl v_heights)), (ad 11, .inl (eI X, 30, .inl v_oldValues)), (ad 12, .inl (eZ X, 30, .inl v_isOldTold)), (ad 13, .inl (eI X, 30, .inl v_oldReads)), (ad 14, .inl (eI X, 100, .inl v_undos)), (ad 15, .inl (eI X, 103, .inl v_undoAside)), (ad 16, .inl (eI X, 4, .inl v_formula)), (ad 17, .inl (eZ X, 2, .inl v_isKept)), (ad 18, .inl (eI X, 4, .inl v_lanes)), (ad 19, .inl (eI X, 4, .inl v_lengths)), (ad 20, .inl (eI X, 160, .inl v_items))] (De none [(ad 0, .inr (8, [.ref (ad 1), .ref (ad 2), .int v_taped, .int v_fault, .int v_broken, .int v_brokenAt, .int v_spot, .int v_here, .int v_token, .int v_number, .ref (ad 3), .ref (ad 4), .ref (ad 5), .ref (ad 6), .ref (ad 7), .ref (ad 8), .ref (ad 9), .ref (ad 10), .int v_isStarted, .ref (ad 11), .ref (ad 12), .ref (ad 13), .int v_evaluated, .int v_moved, .int v_isChanged, .ref (ad 14), .int v_undoMany, .ref (ad 15), .ref (ad 16), .ref (ad 17), .ref (ad 18), .ref (ad 19), .ref (ad 20), .int v_torn, .int v_isAsideChanged])), (ad 1, .inl (eI X, 720, .inl o)), (ad 2, .inl (eI X, 320, .inl v_tape)), (ad 3, .inl (eI X, 9, .inl v_ends)), (ad 4, .inl (eI X, 27, .inl v_letters)), (ad 5, .inl (eI X, 30, .inl v_values)), (ad 6, .inl (eZ X, 30, .inl v_isTold)), (ad 7, .inl (eI X, 30, .inl v_waits)), (ad 8, .inl (eI X, 900, .inl v_readsOf)), (ad 9, .inl (eI X, 30, .inl v_readMany)), (ad 10, .inl (eI X, 30, .inl v_heights)), (ad 11, .inl (eI X, 30, .inl v_oldValues)), (ad 12, .inl (eZ X, 30, .inl v_isOldTold)), (ad 13, .inl (eI X, 30, .inl v_oldReads)), (ad 14, .inl (eI X, 100, .inl v_undos)), (ad 15, .inl (eI X, 103, .inl v_undoAside)), (ad 16, .inl (eI X, 4, .inl v_formula)), (ad 17, .inl (eZ X, 2, .inl v_isKept)), (ad 18, .inl (eI X, 4, .inl v_lanes)), (ad 19, .inl (eI X, 4, .inl v_lengths)), (ad 20, .inl (eI X, 160, .inl v_items))]) := by
  refine Ctr.start (by decide) (Nat.le_of_ble_eq_true rfl) (fun k A ls C hq hin hW hl => ?_)
  replace C : Cx X k cX8_copies 4 none RX8 A 0 0 0 0 := C
  replace hl : lv_has ls 4 [(0, .ref (ad 0)), (1, .int p1), (2, .int p2)] := hl
  suffices hh : ∀ (H : Heap) (L : List Loc), Wd X k A [(ad 0, .inr (8, [.ref (ad 1), .ref (ad 2), .int v_taped, .int v_fault, .int v_broken, .int v_brokenAt, .int v_spot, .int v_here, .int v_token, .int v_number, .ref (ad 3), .ref (ad 4), .ref (ad 5), .ref (ad 6), .ref (ad 7), .ref (ad 8), .ref (ad 9), .ref (ad 10), .int v_isStarted, .ref (ad 11), .ref (ad 12), .ref (ad 13), .int v_evaluated, .int v_moved, .int v_isChanged, .ref (ad 14), .int v_undoMany, .ref (ad 15), .ref (ad 16), .ref (ad 17), .ref (ad 18), .ref (ad 19), .ref (ad 20), .int v_torn, .int v_isAsideChanged])), (ad 1, .inl (eI X, 720, .inl v_state)), (ad 2, .inl (eI X, 320, .inl v_tape)), (ad 3, .inl (eI X, 9, .inl v_ends)), (ad 4, .inl (eI X, 27, .inl v_letters)), (ad 5, .inl (eI X, 30, .inl v_values)), (ad 6, .inl (eZ X, 30, .inl v_isTold)), (ad 7, .inl (eI X, 30, .inl v_waits)), (ad 8, .inl (eI X, 900, .inl v_readsOf)), (ad 9, .inl (eI X, 30, .inl v_readMany)), (ad 10, .inl (eI X, 30, .inl v_heights)), (ad 11, .inl (eI X, 30, .inl v_oldValues)), (ad 12, .inl (eZ X, 30, .inl v_isOldTold)), (ad 13, .inl (eI X, 30, .inl v_oldReads)), (ad 14, .inl (eI X, 100, .inl v_undos)), (ad 15, .inl (eI X, 103, .inl v_undoAside)), (ad 16, .inl (eI X, 4, .inl v_formula)), (ad 17, .inl (eZ X, 2, .inl v_isKept)), (ad 18, .inl (eI X, 4, .inl v_lanes)), (ad 19, .inl (eI X, 4, .inl v_lengths)), (ad 20, .inl (eI X, 160, .inl v_items))] H L → Wx X k 0 0 H L 0 ls [] from hh _ _ hW
  clear hW
  intro H L hW
  have K2 : ∀ (n2 : Nat), ∀ (v_state : (Nat → Int32)), ∀ (l3 : Int32), ∀ (H : Heap) (L : List Loc) (ls : Array Slot), Wd X k A [(ad 0, .inr (8, [.ref (ad 1), .ref (ad 2), .int v_taped, .int v_fault, .int v_broken, .int v_brokenAt, .int v_spot, .int v_here, .int v_token, .int v_number, .ref (ad 3), .ref (ad 4), .ref (ad 5), .ref (ad 6), .ref (ad 7), .ref (ad 8), .ref (ad 9), .ref (ad 10), .int v_isStarted, .ref (ad 11), .ref (ad 12), .ref (ad 13), .int v_evaluated, .int v_moved, .int v_isChanged, .ref (ad 14), .int v_undoMany, .ref (ad 15), .ref (ad 16), .ref (ad 17), .ref (ad 18), .ref (ad 19), .ref (ad 20), .int v_torn, .int v_isAsideChanged])), (ad 1, .inl (eI X, 720, .inl v_state)), (ad 2, .inl (eI X, 320, .inl v_tape)), (ad 3, .inl (eI X, 9, .inl v_ends)), (ad 4, .inl (eI X, 27, .inl v_letters)), (ad 5, .inl (eI X, 30, .inl v_values)), (ad 6, .inl (eZ X, 30, .inl v_isTold)), (ad 7, .inl (eI X, 30, .inl v_waits)), (ad 8, .inl (eI X, 900, .inl v_readsOf)), (ad 9, .inl (eI X, 30, .inl v_readMany)), (ad 10, .inl (eI X, 30, .inl v_heights)), (ad 11, .inl (eI X, 30, .inl v_oldValues)), (ad 12, .inl (eZ X, 30, .inl v_isOldTold)), (ad 13, .inl (eI X, 30, .inl v_oldReads)), (ad 14, .inl (eI X, 100, .inl v_undos)), (ad 15, .inl (eI X, 103, .inl v_undoAside)), (ad 16, .inl (eI X, 4, .inl v_formula)), (ad 17, .inl (eZ X, 2, .inl v_isKept)), (ad 18, .inl (eI X, 4, .inl v_lanes)), (ad 19, .inl (eI X, 4, .inl v_lengths)), (ad 20, .inl (eI X, 160, .inl v_items))] H L → lv_has ls 4 [(0, .ref (ad 0)), (1, .int p1), (2, .int p2), (3, .int l3)] → lq2 (fX8_copies_b2 p1 p2  ) n2 v_state l3 = some o → Wx X k 0 0 H L 2 ls [] := by
    intro n2
    induction n2 with
    | zero => intro v_state l3 H L ls hW hl h; exact lq2_0 h
    | succ n2 ih2 =>
      intro v_state l3 H L ls hW hl h
      rw [lq2_s] at h
      unfold fX8_copies_b2 at h
      refine r_iload_n C hl 3 dX8_copies_2 rfl rfl ?_
      refine r_bipush (v := 120) C dX8_copies_3 (by decide) ?_
      refine r_icmp_ge (tgt := 30) C dX8_copies_5 (by decide) (fun c5 => ?_) (fun c5 => ?_)
      · replace h := iT c5 h
        exact r_vret C hq hW (by obtain rfl := Option.some.inj h; exact ⟨rfl, rfl⟩) dX8_copies_30
      · replace h := iF c5 h
        refine r_aload_n C hl 0 dX8_copies_8 rfl rfl ?_
        refine r_get C hW 0 rfl rfl iwX8 0 (by decide) w_fl_X8_7 rfl dX8_copies_9 ?_
        refine r_iload_n C hl 2 dX8_copies_12 rfl rfl ?_
        refine r_iload_n C hl 3 dX8_copies_13 rfl rfl ?_
        refine r_iadd C dX8_copies_14 ?_
        refine r_aload_n C hl 0 dX8_copies_15 rfl rfl ?_
        refine r_get C hW 0 rfl rfl iwX8 0 (by decide) w_fl_X8_7 rfl dX8_copies_16 ?_
        refine r_iload_n C hl 1 dX8_copies_19 rfl rfl ?_
        refine r_iload_n C hl 3 dX8_copies_20 rfl rfl ?_
        refine r_iadd C dX8_copies_21 ?_
        obtain ⟨x22, e22, g22, h⟩ := rd_some h
        refine r_iald C hW 1 rfl g22 e22 dX8_copies_22 ?_
        obtain ⟨w23, e23, g23, h⟩ := wr_some h
        refine r_iast (ws' := [(ad 0, .inr (8, [.ref (ad 1), .ref (ad 2), .int v_taped, .int v_fault, .int v_broken, .int v_brokenAt, .int v_spot, .int v_here, .int v_token, .int v_number, .ref (ad 3), .ref (ad 4), .ref (ad 5), .ref (ad 6), .ref (ad 7), .ref (ad 8), .ref (ad 9), .ref (ad 10), .int v_isStarted, .ref (ad 11), .ref (ad 12), .ref (ad 13), .int v_evaluated, .int v_moved, .int v_isChanged, .ref (ad 14), .int v_undoMany, .ref (ad 15), .ref (ad 16), .ref (ad 17), .ref (ad 18), .ref (ad 19), .ref (ad 20), .int v_torn, .int v_isAsideChanged])), (ad 1, .inl (eI X, 720, .inl w23)), (ad 2, .inl (eI X, 320, .inl v_tape)), (ad 3, .inl (eI X, 9, .inl v_ends)), (ad 4, .inl (eI X, 27, .inl v_letters)), (ad 5, .inl (eI X, 30, .inl v_values)), (ad 6, .inl (eZ X, 30, .inl v_isTold)), (ad 7, .inl (eI X, 30, .inl v_waits)), (ad 8, .inl (eI X, 900, .inl v_readsOf)), (ad 9, .inl (eI X, 30, .inl v_readMany)), (ad 10, .inl (eI X, 30, .inl v_heights)), (ad 11, .inl (eI X, 30, .inl v_oldValues)), (ad 12, .inl (eZ X, 30, .inl v_isOldTold)), (ad 13, .inl (eI X, 30, .inl v_oldReads)), (ad 14, .inl (eI X, 100, .inl v_undos)), (ad 15, .inl (eI X, 103, .inl v_undoAside)), (ad 16, .inl (eI X, 4, .inl v_formula)), (ad 17, .inl (eZ X, 2, .inl v_isKept)), (ad 18, .inl (eI X, 4, .inl v_lanes)), (ad 19, .inl (eI X, 4, .inl v_lengths)), (ad 20, .inl (eI X, 160, .inl v_items))]) C hW 1 rfl g23 e23 rfl dX8_copies_23 (fun H L hW => ?_)
        refine r_iinc (j := 3) (v := l3 + (1 : Int32)) (lv' := [(3, .int (l3 + (1 : Int32))), (0, .ref (ad 0)), (1, .int p1), (2, .int p2)]) C hl dX8_copies_24 rfl rfl (by decide) rfl (fun ls hl => ?_)
        refine r_goto (tgt := 2) C dX8_copies_27 (by decide) ?_
        exact ih2 w23 (l3 + (1 : Int32)) H L ls hW (lv_sub hl [1, 2, 3, 0] rfl) h
  unfold fX8_copies at h
  refine r_iconst (v := 0) C dX8_copies_0 (by decide) ?_
  refine r_istore_n (lv' := [(3, .int (0 : Int32)), (0, .ref (ad 0)), (1, .int p1), (2, .int p2)]) C hl dX8_copies_1 rfl (by decide) rfl (fun ls hl => ?_)
  exact K2  fu v_state (0 : Int32) H L ls hW (lv_sub hl [1, 2, 3, 0] rfl) h
def fX8_isReadBy_j112 (v_isTold : (Nat → Int32)) (p1 : Int32) (p2 : Int32)  (v_waits : (Nat → Int32)) (v_readsOf : (Nat → Int32)) (v_readMany : (Nat → Int32)) (s1 : Int32) (s2 : Int32) : Option (Int32 × (Nat → Int32) × (Nat → Int32) × (Nat → Int32)) :=
  wr v_waits 30 s1 s2 fun w112 =>
  rd v_isTold 30 p2 fun x118 =>
  ck (x118 = 0 ∨ x118 = 1) <|
  some (x118, w112, v_readsOf, v_readMany)
def fX8_isReadBy_j92 (v_isTold : (Nat → Int32)) (p1 : Int32) (p2 : Int32)  (v_waits : (Nat → Int32)) (v_readsOf : (Nat → Int32)) (v_readMany : (Nat → Int32)) : Option (Int32 × (Nat → Int32) × (Nat → Int32) × (Nat → Int32)) :=
  rd v_isTold 30 p2 fun x102 =>
  if x102 = (0 : Int32) then
    fX8_isReadBy_j112 v_isTold p1 p2  v_waits v_readsOf v_readMany p1 p2
  else
    fX8_isReadBy_j112 v_isTold p1 p2  v_waits v_readsOf v_readMany p1 (-4 : Int32)
def fX8_isReadBy_j54 (v_isTold : (Nat → Int32)) (p1 : Int32) (p2 : Int32) (self18 : Int32 → Int32 → Option (Int32 × (Nat → Int32) × (Nat → Int32) × (Nat → Int32))) (v_waits : (Nat → Int32)) (v_readsOf : (Nat → Int32)) (v_readMany : (Nat → Int32)) (l4 : Int32) (s0 : Int32) : Option (Int32 × (Nat → Int32) × (Nat → Int32) × (Nat → Int32)) :=
  self18 s0 (l4 + (1 : Int32))
def fX8_isReadBy_j49 (v_isTold : (Nat → Int32)) (p1 : Int32) (p2 : Int32) (self18 : Int32 → Int32 → Option (Int32 × (Nat → Int32) × (Nat → Int32) × (Nat → Int32))) (v_waits : (Nat → Int32)) (v_readsOf : (Nat → Int32)) (v_readMany : (Nat → Int32)) (l4 : Int32) : Option (Int32 × (Nat → Int32) × (Nat → Int32) × (Nat → Int32)) :=
  fX8_isReadBy_j54 v_isTold p1 p2 self18 v_waits v_readsOf v_readMany l4 (1 : Int32)
def fX8_isReadBy_b18 (v_isTold : (Nat → Int32)) (p1 : Int32) (p2 : Int32)  (v_waits : (Nat → Int32)) (v_readsOf : (Nat → Int32)) (v_readMany : (Nat → Int32)) (self18 : Int32 → Int32 → Option (Int32 × (Nat → Int32) × (Nat → Int32) × (Nat → Int32))) (l3 : Int32) (l4 : Int32) : Option (Int32 × (Nat → Int32) × (Nat → Int32) × (Nat → Int32)) :=
  rd v_readMany 30 p1 fun x25 =>
  if x25 ≤ l4 then
    if l3 = (0 : Int32) then
      rd v_readMany 30 p1 fun x78 =>
      wr v_readsOf 900 (((30 : Int32) * p1) + x78) p2 fun w81 =>
      rd v_readMany 30 p1 fun x88 =>
      wr v_readMany 30 p1 (x88 + (1 : Int32)) fun w91 =>
      fX8_isReadBy_j92 v_isTold p1 p2  v_waits w81 w91
    else
      fX8_isReadBy_j92 v_isTold p1 p2  v_waits v_readsOf v_readMany
  else
    if l3 = (0 : Int32) then
      rd v_readsOf 900 (((30 : Int32) * p1) + l4) fun x44 =>
      if x44 = p2 then
        fX8_isReadBy_j49 v_isTold p1 p2 self18 v_waits v_readsOf v_readMany l4
      else
        fX8_isReadBy_j54 v_isTold p1 p2 self18 v_waits v_readsOf v_readMany l4 (0 : Int32)
    else
      fX8_isReadBy_j49 v_isTold p1 p2 self18 v_waits v_readsOf v_readMany l4
def fX8_isReadBy (v_isTold : (Nat → Int32)) (v_waits : (Nat → Int32)) (v_readsOf : (Nat → Int32)) (v_readMany : (Nat → Int32)) (p1 : Int32) (p2 : Int32) : Option (Int32 × (Nat → Int32) × (Nat → Int32) × (Nat → Int32)) :=
  rd v_waits 30 p1 fun x5 =>
  if x5 = (-4 : Int32) then
    lq2 (fX8_isReadBy_b18 v_isTold p1 p2  v_waits v_readsOf v_readMany) fu (0 : Int32) (0 : Int32)
  else
    some ((0 : Int32), v_waits, v_readsOf, v_readMany)
set_option maxRecDepth 100000 in
set_option maxHeartbeats 8000000 in
theorem mX8_isReadBy (X : Ev) (ad : Nat → Nat) (v_state : (Nat → Int32)) (v_tape : (Nat → Int32)) (v_taped : Int32) (v_fault : Int32) (v_broken : Int32) (v_brokenAt : Int32) (v_spot : Int32) (v_here : Int32) (v_token : Int32) (v_number : Int32) (v_ends : (Nat → Int32)) (v_letters : (Nat → Int32)) (v_values : (Nat → Int32)) (v_isTold : (Nat → Int32)) (v_waits : (Nat → Int32)) (v_readsOf : (Nat → Int32)) (v_readMany : (Nat → Int32)) (v_heights : (Nat → Int32)) (v_isStarted : Int32) (v_oldValues : (Nat → Int32)) (v_isOldTold : (Nat → Int32)) (v_oldReads : (Nat → Int32)) (v_evaluated : Int32) (v_moved : Int32) (v_isChanged : Int32) (v_undos : (Nat → Int32)) (v_undoMany : Int32) (v_undoAside : (Nat → Int32)) (v_formula : (Nat → Int32)) (v_isKept : (Nat → Int32)) (v_lanes : (Nat → Int32)) (v_lengths : (Nat → Int32)) (v_items : (Nat → Int32)) (v_torn : Int32) (v_isAsideChanged : Int32) (p1 : Int32) (p2 : Int32) (o : Int32 × (Nat → Int32) × (Nat → Int32) × (Nat → Int32)) (h : fX8_isReadBy v_isTold v_waits v_readsOf v_readMany p1 p2 = some o) : Ctr X yX8_isReadBy cX8_isReadBy 5 (some .boolean) 0 0 0 0 [.ref (ad 0), .int p1, .int p2] [(ad 0, .inr (8, [.ref (ad 1), .ref (ad 2), .int v_taped, .int v_fault, .int v_broken, .int v_brokenAt, .int v_spot, .int v_here, .int v_token, .int v_number, .ref (ad 3), .ref (ad 4), .ref (ad 5), .ref (ad 6), .ref (ad 7), .ref (ad 8), .ref (ad 9), .ref (ad 10), .int v_isStarted, .ref (ad 11), .ref (ad 12), .ref (ad 13), .int v_evaluated, .int v_moved, .int v_isChanged, .ref (ad 14), .int v_undoMany, .ref (ad 15), .ref (ad 16), .ref (ad 17), .ref (ad 18), .ref (ad 19), .ref (ad 20), .int v_torn, .int v_isAsideChanged])), (ad 1, .inl (eI X, 720, .inl v_state)), (ad 2, .inl (eI X, 320, .inl v_tape)), (ad 3, .inl (eI X, 9, .inl v_ends)), (ad 4, .inl (eI X, 27, .inl v_letters)), (ad 5, .inl (eI X, 30, .inl v_values)), (ad 6, .inl (eZ X, 30, .inl v_isTold)), (ad 7, .inl (eI X, 30, .inl v_waits)), (ad 8, .inl (eI X, 900, .inl v_readsOf)), (ad 9, .inl (eI X, 30, .inl v_readMany)), (ad 10, .inl (eI X, 30, .inl v_heights)), (ad 11, .inl (eI X, 30, .inl v_oldValues)), (ad 12, .inl (eZ X, 30, .inl v_isOldTold)), (ad 13, .inl (eI X, 30, .inl v_oldReads)), (ad 14, .inl (eI X, 100, .inl v_undos)), (ad 15, .inl (eI X, 103, .inl v_undoAside)), (ad 16, .inl (eI X, 4, .inl v_formula)), (ad 17, .inl (eZ X, 2, .inl v_isKept)), (ad 18, .inl (eI X, 4, .inl v_lanes)), (ad 19, .inl (eI X, 4, .inl v_lengths)), (ad 20, .inl (eI X, 160, .inl v_items))] (De (some (.int o.1)) [(ad 0, .inr (8, [.ref (ad 1), .ref (ad 2), .int v_taped, .int v_fault, .int v_broken, .int v_brokenAt, .int v_spot, .int v_here, .int v_token, .int v_number, .ref (ad 3), .ref (ad 4), .ref (ad 5), .ref (ad 6), .ref (ad 7), .ref (ad 8), .ref (ad 9), .ref (ad 10), .int v_isStarted, .ref (ad 11), .ref (ad 12), .ref (ad 13), .int v_evaluated, .int v_moved, .int v_isChanged, .ref (ad 14), .int v_undoMany, .ref (ad 15), .ref (ad 16), .ref (ad 17), .ref (ad 18), .ref (ad 19), .ref (ad 20), .int v_torn, .int v_isAsideChanged])), (ad 1, .inl (eI X, 720, .inl v_state)), (ad 2, .inl (eI X, 320, .inl v_tape)), (ad 3, .inl (eI X, 9, .inl v_ends)), (ad 4, .inl (eI X, 27, .inl v_letters)), (ad 5, .inl (eI X, 30, .inl v_values)), (ad 6, .inl (eZ X, 30, .inl v_isTold)), (ad 7, .inl (eI X, 30, .inl (o.2.1))), (ad 8, .inl (eI X, 900, .inl (o.2.2.1))), (ad 9, .inl (eI X, 30, .inl (o.2.2.2))), (ad 10, .inl (eI X, 30, .inl v_heights)), (ad 11, .inl (eI X, 30, .inl v_oldValues)), (ad 12, .inl (eZ X, 30, .inl v_isOldTold)), (ad 13, .inl (eI X, 30, .inl v_oldReads)), (ad 14, .inl (eI X, 100, .inl v_undos)), (ad 15, .inl (eI X, 103, .inl v_undoAside)), (ad 16, .inl (eI X, 4, .inl v_formula)), (ad 17, .inl (eZ X, 2, .inl v_isKept)), (ad 18, .inl (eI X, 4, .inl v_lanes)), (ad 19, .inl (eI X, 4, .inl v_lengths)), (ad 20, .inl (eI X, 160, .inl v_items))]) := by
  refine Ctr.start (by decide) (Nat.le_of_ble_eq_true rfl) (fun k A ls C hq hin hW hl => ?_)
  replace C : Cx X k cX8_isReadBy 5 (some .boolean) RX8 A 0 0 0 0 := C
  replace hl : lv_has ls 5 [(0, .ref (ad 0)), (1, .int p1), (2, .int p2)] := hl
  suffices hh : ∀ (H : Heap) (L : List Loc), Wd X k A [(ad 0, .inr (8, [.ref (ad 1), .ref (ad 2), .int v_taped, .int v_fault, .int v_broken, .int v_brokenAt, .int v_spot, .int v_here, .int v_token, .int v_number, .ref (ad 3), .ref (ad 4), .ref (ad 5), .ref (ad 6), .ref (ad 7), .ref (ad 8), .ref (ad 9), .ref (ad 10), .int v_isStarted, .ref (ad 11), .ref (ad 12), .ref (ad 13), .int v_evaluated, .int v_moved, .int v_isChanged, .ref (ad 14), .int v_undoMany, .ref (ad 15), .ref (ad 16), .ref (ad 17), .ref (ad 18), .ref (ad 19), .ref (ad 20), .int v_torn, .int v_isAsideChanged])), (ad 1, .inl (eI X, 720, .inl v_state)), (ad 2, .inl (eI X, 320, .inl v_tape)), (ad 3, .inl (eI X, 9, .inl v_ends)), (ad 4, .inl (eI X, 27, .inl v_letters)), (ad 5, .inl (eI X, 30, .inl v_values)), (ad 6, .inl (eZ X, 30, .inl v_isTold)), (ad 7, .inl (eI X, 30, .inl v_waits)), (ad 8, .inl (eI X, 900, .inl v_readsOf)), (ad 9, .inl (eI X, 30, .inl v_readMany)), (ad 10, .inl (eI X, 30, .inl v_heights)), (ad 11, .inl (eI X, 30, .inl v_oldValues)), (ad 12, .inl (eZ X, 30, .inl v_isOldTold)), (ad 13, .inl (eI X, 30, .inl v_oldReads)), (ad 14, .inl (eI X, 100, .inl v_undos)), (ad 15, .inl (eI X, 103, .inl v_undoAside)), (ad 16, .inl (eI X, 4, .inl v_formula)), (ad 17, .inl (eZ X, 2, .inl v_isKept)), (ad 18, .inl (eI X, 4, .inl v_lanes)), (ad 19, .inl (eI X, 4, .inl v_lengths)), (ad 20, .inl (eI X, 160, .inl v_items))] H L → Wx X k 0 0 H L 0 ls [] from hh _ _ hW
  clear hW
  intro H L hW
  have K112 : ∀ (v_waits : (Nat → Int32)), ∀ (v_readsOf : (Nat → Int32)), ∀ (v_readMany : (Nat → Int32)), ∀ (s1 : Int32), ∀ (s2 : Int32), ∀ (H : Heap) (L : List Loc) (ls : Array Slot), Wd X k A [(ad 0, .inr (8, [.ref (ad 1), .ref (ad 2), .int v_taped, .int v_fault, .int v_broken, .int v_brokenAt, .int v_spot, .int v_here, .int v_token, .int v_number, .ref (ad 3), .ref (ad 4), .ref (ad 5), .ref (ad 6), .ref (ad 7), .ref (ad 8), .ref (ad 9), .ref (ad 10), .int v_isStarted, .ref (ad 11), .ref (ad 12), .ref (ad 13), .int v_evaluated, .int v_moved, .int v_isChanged, .ref (ad 14), .int v_undoMany, .ref (ad 15), .ref (ad 16), .ref (ad 17), .ref (ad 18), .ref (ad 19), .ref (ad 20), .int v_torn, .int v_isAsideChanged])), (ad 1, .inl (eI X, 720, .inl v_state)), (ad 2, .inl (eI X, 320, .inl v_tape)), (ad 3, .inl (eI X, 9, .inl v_ends)), (ad 4, .inl (eI X, 27, .inl v_letters)), (ad 5, .inl (eI X, 30, .inl v_values)), (ad 6, .inl (eZ X, 30, .inl v_isTold)), (ad 7, .inl (eI X, 30, .inl v_waits)), (ad 8, .inl (eI X, 900, .inl v_readsOf)), (ad 9, .inl (eI X, 30, .inl v_readMany)), (ad 10, .inl (eI X, 30, .inl v_heights)), (ad 11, .inl (eI X, 30, .inl v_oldValues)), (ad 12, .inl (eZ X, 30, .inl v_isOldTold)), (ad 13, .inl (eI X, 30, .inl v_oldReads)), (ad 14, .inl (eI X, 100, .inl v_undos)), (ad 15, .inl (eI X, 103, .inl v_undoAside)), (ad 16, .inl (eI X, 4, .inl v_formula)), (ad 17, .inl (eZ X, 2, .inl v_isKept)), (ad 18, .inl (eI X, 4, .inl v_lanes)), (ad 19, .inl (eI X, 4, .inl v_lengths)), (ad 20, .inl (eI X, 160, .inl v_items))] H L → lv_has ls 5 [(0, .ref (ad 0)), (2, .int p2)] → fX8_isReadBy_j112 v_isTold p1 p2  v_waits v_readsOf v_readMany s1 s2 = some o → Wx X k 0 0 H L 112 ls [.int s2, .int s1, .ref (ad 7)] := by
    intro v_waits v_readsOf v_readMany s1 s2 H L ls hW hl h
    unfold fX8_isReadBy_j112 at h
    obtain ⟨w112, e112, g112, h⟩ := wr_some h
    refine r_iast (ws' := [(ad 0, .inr (8, [.ref (ad 1), .ref (ad 2), .int v_taped, .int v_fault, .int v_broken, .int v_brokenAt, .int v_spot, .int v_here, .int v_token, .int v_number, .ref (ad 3), .ref (ad 4), .ref (ad 5), .ref (ad 6), .ref (ad 7), .ref (ad 8), .ref (ad 9), .ref (ad 10), .int v_isStarted, .ref (ad 11), .ref (ad 12), .ref (ad 13), .int v_evaluated, .int v_moved, .int v_isChanged, .ref (ad 14), .int v_undoMany, .ref (ad 15), .ref (ad 16), .ref (ad 17), .ref (ad 18), .ref (ad 19), .ref (ad 20), .int v_torn, .int v_isAsideChanged])), (ad 1, .inl (eI X, 720, .inl v_state)), (ad 2, .inl (eI X, 320, .inl v_tape)), (ad 3, .inl (eI X, 9, .inl v_ends)), (ad 4, .inl (eI X, 27, .inl v_letters)), (ad 5, .inl (eI X, 30, .inl v_values)), (ad 6, .inl (eZ X, 30, .inl v_isTold)), (ad 7, .inl (eI X, 30, .inl w112)), (ad 8, .inl (eI X, 900, .inl v_readsOf)), (ad 9, .inl (eI X, 30, .inl v_readMany)), (ad 10, .inl (eI X, 30, .inl v_heights)), (ad 11, .inl (eI X, 30, .inl v_oldValues)), (ad 12, .inl (eZ X, 30, .inl v_isOldTold)), (ad 13, .inl (eI X, 30, .inl v_oldReads)), (ad 14, .inl (eI X, 100, .inl v_undos)), (ad 15, .inl (eI X, 103, .inl v_undoAside)), (ad 16, .inl (eI X, 4, .inl v_formula)), (ad 17, .inl (eZ X, 2, .inl v_isKept)), (ad 18, .inl (eI X, 4, .inl v_lanes)), (ad 19, .inl (eI X, 4, .inl v_lengths)), (ad 20, .inl (eI X, 160, .inl v_items))]) C hW 7 rfl g112 e112 rfl dX8_isReadBy_112 (fun H L hW => ?_)
    refine r_aload_n C hl 0 dX8_isReadBy_113 rfl rfl ?_
    refine r_get C hW 0 rfl rfl iwX8 13 (by decide) w_fl_X8_25 rfl dX8_isReadBy_114 ?_
    refine r_iload_n C hl 1 dX8_isReadBy_117 rfl rfl ?_
    obtain ⟨x118, e118, g118, h⟩ := rd_some h
    refine r_zald C hW 6 rfl g118 e118 dX8_isReadBy_118 ?_
    obtain ⟨z119, h⟩ := ck_some h
    exact r_zret C hq hW (zb_n z119) (by obtain rfl := Option.some.inj h; exact ⟨rfl, rfl⟩) dX8_isReadBy_119
  have K92 : ∀ (v_waits : (Nat → Int32)), ∀ (v_readsOf : (Nat → Int32)), ∀ (v_readMany : (Nat → Int32)), ∀ (H : Heap) (L : List Loc) (ls : Array Slot), Wd X k A [(ad 0, .inr (8, [.ref (ad 1), .ref (ad 2), .int v_taped, .int v_fault, .int v_broken, .int v_brokenAt, .int v_spot, .int v_here, .int v_token, .int v_number, .ref (ad 3), .ref (ad 4), .ref (ad 5), .ref (ad 6), .ref (ad 7), .ref (ad 8), .ref (ad 9), .ref (ad 10), .int v_isStarted, .ref (ad 11), .ref (ad 12), .ref (ad 13), .int v_evaluated, .int v_moved, .int v_isChanged, .ref (ad 14), .int v_undoMany, .ref (ad 15), .ref (ad 16), .ref (ad 17), .ref (ad 18), .ref (ad 19), .ref (ad 20), .int v_torn, .int v_isAsideChanged])), (ad 1, .inl (eI X, 720, .inl v_state)), (ad 2, .inl (eI X, 320, .inl v_tape)), (ad 3, .inl (eI X, 9, .inl v_ends)), (ad 4, .inl (eI X, 27, .inl v_letters)), (ad 5, .inl (eI X, 30, .inl v_values)), (ad 6, .inl (eZ X, 30, .inl v_isTold)), (ad 7, .inl (eI X, 30, .inl v_waits)), (ad 8, .inl (eI X, 900, .inl v_readsOf)), (ad 9, .inl (eI X, 30, .inl v_readMany)), (ad 10, .inl (eI X, 30, .inl v_heights)), (ad 11, .inl (eI X, 30, .inl v_oldValues)), (ad 12, .inl (eZ X, 30, .inl v_isOldTold)), (ad 13, .inl (eI X, 30, .inl v_oldReads)), (ad 14, .inl (eI X, 100, .inl v_undos)), (ad 15, .inl (eI X, 103, .inl v_undoAside)), (ad 16, .inl (eI X, 4, .inl v_formula)), (ad 17, .inl (eZ X, 2, .inl v_isKept)), (ad 18, .inl (eI X, 4, .inl v_lanes)), (ad 19, .inl (eI X, 4, .inl v_lengths)), (ad 20, .inl (eI X, 160, .inl v_items))] H L → lv_has ls 5 [(0, .ref (ad 0)), (1, .int p1), (2, .int p2)] → fX8_isReadBy_j92 v_isTold p1 p2  v_waits v_readsOf v_readMany = some o → Wx X k 0 0 H L 92 ls [] := by
    intro v_waits v_readsOf v_readMany H L ls hW hl h
    unfold fX8_isReadBy_j92 at h
    refine r_aload_n C hl 0 dX8_isReadBy_92 rfl rfl ?_
    refine r_get C hW 0 rfl rfl iwX8 14 (by decide) w_fl_X8_29 rfl dX8_isReadBy_93 ?_
    refine r_iload_n C hl 1 dX8_isReadBy_96 rfl rfl ?_
    refine r_aload_n C hl 0 dX8_isReadBy_97 rfl rfl ?_
    refine r_get C hW 0 rfl rfl iwX8 13 (by decide) w_fl_X8_25 rfl dX8_isReadBy_98 ?_
    refine r_iload_n C hl 2 dX8_isReadBy_101 rfl rfl ?_
    obtain ⟨x102, e102, g102, h⟩ := rd_some h
    refine r_zald C hW 6 rfl g102 e102 dX8_isReadBy_102 ?_
    refine r_if_eq (tgt := 111) C dX8_isReadBy_103 (by decide) (fun c103 => ?_) (fun c103 => ?_)
    · replace h := iT c103 h
      refine r_iload_n C hl 2 dX8_isReadBy_111 rfl rfl ?_
      exact K112 v_waits v_readsOf v_readMany p1 p2 H L ls hW (lv_sub hl [0, 2] rfl) h
    · replace h := iF c103 h
      refine r_bipush (v := -4) C dX8_isReadBy_106 (by decide) ?_
      refine r_goto (tgt := 112) C dX8_isReadBy_108 (by decide) ?_
      exact K112 v_waits v_readsOf v_readMany p1 (-4 : Int32) H L ls hW (lv_sub hl [0, 2] rfl) h
  have K18 : ∀ (v_waits : (Nat → Int32)), ∀ (v_readsOf : (Nat → Int32)), ∀ (v_readMany : (Nat → Int32)), ∀ (n18 : Nat), ∀ (l3 : Int32), ∀ (l4 : Int32), ∀ (H : Heap) (L : List Loc) (ls : Array Slot), Wd X k A [(ad 0, .inr (8, [.ref (ad 1), .ref (ad 2), .int v_taped, .int v_fault, .int v_broken, .int v_brokenAt, .int v_spot, .int v_here, .int v_token, .int v_number, .ref (ad 3), .ref (ad 4), .ref (ad 5), .ref (ad 6), .ref (ad 7), .ref (ad 8), .ref (ad 9), .ref (ad 10), .int v_isStarted, .ref (ad 11), .ref (ad 12), .ref (ad 13), .int v_evaluated, .int v_moved, .int v_isChanged, .ref (ad 14), .int v_undoMany, .ref (ad 15), .ref (ad 16), .ref (ad 17), .ref (ad 18), .ref (ad 19), .ref (ad 20), .int v_torn, .int v_isAsideChanged])), (ad 1, .inl (eI X, 720, .inl v_state)), (ad 2, .inl (eI X, 320, .inl v_tape)), (ad 3, .inl (eI X, 9, .inl v_ends)), (ad 4, .inl (eI X, 27, .inl v_letters)), (ad 5, .inl (eI X, 30, .inl v_values)), (ad 6, .inl (eZ X, 30, .inl v_isTold)), (ad 7, .inl (eI X, 30, .inl v_waits)), (ad 8, .inl (eI X, 900, .inl v_readsOf)), (ad 9, .inl (eI X, 30, .inl v_readMany)), (ad 10, .inl (eI X, 30, .inl v_heights)), (ad 11, .inl (eI X, 30, .inl v_oldValues)), (ad 12, .inl (eZ X, 30, .inl v_isOldTold)), (ad 13, .inl (eI X, 30, .inl v_oldReads)), (ad 14, .inl (eI X, 100, .inl v_undos)), (ad 15, .inl (eI X, 103, .inl v_undoAside)), (ad 16, .inl (eI X, 4, .inl v_formula)), (ad 17, .inl (eZ X, 2, .inl v_isKept)), (ad 18, .inl (eI X, 4, .inl v_lanes)), (ad 19, .inl (eI X, 4, .inl v_lengths)), (ad 20, .inl (eI X, 160, .inl v_items))] H L → lv_has ls 5 [(0, .ref (ad 0)), (1, .int p1), (2, .int p2), (3, .int l3), (4, .int l4)] → lq2 (fX8_isReadBy_b18 v_isTold p1 p2  v_waits v_readsOf v_readMany) n18 l3 l4 = some o → Wx X k 0 0 H L 18 ls [] := by
    intro v_waits v_readsOf v_readMany
    intro n18
    induction n18 with
    | zero => intro l3 l4 H L ls hW hl h; exact lq2_0 h
    | succ n18 ih18 =>
      have K54 : ∀ (l4 : Int32), ∀ (s0 : Int32), ∀ (H : Heap) (L : List Loc) (ls : Array Slot), Wd X k A [(ad 0, .inr (8, [.ref (ad 1), .ref (ad 2), .int v_taped, .int v_fault, .int v_broken, .int v_brokenAt, .int v_spot, .int v_here, .int v_token, .int v_number, .ref (ad 3), .ref (ad 4), .ref (ad 5), .ref (ad 6), .ref (ad 7), .ref (ad 8), .ref (ad 9), .ref (ad 10), .int v_isStarted, .ref (ad 11), .ref (ad 12), .ref (ad 13), .int v_evaluated, .int v_moved, .int v_isChanged, .ref (ad 14), .int v_undoMany, .ref (ad 15), .ref (ad 16), .ref (ad 17), .ref (ad 18), .ref (ad 19), .ref (ad 20), .int v_torn, .int v_isAsideChanged])), (ad 1, .inl (eI X, 720, .inl v_state)), (ad 2, .inl (eI X, 320, .inl v_tape)), (ad 3, .inl (eI X, 9, .inl v_ends)), (ad 4, .inl (eI X, 27, .inl v_letters)), (ad 5, .inl (eI X, 30, .inl v_values)), (ad 6, .inl (eZ X, 30, .inl v_isTold)), (ad 7, .inl (eI X, 30, .inl v_waits)), (ad 8, .inl (eI X, 900, .inl v_readsOf)), (ad 9, .inl (eI X, 30, .inl v_readMany)), (ad 10, .inl (eI X, 30, .inl v_heights)), (ad 11, .inl (eI X, 30, .inl v_oldValues)), (ad 12, .inl (eZ X, 30, .inl v_isOldTold)), (ad 13, .inl (eI X, 30, .inl v_oldReads)), (ad 14, .inl (eI X, 100, .inl v_undos)), (ad 15, .inl (eI X, 103, .inl v_undoAside)), (ad 16, .inl (eI X, 4, .inl v_formula)), (ad 17, .inl (eZ X, 2, .inl v_isKept)), (ad 18, .inl (eI X, 4, .inl v_lanes)), (ad 19, .inl (eI X, 4, .inl v_lengths)), (ad 20, .inl (eI X, 160, .inl v_items))] H L → lv_has ls 5 [(0, .ref (ad 0)), (1, .int p1), (2, .int p2), (4, .int l4)] → fX8_isReadBy_j54 v_isTold p1 p2 (lq2 (fX8_isReadBy_b18 v_isTold p1 p2  v_waits v_readsOf v_readMany) n18) v_waits v_readsOf v_readMany l4 s0 = some o → Wx X k 0 0 H L 54 ls [.int s0] := by
        intro l4 s0 H L ls hW hl h
        unfold fX8_isReadBy_j54 at h
        refine r_istore_n (lv' := [(3, .int s0), (0, .ref (ad 0)), (1, .int p1), (2, .int p2), (4, .int l4)]) C hl dX8_isReadBy_54 rfl (by decide) rfl (fun ls hl => ?_)
        refine r_iinc (j := 4) (v := l4 + (1 : Int32)) (lv' := [(4, .int (l4 + (1 : Int32))), (3, .int s0), (0, .ref (ad 0)), (1, .int p1), (2, .int p2)]) C hl dX8_isReadBy_55 rfl rfl (by decide) rfl (fun ls hl => ?_)
        refine r_goto (tgt := 18) C dX8_isReadBy_58 (by decide) ?_
        exact ih18 s0 (l4 + (1 : Int32)) H L ls hW (lv_sub hl [2, 3, 4, 1, 0] rfl) h
      have K49 : ∀ (l4 : Int32), ∀ (H : Heap) (L : List Loc) (ls : Array Slot), Wd X k A [(ad 0, .inr (8, [.ref (ad 1), .ref (ad 2), .int v_taped, .int v_fault, .int v_broken, .int v_brokenAt, .int v_spot, .int v_here, .int v_token, .int v_number, .ref (ad 3), .ref (ad 4), .ref (ad 5), .ref (ad 6), .ref (ad 7), .ref (ad 8), .ref (ad 9), .ref (ad 10), .int v_isStarted, .ref (ad 11), .ref (ad 12), .ref (ad 13), .int v_evaluated, .int v_moved, .int v_isChanged, .ref (ad 14), .int v_undoMany, .ref (ad 15), .ref (ad 16), .ref (ad 17), .ref (ad 18), .ref (ad 19), .ref (ad 20), .int v_torn, .int v_isAsideChanged])), (ad 1, .inl (eI X, 720, .inl v_state)), (ad 2, .inl (eI X, 320, .inl v_tape)), (ad 3, .inl (eI X, 9, .inl v_ends)), (ad 4, .inl (eI X, 27, .inl v_letters)), (ad 5, .inl (eI X, 30, .inl v_values)), (ad 6, .inl (eZ X, 30, .inl v_isTold)), (ad 7, .inl (eI X, 30, .inl v_waits)), (ad 8, .inl (eI X, 900, .inl v_readsOf)), (ad 9, .inl (eI X, 30, .inl v_readMany)), (ad 10, .inl (eI X, 30, .inl v_heights)), (ad 11, .inl (eI X, 30, .inl v_oldValues)), (ad 12, .inl (eZ X, 30, .inl v_isOldTold)), (ad 13, .inl (eI X, 30, .inl v_oldReads)), (ad 14, .inl (eI X, 100, .inl v_undos)), (ad 15, .inl (eI X, 103, .inl v_undoAside)), (ad 16, .inl (eI X, 4, .inl v_formula)), (ad 17, .inl (eZ X, 2, .inl v_isKept)), (ad 18, .inl (eI X, 4, .inl v_lanes)), (ad 19, .inl (eI X, 4, .inl v_lengths)), (ad 20, .inl (eI X, 160, .inl v_items))] H L → lv_has ls 5 [(0, .ref (ad 0)), (1, .int p1), (2, .int p2), (4, .int l4)] → fX8_isReadBy_j49 v_isTold p1 p2 (lq2 (fX8_isReadBy_b18 v_isTold p1 p2  v_waits v_readsOf v_readMany) n18) v_waits v_readsOf v_readMany l4 = some o → Wx X k 0 0 H L 49 ls [] := by
        intro l4 H L ls hW hl h
        unfold fX8_isReadBy_j49 at h
        refine r_iconst (v := 1) C dX8_isReadBy_49 (by decide) ?_
        refine r_goto (tgt := 54) C dX8_isReadBy_50 (by decide) ?_
        exact K54 l4 (1 : Int32) H L ls hW hl h
      intro l3 l4 H L ls hW hl h
      rw [lq2_s] at h
      unfold fX8_isReadBy_b18 at h
      refine r_iload C hl 4 dX8_isReadBy_18 rfl ?_
      refine r_aload_n C hl 0 dX8_isReadBy_20 rfl rfl ?_
      refine r_get C hW 0 rfl rfl iwX8 16 (by decide) w_fl_X8_35 rfl dX8_isReadBy_21 ?_
      refine r_iload_n C hl 1 dX8_isReadBy_24 rfl rfl ?_
      obtain ⟨x25, e25, g25, h⟩ := rd_some h
      refine r_iald C hW 9 rfl g25 e25 dX8_isReadBy_25 ?_
      refine r_icmp_ge (tgt := 61) C dX8_isReadBy_26 (by decide) (fun c26 => ?_) (fun c26 => ?_)
      · replace h := iT c26 h
        refine r_iload_n C hl 3 dX8_isReadBy_61 rfl rfl ?_
        refine r_if_ne (tgt := 92) C dX8_isReadBy_62 (by decide) (fun c62 => ?_) (fun c62 => ?_)
        · replace h := iF c62 h
          exact K92 v_waits v_readsOf v_readMany H L ls hW (lv_sub hl [0, 1, 2] rfl) h
        · replace h := iT c62 h
          refine r_aload_n C hl 0 dX8_isReadBy_65 rfl rfl ?_
          refine r_get C hW 0 rfl rfl iwX8 15 (by decide) w_fl_X8_32 rfl dX8_isReadBy_66 ?_
          refine r_bipush (v := 30) C dX8_isReadBy_69 (by decide) ?_
          refine r_iload_n C hl 1 dX8_isReadBy_71 rfl rfl ?_
          refine r_imul C dX8_isReadBy_72 ?_
          refine r_aload_n C hl 0 dX8_isReadBy_73 rfl rfl ?_
          refine r_get C hW 0 rfl rfl iwX8 16 (by decide) w_fl_X8_35 rfl dX8_isReadBy_74 ?_
          refine r_iload_n C hl 1 dX8_isReadBy_77 rfl rfl ?_
          obtain ⟨x78, e78, g78, h⟩ := rd_some h
          refine r_iald C hW 9 rfl g78 e78 dX8_isReadBy_78 ?_
          refine r_iadd C dX8_isReadBy_79 ?_
          refine r_iload_n C hl 2 dX8_isReadBy_80 rfl rfl ?_
          obtain ⟨w81, e81, g81, h⟩ := wr_some h
          refine r_iast (ws' := [(ad 0, .inr (8, [.ref (ad 1), .ref (ad 2), .int v_taped, .int v_fault, .int v_broken, .int v_brokenAt, .int v_spot, .int v_here, .int v_token, .int v_number, .ref (ad 3), .ref (ad 4), .ref (ad 5), .ref (ad 6), .ref (ad 7), .ref (ad 8), .ref (ad 9), .ref (ad 10), .int v_isStarted, .ref (ad 11), .ref (ad 12), .ref (ad 13), .int v_evaluated, .int v_moved, .int v_isChanged, .ref (ad 14), .int v_undoMany, .ref (ad 15), .ref (ad 16), .ref (ad 17), .ref (ad 18), .ref (ad 19), .ref (ad 20), .int v_torn, .int v_isAsideChanged])), (ad 1, .inl (eI X, 720, .inl v_state)), (ad 2, .inl (eI X, 320, .inl v_tape)), (ad 3, .inl (eI X, 9, .inl v_ends)), (ad 4, .inl (eI X, 27, .inl v_letters)), (ad 5, .inl (eI X, 30, .inl v_values)), (ad 6, .inl (eZ X, 30, .inl v_isTold)), (ad 7, .inl (eI X, 30, .inl v_waits)), (ad 8, .inl (eI X, 900, .inl w81)), (ad 9, .inl (eI X, 30, .inl v_readMany)), (ad 10, .inl (eI X, 30, .inl v_heights)), (ad 11, .inl (eI X, 30, .inl v_oldValues)), (ad 12, .inl (eZ X, 30, .inl v_isOldTold)), (ad 13, .inl (eI X, 30, .inl v_oldReads)), (ad 14, .inl (eI X, 100, .inl v_undos)), (ad 15, .inl (eI X, 103, .inl v_undoAside)), (ad 16, .inl (eI X, 4, .inl v_formula)), (ad 17, .inl (eZ X, 2, .inl v_isKept)), (ad 18, .inl (eI X, 4, .inl v_lanes)), (ad 19, .inl (eI X, 4, .inl v_lengths)), (ad 20, .inl (eI X, 160, .inl v_items))]) C hW 8 rfl g81 e81 rfl dX8_isReadBy_81 (fun H L hW => ?_)
          refine r_aload_n C hl 0 dX8_isReadBy_82 rfl rfl ?_
          refine r_get C hW 0 rfl rfl iwX8 16 (by decide) w_fl_X8_35 rfl dX8_isReadBy_83 ?_
          refine r_iload_n C hl 1 dX8_isReadBy_86 rfl rfl ?_
          refine r_dup2 C rfl rfl dX8_isReadBy_87 ?_
          obtain ⟨x88, e88, g88, h⟩ := rd_some h
          refine r_iald C hW 9 rfl g88 e88 dX8_isReadBy_88 ?_
          refine r_iconst (v := 1) C dX8_isReadBy_89 (by decide) ?_
          refine r_iadd C dX8_isReadBy_90 ?_
          obtain ⟨w91, e91, g91, h⟩ := wr_some h
          refine r_iast (ws' := [(ad 0, .inr (8, [.ref (ad 1), .ref (ad 2), .int v_taped, .int v_fault, .int v_broken, .int v_brokenAt, .int v_spot, .int v_here, .int v_token, .int v_number, .ref (ad 3), .ref (ad 4), .ref (ad 5), .ref (ad 6), .ref (ad 7), .ref (ad 8), .ref (ad 9), .ref (ad 10), .int v_isStarted, .ref (ad 11), .ref (ad 12), .ref (ad 13), .int v_evaluated, .int v_moved, .int v_isChanged, .ref (ad 14), .int v_undoMany, .ref (ad 15), .ref (ad 16), .ref (ad 17), .ref (ad 18), .ref (ad 19), .ref (ad 20), .int v_torn, .int v_isAsideChanged])), (ad 1, .inl (eI X, 720, .inl v_state)), (ad 2, .inl (eI X, 320, .inl v_tape)), (ad 3, .inl (eI X, 9, .inl v_ends)), (ad 4, .inl (eI X, 27, .inl v_letters)), (ad 5, .inl (eI X, 30, .inl v_values)), (ad 6, .inl (eZ X, 30, .inl v_isTold)), (ad 7, .inl (eI X, 30, .inl v_waits)), (ad 8, .inl (eI X, 900, .inl w81)), (ad 9, .inl (eI X, 30, .inl w91)), (ad 10, .inl (eI X, 30, .inl v_heights)), (ad 11, .inl (eI X, 30, .inl v_oldValues)), (ad 12, .inl (eZ X, 30, .inl v_isOldTold)), (ad 13, .inl (eI X, 30, .inl v_oldReads)), (ad 14, .inl (eI X, 100, .inl v_undos)), (ad 15, .inl (eI X, 103, .inl v_undoAside)), (ad 16, .inl (eI X, 4, .inl v_formula)), (ad 17, .inl (eZ X, 2, .inl v_isKept)), (ad 18, .inl (eI X, 4, .inl v_lanes)), (ad 19, .inl (eI X, 4, .inl v_lengths)), (ad 20, .inl (eI X, 160, .inl v_items))]) C hW 9 rfl g91 e91 rfl dX8_isReadBy_91 (fun H L hW => ?_)
          exact K92 v_waits w81 w91 H L ls hW (lv_sub hl [0, 1, 2] rfl) h
      · replace h := iF c26 h
        refine r_iload_n C hl 3 dX8_isReadBy_29 rfl rfl ?_
        refine r_if_ne (tgt := 49) C dX8_isReadBy_30 (by decide) (fun c30 => ?_) (fun c30 => ?_)
        · replace h := iF c30 h
          exact K49 l4 H L ls hW (lv_sub hl [0, 1, 2, 4] rfl) h
        · replace h := iT c30 h
          refine r_aload_n C hl 0 dX8_isReadBy_33 rfl rfl ?_
          refine r_get C hW 0 rfl rfl iwX8 15 (by decide) w_fl_X8_32 rfl dX8_isReadBy_34 ?_
          refine r_bipush (v := 30) C dX8_isReadBy_37 (by decide) ?_
          refine r_iload_n C hl 1 dX8_isReadBy_39 rfl rfl ?_
          refine r_imul C dX8_isReadBy_40 ?_
          refine r_iload C hl 4 dX8_isReadBy_41 rfl ?_
          refine r_iadd C dX8_isReadBy_43 ?_
          obtain ⟨x44, e44, g44, h⟩ := rd_some h
          refine r_iald C hW 8 rfl g44 e44 dX8_isReadBy_44 ?_
          refine r_iload_n C hl 2 dX8_isReadBy_45 rfl rfl ?_
          refine r_icmp_ne (tgt := 53) C dX8_isReadBy_46 (by decide) (fun c46 => ?_) (fun c46 => ?_)
          · replace h := iF c46 h
            refine r_iconst (v := 0) C dX8_isReadBy_53 (by decide) ?_
            exact K54 l4 (0 : Int32) H L ls hW (lv_sub hl [0, 1, 2, 4] rfl) h
          · replace h := iT c46 h
            exact K49 l4 H L ls hW (lv_sub hl [0, 1, 2, 4] rfl) h
  unfold fX8_isReadBy at h
  refine r_aload_n C hl 0 dX8_isReadBy_0 rfl rfl ?_
  refine r_get C hW 0 rfl rfl iwX8 14 (by decide) w_fl_X8_29 rfl dX8_isReadBy_1 ?_
  refine r_iload_n C hl 1 dX8_isReadBy_4 rfl rfl ?_
  obtain ⟨x5, e5, g5, h⟩ := rd_some h
  refine r_iald C hW 7 rfl g5 e5 dX8_isReadBy_5 ?_
  refine r_bipush (v := -4) C dX8_isReadBy_6 (by decide) ?_
  refine r_icmp_eq (tgt := 13) C dX8_isReadBy_8 (by decide) (fun c8 => ?_) (fun c8 => ?_)
  · replace h := iT c8 h
    refine r_iconst (v := 0) C dX8_isReadBy_13 (by decide) ?_
    refine r_istore_n (lv' := [(3, .int (0 : Int32)), (0, .ref (ad 0)), (1, .int p1), (2, .int p2)]) C hl dX8_isReadBy_14 rfl (by decide) rfl (fun ls hl => ?_)
    refine r_iconst (v := 0) C dX8_isReadBy_15 (by decide) ?_
    refine r_istore (lv' := [(4, .int (0 : Int32)), (3, .int (0 : Int32)), (0, .ref (ad 0)), (1, .int p1), (2, .int p2)]) C hl dX8_isReadBy_16 (by decide) rfl (fun ls hl => ?_)
    exact K18 v_waits v_readsOf v_readMany fu (0 : Int32) (0 : Int32) H L ls hW (lv_sub hl [2, 3, 4, 1, 0] rfl) h
  · replace h := iF c8 h
    refine r_iconst (v := 0) C dX8_isReadBy_11 (by decide) ?_
    exact r_zret C hq hW (by decide) (by obtain rfl := Option.some.inj h; exact ⟨rfl, rfl⟩) dX8_isReadBy_12
def fX8_modulo (p0 : Int32) : Option (Int32) :=
  if (0 : Int32) ≤ (p0 - p0 / (30 : Int32) * (30 : Int32)) then
    some (p0 - p0 / (30 : Int32) * (30 : Int32))
  else
    some ((p0 - p0 / (30 : Int32) * (30 : Int32)) + (30 : Int32))
set_option maxRecDepth 100000 in
set_option maxHeartbeats 8000000 in
theorem mX8_modulo (X : Ev)   (p0 : Int32) (o : Int32) (h : fX8_modulo p0 = some o) : Ctr X yX8_modulo cX8_modulo 2 (some .int) 0 0 0 0 [.int p0] [] (De (some (.int o)) []) := by
  refine Ctr.start (by decide) (Nat.le_of_ble_eq_true rfl) (fun k A ls C hq hin hW hl => ?_)
  replace C : Cx X k cX8_modulo 2 (some .int) RX8 A 0 0 0 0 := C
  replace hl : lv_has ls 2 [(0, .int p0)] := hl
  suffices hh : ∀ (H : Heap) (L : List Loc), Wd X k A [] H L → Wx X k 0 0 H L 0 ls [] from hh _ _ hW
  clear hW
  intro H L hW
  unfold fX8_modulo at h
  refine r_iload_n C hl 0 dX8_modulo_0 rfl rfl ?_
  refine r_bipush (v := 30) C dX8_modulo_1 (by decide) ?_
  refine r_irem C dX8_modulo_3 (by decide) ?_
  refine r_istore_n (lv' := [(1, .int (p0 - p0 / (30 : Int32) * (30 : Int32))), (0, .int p0)]) C hl dX8_modulo_4 rfl (by decide) rfl (fun ls hl => ?_)
  refine r_iload_n C hl 0 dX8_modulo_5 rfl rfl ?_
  refine r_if_ge (tgt := 16) C dX8_modulo_6 (by decide) (fun c6 => ?_) (fun c6 => ?_)
  · replace h := iT c6 h
    refine r_iload_n C hl 0 dX8_modulo_16 rfl rfl ?_
    exact r_iret C hq hW (by obtain rfl := Option.some.inj h; exact ⟨rfl, rfl⟩) dX8_modulo_17
  · replace h := iF c6 h
    refine r_iload_n C hl 0 dX8_modulo_9 rfl rfl ?_
    refine r_bipush (v := 30) C dX8_modulo_10 (by decide) ?_
    refine r_iadd C dX8_modulo_12 ?_
    refine r_goto (tgt := 17) C dX8_modulo_13 (by decide) ?_
    exact r_iret C hq hW (by obtain rfl := Option.some.inj h; exact ⟨rfl, rfl⟩) dX8_modulo_17
def fX8_spanned_j106 (v_state : (Nat → Int32)) (v_values : (Nat → Int32)) (v_isTold : (Nat → Int32)) (p1 : Int32) (self33 : (Nat → Int32) → (Nat → Int32) → (Nat → Int32) → Int32 → Int32 → Option (Int32 × (Nat → Int32) × (Nat → Int32) × (Nat → Int32))) (v_waits : (Nat → Int32)) (v_readsOf : (Nat → Int32)) (v_readMany : (Nat → Int32)) (l2 : Int32) (l3 : Int32) (l5 : Int32) (s0 : Int32) : Option (Int32 × (Nat → Int32) × (Nat → Int32) × (Nat → Int32)) :=
  self33 v_waits v_readsOf v_readMany s0 (l5 + (1 : Int32))
def fX8_spanned_j94 (v_state : (Nat → Int32)) (v_values : (Nat → Int32)) (v_isTold : (Nat → Int32)) (p1 : Int32) (self33 : (Nat → Int32) → (Nat → Int32) → (Nat → Int32) → Int32 → Int32 → Option (Int32 × (Nat → Int32) × (Nat → Int32) × (Nat → Int32))) (v_waits : (Nat → Int32)) (v_readsOf : (Nat → Int32)) (v_readMany : (Nat → Int32)) (l2 : Int32) (l3 : Int32) (l5 : Int32) : Option (Int32 × (Nat → Int32) × (Nat → Int32) × (Nat → Int32)) :=
  rd v_values 30 l5 fun x100 =>
  fX8_spanned_j106 v_state v_values v_isTold p1 self33 v_waits v_readsOf v_readMany l2 l3 l5 x100
def fX8_spanned_b33 (v_state : (Nat → Int32)) (v_values : (Nat → Int32)) (v_isTold : (Nat → Int32)) (p1 : Int32)  (l2 : Int32) (l3 : Int32) (self33 : (Nat → Int32) → (Nat → Int32) → (Nat → Int32) → Int32 → Int32 → Option (Int32 × (Nat → Int32) × (Nat → Int32) × (Nat → Int32))) (v_waits : (Nat → Int32)) (v_readsOf : (Nat → Int32)) (v_readMany : (Nat → Int32)) (l4 : Int32) (l5 : Int32) : Option (Int32 × (Nat → Int32) × (Nat → Int32) × (Nat → Int32)) :=
  rd v_state 720 ((60 : Int32) + p1) fun x43 =>
  if x43 < l5 then
    some (l4, v_waits, v_readsOf, v_readMany)
  else
    bd4 (fX8_isReadBy v_isTold v_waits v_readsOf v_readMany p1 l5) fun r51 c51_waits c51_readsOf c51_readMany =>
    if r51 = (0 : Int32) then
      some ((0 : Int32), c51_waits, c51_readsOf, c51_readMany)
    else
      if l2 = (0 : Int32) then
        if l5 = l3 then
          fX8_spanned_j94 v_state v_values v_isTold p1 self33 c51_waits c51_readsOf c51_readMany l2 l3 l5
        else
          rd v_values 30 l5 fun x88 =>
          if x88 ≤ l4 then
            fX8_spanned_j106 v_state v_values v_isTold p1 self33 c51_waits c51_readsOf c51_readMany l2 l3 l5 l4
          else
            fX8_spanned_j94 v_state v_values v_isTold p1 self33 c51_waits c51_readsOf c51_readMany l2 l3 l5
      else
        rd v_values 30 l5 fun x71 =>
        fX8_spanned_j106 v_state v_values v_isTold p1 self33 c51_waits c51_readsOf c51_readMany l2 l3 l5 (l4 + x71)
def fX8_spanned_j16 (v_state : (Nat → Int32)) (v_values : (Nat → Int32)) (v_isTold : (Nat → Int32)) (p1 : Int32)  (v_waits : (Nat → Int32)) (v_readsOf : (Nat → Int32)) (v_readMany : (Nat → Int32)) (s0 : Int32) : Option (Int32 × (Nat → Int32) × (Nat → Int32) × (Nat → Int32)) :=
  rd v_state 720 ((30 : Int32) + p1) fun x25 =>
  lq5 (fX8_spanned_b33 v_state v_values v_isTold p1  s0 x25) fu v_waits v_readsOf v_readMany (0 : Int32) x25
def fX8_spanned (v_state : (Nat → Int32)) (v_values : (Nat → Int32)) (v_isTold : (Nat → Int32)) (v_waits : (Nat → Int32)) (v_readsOf : (Nat → Int32)) (v_readMany : (Nat → Int32)) (p1 : Int32) : Option (Int32 × (Nat → Int32) × (Nat → Int32) × (Nat → Int32)) :=
  rd v_state 720 p1 fun x5 =>
  if x5 = (6 : Int32) then
    fX8_spanned_j16 v_state v_values v_isTold p1  v_waits v_readsOf v_readMany (1 : Int32)
  else
    fX8_spanned_j16 v_state v_values v_isTold p1  v_waits v_readsOf v_readMany (0 : Int32)
set_option maxRecDepth 100000 in
set_option maxHeartbeats 8000000 in
theorem mX8_spanned (X : Ev) (ad : Nat → Nat) (v_state : (Nat → Int32)) (v_tape : (Nat → Int32)) (v_taped : Int32) (v_fault : Int32) (v_broken : Int32) (v_brokenAt : Int32) (v_spot : Int32) (v_here : Int32) (v_token : Int32) (v_number : Int32) (v_ends : (Nat → Int32)) (v_letters : (Nat → Int32)) (v_values : (Nat → Int32)) (v_isTold : (Nat → Int32)) (v_waits : (Nat → Int32)) (v_readsOf : (Nat → Int32)) (v_readMany : (Nat → Int32)) (v_heights : (Nat → Int32)) (v_isStarted : Int32) (v_oldValues : (Nat → Int32)) (v_isOldTold : (Nat → Int32)) (v_oldReads : (Nat → Int32)) (v_evaluated : Int32) (v_moved : Int32) (v_isChanged : Int32) (v_undos : (Nat → Int32)) (v_undoMany : Int32) (v_undoAside : (Nat → Int32)) (v_formula : (Nat → Int32)) (v_isKept : (Nat → Int32)) (v_lanes : (Nat → Int32)) (v_lengths : (Nat → Int32)) (v_items : (Nat → Int32)) (v_torn : Int32) (v_isAsideChanged : Int32) (p1 : Int32) (o : Int32 × (Nat → Int32) × (Nat → Int32) × (Nat → Int32)) (h : fX8_spanned v_state v_values v_isTold v_waits v_readsOf v_readMany p1 = some o) : Ctr X yX8_spanned cX8_spanned 6 (some .int) 1 24 0 0 [.ref (ad 0), .int p1] [(ad 0, .inr (8, [.ref (ad 1), .ref (ad 2), .int v_taped, .int v_fault, .int v_broken, .int v_brokenAt, .int v_spot, .int v_here, .int v_token, .int v_number, .ref (ad 3), .ref (ad 4), .ref (ad 5), .ref (ad 6), .ref (ad 7), .ref (ad 8), .ref (ad 9), .ref (ad 10), .int v_isStarted, .ref (ad 11), .ref (ad 12), .ref (ad 13), .int v_evaluated, .int v_moved, .int v_isChanged, .ref (ad 14), .int v_undoMany, .ref (ad 15), .ref (ad 16), .ref (ad 17), .ref (ad 18), .ref (ad 19), .ref (ad 20), .int v_torn, .int v_isAsideChanged])), (ad 1, .inl (eI X, 720, .inl v_state)), (ad 2, .inl (eI X, 320, .inl v_tape)), (ad 3, .inl (eI X, 9, .inl v_ends)), (ad 4, .inl (eI X, 27, .inl v_letters)), (ad 5, .inl (eI X, 30, .inl v_values)), (ad 6, .inl (eZ X, 30, .inl v_isTold)), (ad 7, .inl (eI X, 30, .inl v_waits)), (ad 8, .inl (eI X, 900, .inl v_readsOf)), (ad 9, .inl (eI X, 30, .inl v_readMany)), (ad 10, .inl (eI X, 30, .inl v_heights)), (ad 11, .inl (eI X, 30, .inl v_oldValues)), (ad 12, .inl (eZ X, 30, .inl v_isOldTold)), (ad 13, .inl (eI X, 30, .inl v_oldReads)), (ad 14, .inl (eI X, 100, .inl v_undos)), (ad 15, .inl (eI X, 103, .inl v_undoAside)), (ad 16, .inl (eI X, 4, .inl v_formula)), (ad 17, .inl (eZ X, 2, .inl v_isKept)), (ad 18, .inl (eI X, 4, .inl v_lanes)), (ad 19, .inl (eI X, 4, .inl v_lengths)), (ad 20, .inl (eI X, 160, .inl v_items))] (De (some (.int o.1)) [(ad 0, .inr (8, [.ref (ad 1), .ref (ad 2), .int v_taped, .int v_fault, .int v_broken, .int v_brokenAt, .int v_spot, .int v_here, .int v_token, .int v_number, .ref (ad 3), .ref (ad 4), .ref (ad 5), .ref (ad 6), .ref (ad 7), .ref (ad 8), .ref (ad 9), .ref (ad 10), .int v_isStarted, .ref (ad 11), .ref (ad 12), .ref (ad 13), .int v_evaluated, .int v_moved, .int v_isChanged, .ref (ad 14), .int v_undoMany, .ref (ad 15), .ref (ad 16), .ref (ad 17), .ref (ad 18), .ref (ad 19), .ref (ad 20), .int v_torn, .int v_isAsideChanged])), (ad 1, .inl (eI X, 720, .inl v_state)), (ad 2, .inl (eI X, 320, .inl v_tape)), (ad 3, .inl (eI X, 9, .inl v_ends)), (ad 4, .inl (eI X, 27, .inl v_letters)), (ad 5, .inl (eI X, 30, .inl v_values)), (ad 6, .inl (eZ X, 30, .inl v_isTold)), (ad 7, .inl (eI X, 30, .inl (o.2.1))), (ad 8, .inl (eI X, 900, .inl (o.2.2.1))), (ad 9, .inl (eI X, 30, .inl (o.2.2.2))), (ad 10, .inl (eI X, 30, .inl v_heights)), (ad 11, .inl (eI X, 30, .inl v_oldValues)), (ad 12, .inl (eZ X, 30, .inl v_isOldTold)), (ad 13, .inl (eI X, 30, .inl v_oldReads)), (ad 14, .inl (eI X, 100, .inl v_undos)), (ad 15, .inl (eI X, 103, .inl v_undoAside)), (ad 16, .inl (eI X, 4, .inl v_formula)), (ad 17, .inl (eZ X, 2, .inl v_isKept)), (ad 18, .inl (eI X, 4, .inl v_lanes)), (ad 19, .inl (eI X, 4, .inl v_lengths)), (ad 20, .inl (eI X, 160, .inl v_items))]) := by
  refine Ctr.start (by decide) (Nat.le_of_ble_eq_true rfl) (fun k A ls C hq hin hW hl => ?_)
  replace C : Cx X k cX8_spanned 6 (some .int) RX8 A 1 24 0 0 := C
  replace hl : lv_has ls 6 [(0, .ref (ad 0)), (1, .int p1)] := hl
  suffices hh : ∀ (H : Heap) (L : List Loc), Wd X k A [(ad 0, .inr (8, [.ref (ad 1), .ref (ad 2), .int v_taped, .int v_fault, .int v_broken, .int v_brokenAt, .int v_spot, .int v_here, .int v_token, .int v_number, .ref (ad 3), .ref (ad 4), .ref (ad 5), .ref (ad 6), .ref (ad 7), .ref (ad 8), .ref (ad 9), .ref (ad 10), .int v_isStarted, .ref (ad 11), .ref (ad 12), .ref (ad 13), .int v_evaluated, .int v_moved, .int v_isChanged, .ref (ad 14), .int v_undoMany, .ref (ad 15), .ref (ad 16), .ref (ad 17), .ref (ad 18), .ref (ad 19), .ref (ad 20), .int v_torn, .int v_isAsideChanged])), (ad 1, .inl (eI X, 720, .inl v_state)), (ad 2, .inl (eI X, 320, .inl v_tape)), (ad 3, .inl (eI X, 9, .inl v_ends)), (ad 4, .inl (eI X, 27, .inl v_letters)), (ad 5, .inl (eI X, 30, .inl v_values)), (ad 6, .inl (eZ X, 30, .inl v_isTold)), (ad 7, .inl (eI X, 30, .inl v_waits)), (ad 8, .inl (eI X, 900, .inl v_readsOf)), (ad 9, .inl (eI X, 30, .inl v_readMany)), (ad 10, .inl (eI X, 30, .inl v_heights)), (ad 11, .inl (eI X, 30, .inl v_oldValues)), (ad 12, .inl (eZ X, 30, .inl v_isOldTold)), (ad 13, .inl (eI X, 30, .inl v_oldReads)), (ad 14, .inl (eI X, 100, .inl v_undos)), (ad 15, .inl (eI X, 103, .inl v_undoAside)), (ad 16, .inl (eI X, 4, .inl v_formula)), (ad 17, .inl (eZ X, 2, .inl v_isKept)), (ad 18, .inl (eI X, 4, .inl v_lanes)), (ad 19, .inl (eI X, 4, .inl v_lengths)), (ad 20, .inl (eI X, 160, .inl v_items))] H L → Wx X k 0 0 H L 0 ls [] from hh _ _ hW
  clear hW
  intro H L hW
  have K33 : ∀ (l2 : Int32), ∀ (l3 : Int32), ∀ (n33 : Nat), ∀ (v_waits : (Nat → Int32)), ∀ (v_readsOf : (Nat → Int32)), ∀ (v_readMany : (Nat → Int32)), ∀ (l4 : Int32), ∀ (l5 : Int32), ∀ (H : Heap) (L : List Loc) (ls : Array Slot), Wd X k A [(ad 0, .inr (8, [.ref (ad 1), .ref (ad 2), .int v_taped, .int v_fault, .int v_broken, .int v_brokenAt, .int v_spot, .int v_here, .int v_token, .int v_number, .ref (ad 3), .ref (ad 4), .ref (ad 5), .ref (ad 6), .ref (ad 7), .ref (ad 8), .ref (ad 9), .ref (ad 10), .int v_isStarted, .ref (ad 11), .ref (ad 12), .ref (ad 13), .int v_evaluated, .int v_moved, .int v_isChanged, .ref (ad 14), .int v_undoMany, .ref (ad 15), .ref (ad 16), .ref (ad 17), .ref (ad 18), .ref (ad 19), .ref (ad 20), .int v_torn, .int v_isAsideChanged])), (ad 1, .inl (eI X, 720, .inl v_state)), (ad 2, .inl (eI X, 320, .inl v_tape)), (ad 3, .inl (eI X, 9, .inl v_ends)), (ad 4, .inl (eI X, 27, .inl v_letters)), (ad 5, .inl (eI X, 30, .inl v_values)), (ad 6, .inl (eZ X, 30, .inl v_isTold)), (ad 7, .inl (eI X, 30, .inl v_waits)), (ad 8, .inl (eI X, 900, .inl v_readsOf)), (ad 9, .inl (eI X, 30, .inl v_readMany)), (ad 10, .inl (eI X, 30, .inl v_heights)), (ad 11, .inl (eI X, 30, .inl v_oldValues)), (ad 12, .inl (eZ X, 30, .inl v_isOldTold)), (ad 13, .inl (eI X, 30, .inl v_oldReads)), (ad 14, .inl (eI X, 100, .inl v_undos)), (ad 15, .inl (eI X, 103, .inl v_undoAside)), (ad 16, .inl (eI X, 4, .inl v_formula)), (ad 17, .inl (eZ X, 2, .inl v_isKept)), (ad 18, .inl (eI X, 4, .inl v_lanes)), (ad 19, .inl (eI X, 4, .inl v_lengths)), (ad 20, .inl (eI X, 160, .inl v_items))] H L → lv_has ls 6 [(0, .ref (ad 0)), (1, .int p1), (2, .int l2), (3, .int l3), (4, .int l4), (5, .int l5)] → lq5 (fX8_spanned_b33 v_state v_values v_isTold p1  l2 l3) n33 v_waits v_readsOf v_readMany l4 l5 = some o → Wx X k 0 0 H L 33 ls [] := by
    intro l2 l3
    intro n33
    induction n33 with
    | zero => intro v_waits v_readsOf v_readMany l4 l5 H L ls hW hl h; exact lq5_0 h
    | succ n33 ih33 =>
      have K106 : ∀ (v_waits : (Nat → Int32)), ∀ (v_readsOf : (Nat → Int32)), ∀ (v_readMany : (Nat → Int32)), ∀ (l5 : Int32), ∀ (s0 : Int32), ∀ (H : Heap) (L : List Loc) (ls : Array Slot), Wd X k A [(ad 0, .inr (8, [.ref (ad 1), .ref (ad 2), .int v_taped, .int v_fault, .int v_broken, .int v_brokenAt, .int v_spot, .int v_here, .int v_token, .int v_number, .ref (ad 3), .ref (ad 4), .ref (ad 5), .ref (ad 6), .ref (ad 7), .ref (ad 8), .ref (ad 9), .ref (ad 10), .int v_isStarted, .ref (ad 11), .ref (ad 12), .ref (ad 13), .int v_evaluated, .int v_moved, .int v_isChanged, .ref (ad 14), .int v_undoMany, .ref (ad 15), .ref (ad 16), .ref (ad 17), .ref (ad 18), .ref (ad 19), .ref (ad 20), .int v_torn, .int v_isAsideChanged])), (ad 1, .inl (eI X, 720, .inl v_state)), (ad 2, .inl (eI X, 320, .inl v_tape)), (ad 3, .inl (eI X, 9, .inl v_ends)), (ad 4, .inl (eI X, 27, .inl v_letters)), (ad 5, .inl (eI X, 30, .inl v_values)), (ad 6, .inl (eZ X, 30, .inl v_isTold)), (ad 7, .inl (eI X, 30, .inl v_waits)), (ad 8, .inl (eI X, 900, .inl v_readsOf)), (ad 9, .inl (eI X, 30, .inl v_readMany)), (ad 10, .inl (eI X, 30, .inl v_heights)), (ad 11, .inl (eI X, 30, .inl v_oldValues)), (ad 12, .inl (eZ X, 30, .inl v_isOldTold)), (ad 13, .inl (eI X, 30, .inl v_oldReads)), (ad 14, .inl (eI X, 100, .inl v_undos)), (ad 15, .inl (eI X, 103, .inl v_undoAside)), (ad 16, .inl (eI X, 4, .inl v_formula)), (ad 17, .inl (eZ X, 2, .inl v_isKept)), (ad 18, .inl (eI X, 4, .inl v_lanes)), (ad 19, .inl (eI X, 4, .inl v_lengths)), (ad 20, .inl (eI X, 160, .inl v_items))] H L → lv_has ls 6 [(0, .ref (ad 0)), (1, .int p1), (2, .int l2), (3, .int l3), (5, .int l5)] → fX8_spanned_j106 v_state v_values v_isTold p1 (lq5 (fX8_spanned_b33 v_state v_values v_isTold p1  l2 l3) n33) v_waits v_readsOf v_readMany l2 l3 l5 s0 = some o → Wx X k 0 0 H L 106 ls [.int s0] := by
        intro v_waits v_readsOf v_readMany l5 s0 H L ls hW hl h
        unfold fX8_spanned_j106 at h
        refine r_istore (lv' := [(4, .int s0), (0, .ref (ad 0)), (1, .int p1), (2, .int l2), (3, .int l3), (5, .int l5)]) C hl dX8_spanned_106 (by decide) rfl (fun ls hl => ?_)
        refine r_iinc (j := 5) (v := l5 + (1 : Int32)) (lv' := [(5, .int (l5 + (1 : Int32))), (4, .int s0), (0, .ref (ad 0)), (1, .int p1), (2, .int l2), (3, .int l3)]) C hl dX8_spanned_108 rfl rfl (by decide) rfl (fun ls hl => ?_)
        refine r_goto (tgt := 33) C dX8_spanned_111 (by decide) ?_
        exact ih33 v_waits v_readsOf v_readMany s0 (l5 + (1 : Int32)) H L ls hW (lv_sub hl [2, 3, 4, 5, 1, 0] rfl) h
      have K94 : ∀ (v_waits : (Nat → Int32)), ∀ (v_readsOf : (Nat → Int32)), ∀ (v_readMany : (Nat → Int32)), ∀ (l5 : Int32), ∀ (H : Heap) (L : List Loc) (ls : Array Slot), Wd X k A [(ad 0, .inr (8, [.ref (ad 1), .ref (ad 2), .int v_taped, .int v_fault, .int v_broken, .int v_brokenAt, .int v_spot, .int v_here, .int v_token, .int v_number, .ref (ad 3), .ref (ad 4), .ref (ad 5), .ref (ad 6), .ref (ad 7), .ref (ad 8), .ref (ad 9), .ref (ad 10), .int v_isStarted, .ref (ad 11), .ref (ad 12), .ref (ad 13), .int v_evaluated, .int v_moved, .int v_isChanged, .ref (ad 14), .int v_undoMany, .ref (ad 15), .ref (ad 16), .ref (ad 17), .ref (ad 18), .ref (ad 19), .ref (ad 20), .int v_torn, .int v_isAsideChanged])), (ad 1, .inl (eI X, 720, .inl v_state)), (ad 2, .inl (eI X, 320, .inl v_tape)), (ad 3, .inl (eI X, 9, .inl v_ends)), (ad 4, .inl (eI X, 27, .inl v_letters)), (ad 5, .inl (eI X, 30, .inl v_values)), (ad 6, .inl (eZ X, 30, .inl v_isTold)), (ad 7, .inl (eI X, 30, .inl v_waits)), (ad 8, .inl (eI X, 900, .inl v_readsOf)), (ad 9, .inl (eI X, 30, .inl v_readMany)), (ad 10, .inl (eI X, 30, .inl v_heights)), (ad 11, .inl (eI X, 30, .inl v_oldValues)), (ad 12, .inl (eZ X, 30, .inl v_isOldTold)), (ad 13, .inl (eI X, 30, .inl v_oldReads)), (ad 14, .inl (eI X, 100, .inl v_undos)), (ad 15, .inl (eI X, 103, .inl v_undoAside)), (ad 16, .inl (eI X, 4, .inl v_formula)), (ad 17, .inl (eZ X, 2, .inl v_isKept)), (ad 18, .inl (eI X, 4, .inl v_lanes)), (ad 19, .inl (eI X, 4, .inl v_lengths)), (ad 20, .inl (eI X, 160, .inl v_items))] H L → lv_has ls 6 [(0, .ref (ad 0)), (1, .int p1), (2, .int l2), (3, .int l3), (5, .int l5)] → fX8_spanned_j94 v_state v_values v_isTold p1 (lq5 (fX8_spanned_b33 v_state v_values v_isTold p1  l2 l3) n33) v_waits v_readsOf v_readMany l2 l3 l5 = some o → Wx X k 0 0 H L 94 ls [] := by
        intro v_waits v_readsOf v_readMany l5 H L ls hW hl h
        unfold fX8_spanned_j94 at h
        refine r_aload_n C hl 0 dX8_spanned_94 rfl rfl ?_
        refine r_get C hW 0 rfl rfl iwX8 12 (by decide) w_fl_X8_22 rfl dX8_spanned_95 ?_
        refine r_iload C hl 4 dX8_spanned_98 rfl ?_
        obtain ⟨x100, e100, g100, h⟩ := rd_some h
        refine r_iald C hW 5 rfl g100 e100 dX8_spanned_100 ?_
        refine r_goto (tgt := 106) C dX8_spanned_101 (by decide) ?_
        exact K106 v_waits v_readsOf v_readMany l5 x100 H L ls hW hl h
      intro v_waits v_readsOf v_readMany l4 l5 H L ls hW hl h
      rw [lq5_s] at h
      unfold fX8_spanned_b33 at h
      refine r_iload C hl 5 dX8_spanned_33 rfl ?_
      refine r_aload_n C hl 0 dX8_spanned_35 rfl rfl ?_
      refine r_get C hW 0 rfl rfl iwX8 0 (by decide) w_fl_X8_7 rfl dX8_spanned_36 ?_
      refine r_bipush (v := 60) C dX8_spanned_39 (by decide) ?_
      refine r_iload_n C hl 1 dX8_spanned_41 rfl rfl ?_
      refine r_iadd C dX8_spanned_42 ?_
      obtain ⟨x43, e43, g43, h⟩ := rd_some h
      refine r_iald C hW 1 rfl g43 e43 dX8_spanned_43 ?_
      refine r_icmp_gt (tgt := 114) C dX8_spanned_44 (by decide) (fun c44 => ?_) (fun c44 => ?_)
      · replace h := iT c44 h
        refine r_iload C hl 4 dX8_spanned_114 rfl ?_
        exact r_iret C hq hW (by obtain rfl := Option.some.inj h; exact ⟨rfl, rfl⟩) dX8_spanned_116
      · replace h := iF c44 h
        refine r_aload_n C hl 0 dX8_spanned_47 rfl rfl ?_
        refine r_iload_n C hl 1 dX8_spanned_48 rfl rfl ?_
        refine r_iload C hl 5 dX8_spanned_49 rfl ?_
        obtain ⟨r51, c51_waits, c51_readsOf, c51_readMany, h51, h⟩ := bd4_some h
        refine r_V (wr := []) (np := 2) C hl (mX8_isReadBy X ad  v_state v_tape v_taped v_fault v_broken v_brokenAt v_spot v_here v_token v_number v_ends v_letters v_values v_isTold v_waits v_readsOf v_readMany v_heights v_isStarted v_oldValues v_isOldTold v_oldReads v_evaluated v_moved v_isChanged v_undos v_undoMany v_undoAside v_formula v_isKept v_lanes v_lengths v_items v_torn v_isAsideChanged p1 l5 (r51, c51_waits, c51_readsOf, c51_readMany) h51) hW [0, 1, 2, 3, 4, 5, 6, 7, 8, 9, 10, 11, 12, 13, 14, 15, 16, 17, 18, 19, 20] [] rfl rfl rfl rfl (by decide) 0 rfl rfl w_cd_X8_isReadBy w_ml_X8_149 w_im_X8_isReadBy w_sel_X8_isReadBy w_in_HeightSheetModel (by decide +kernel) rfl ⟨Nat.le_of_ble_eq_true rfl, Nat.le_of_ble_eq_true rfl⟩ ⟨Nat.zero_le _, Nat.zero_le _⟩ (Nat.le_of_ble_eq_true rfl) dX8_spanned_51 (fun rv w1 H L hp hW => ?_) rfl
        obtain ⟨rfl, rfl⟩ := hp
        replace hW : Wd X k A [(ad 0, .inr (8, [.ref (ad 1), .ref (ad 2), .int v_taped, .int v_fault, .int v_broken, .int v_brokenAt, .int v_spot, .int v_here, .int v_token, .int v_number, .ref (ad 3), .ref (ad 4), .ref (ad 5), .ref (ad 6), .ref (ad 7), .ref (ad 8), .ref (ad 9), .ref (ad 10), .int v_isStarted, .ref (ad 11), .ref (ad 12), .ref (ad 13), .int v_evaluated, .int v_moved, .int v_isChanged, .ref (ad 14), .int v_undoMany, .ref (ad 15), .ref (ad 16), .ref (ad 17), .ref (ad 18), .ref (ad 19), .ref (ad 20), .int v_torn, .int v_isAsideChanged])), (ad 1, .inl (eI X, 720, .inl v_state)), (ad 2, .inl (eI X, 320, .inl v_tape)), (ad 3, .inl (eI X, 9, .inl v_ends)), (ad 4, .inl (eI X, 27, .inl v_letters)), (ad 5, .inl (eI X, 30, .inl v_values)), (ad 6, .inl (eZ X, 30, .inl v_isTold)), (ad 7, .inl (eI X, 30, .inl c51_waits)), (ad 8, .inl (eI X, 900, .inl c51_readsOf)), (ad 9, .inl (eI X, 30, .inl c51_readMany)), (ad 10, .inl (eI X, 30, .inl v_heights)), (ad 11, .inl (eI X, 30, .inl v_oldValues)), (ad 12, .inl (eZ X, 30, .inl v_isOldTold)), (ad 13, .inl (eI X, 30, .inl v_oldReads)), (ad 14, .inl (eI X, 100, .inl v_undos)), (ad 15, .inl (eI X, 103, .inl v_undoAside)), (ad 16, .inl (eI X, 4, .inl v_formula)), (ad 17, .inl (eZ X, 2, .inl v_isKept)), (ad 18, .inl (eI X, 4, .inl v_lanes)), (ad 19, .inl (eI X, 4, .inl v_lengths)), (ad 20, .inl (eI X, 160, .inl v_items))] H L := hW.sub [0, 1, 2, 3, 4, 5, 6, 7, 8, 9, 10, 11, 12, 13, 14, 15, 16, 17, 18, 19, 20] rfl rfl
        show Wx X k 0 0 H L 54 ls [.int r51]
        refine r_if_ne (tgt := 59) C dX8_spanned_54 (by decide) (fun c54 => ?_) (fun c54 => ?_)
        · replace h := iF c54 h
          refine r_iload_n C hl 2 dX8_spanned_59 rfl rfl ?_
          refine r_if_eq (tgt := 76) C dX8_spanned_60 (by decide) (fun c60 => ?_) (fun c60 => ?_)
          · replace h := iT c60 h
            refine r_iload C hl 5 dX8_spanned_76 rfl ?_
            refine r_iload_n C hl 3 dX8_spanned_78 rfl rfl ?_
            refine r_icmp_eq (tgt := 94) C dX8_spanned_79 (by decide) (fun c79 => ?_) (fun c79 => ?_)
            · replace h := iT c79 h
              exact K94 c51_waits c51_readsOf c51_readMany l5 H L ls hW (lv_sub hl [0, 1, 2, 3, 5] rfl) h
            · replace h := iF c79 h
              refine r_aload_n C hl 0 dX8_spanned_82 rfl rfl ?_
              refine r_get C hW 0 rfl rfl iwX8 12 (by decide) w_fl_X8_22 rfl dX8_spanned_83 ?_
              refine r_iload C hl 5 dX8_spanned_86 rfl ?_
              obtain ⟨x88, e88, g88, h⟩ := rd_some h
              refine r_iald C hW 5 rfl g88 e88 dX8_spanned_88 ?_
              refine r_iload C hl 4 dX8_spanned_89 rfl ?_
              refine r_icmp_le (tgt := 104) C dX8_spanned_91 (by decide) (fun c91 => ?_) (fun c91 => ?_)
              · replace h := iT c91 h
                refine r_iload C hl 4 dX8_spanned_104 rfl ?_
                exact K106 c51_waits c51_readsOf c51_readMany l5 l4 H L ls hW (lv_sub hl [0, 1, 2, 3, 5] rfl) h
              · replace h := iF c91 h
                exact K94 c51_waits c51_readsOf c51_readMany l5 H L ls hW (lv_sub hl [0, 1, 2, 3, 5] rfl) h
          · replace h := iF c60 h
            refine r_iload C hl 4 dX8_spanned_63 rfl ?_
            refine r_aload_n C hl 0 dX8_spanned_65 rfl rfl ?_
            refine r_get C hW 0 rfl rfl iwX8 12 (by decide) w_fl_X8_22 rfl dX8_spanned_66 ?_
            refine r_iload C hl 5 dX8_spanned_69 rfl ?_
            obtain ⟨x71, e71, g71, h⟩ := rd_some h
            refine r_iald C hW 5 rfl g71 e71 dX8_spanned_71 ?_
            refine r_iadd C dX8_spanned_72 ?_
            refine r_goto (tgt := 106) C dX8_spanned_73 (by decide) ?_
            exact K106 c51_waits c51_readsOf c51_readMany l5 (l4 + x71) H L ls hW (lv_sub hl [0, 1, 2, 3, 5] rfl) h
        · replace h := iT c54 h
          refine r_iconst (v := 0) C dX8_spanned_57 (by decide) ?_
          exact r_iret C hq hW (by obtain rfl := Option.some.inj h; exact ⟨rfl, rfl⟩) dX8_spanned_58
  have K16 : ∀ (v_waits : (Nat → Int32)), ∀ (v_readsOf : (Nat → Int32)), ∀ (v_readMany : (Nat → Int32)), ∀ (s0 : Int32), ∀ (H : Heap) (L : List Loc) (ls : Array Slot), Wd X k A [(ad 0, .inr (8, [.ref (ad 1), .ref (ad 2), .int v_taped, .int v_fault, .int v_broken, .int v_brokenAt, .int v_spot, .int v_here, .int v_token, .int v_number, .ref (ad 3), .ref (ad 4), .ref (ad 5), .ref (ad 6), .ref (ad 7), .ref (ad 8), .ref (ad 9), .ref (ad 10), .int v_isStarted, .ref (ad 11), .ref (ad 12), .ref (ad 13), .int v_evaluated, .int v_moved, .int v_isChanged, .ref (ad 14), .int v_undoMany, .ref (ad 15), .ref (ad 16), .ref (ad 17), .ref (ad 18), .ref (ad 19), .ref (ad 20), .int v_torn, .int v_isAsideChanged])), (ad 1, .inl (eI X, 720, .inl v_state)), (ad 2, .inl (eI X, 320, .inl v_tape)), (ad 3, .inl (eI X, 9, .inl v_ends)), (ad 4, .inl (eI X, 27, .inl v_letters)), (ad 5, .inl (eI X, 30, .inl v_values)), (ad 6, .inl (eZ X, 30, .inl v_isTold)), (ad 7, .inl (eI X, 30, .inl v_waits)), (ad 8, .inl (eI X, 900, .inl v_readsOf)), (ad 9, .inl (eI X, 30, .inl v_readMany)), (ad 10, .inl (eI X, 30, .inl v_heights)), (ad 11, .inl (eI X, 30, .inl v_oldValues)), (ad 12, .inl (eZ X, 30, .inl v_isOldTold)), (ad 13, .inl (eI X, 30, .inl v_oldReads)), (ad 14, .inl (eI X, 100, .inl v_undos)), (ad 15, .inl (eI X, 103, .inl v_undoAside)), (ad 16, .inl (eI X, 4, .inl v_formula)), (ad 17, .inl (eZ X, 2, .inl v_isKept)), (ad 18, .inl (eI X, 4, .inl v_lanes)), (ad 19, .inl (eI X, 4, .inl v_lengths)), (ad 20, .inl (eI X, 160, .inl v_items))] H L → lv_has ls 6 [(0, .ref (ad 0)), (1, .int p1)] → fX8_spanned_j16 v_state v_values v_isTold p1  v_waits v_readsOf v_readMany s0 = some o → Wx X k 0 0 H L 16 ls [.int s0] := by
    intro v_waits v_readsOf v_readMany s0 H L ls hW hl h
    unfold fX8_spanned_j16 at h
    refine r_istore_n (lv' := [(2, .int s0), (0, .ref (ad 0)), (1, .int p1)]) C hl dX8_spanned_16 rfl (by decide) rfl (fun ls hl => ?_)
    refine r_aload_n C hl 1 dX8_spanned_17 rfl rfl ?_
    refine r_get C hW 0 rfl rfl iwX8 0 (by decide) w_fl_X8_7 rfl dX8_spanned_18 ?_
    refine r_bipush (v := 30) C dX8_spanned_21 (by decide) ?_
    refine r_iload_n C hl 2 dX8_spanned_23 rfl rfl ?_
    refine r_iadd C dX8_spanned_24 ?_
    obtain ⟨x25, e25, g25, h⟩ := rd_some h
    refine r_iald C hW 1 rfl g25 e25 dX8_spanned_25 ?_
    refine r_istore_n (lv' := [(3, .int x25), (2, .int s0), (0, .ref (ad 0)), (1, .int p1)]) C hl dX8_spanned_26 rfl (by decide) rfl (fun ls hl => ?_)
    refine r_iconst (v := 0) C dX8_spanned_27 (by decide) ?_
    refine r_istore (lv' := [(4, .int (0 : Int32)), (3, .int x25), (2, .int s0), (0, .ref (ad 0)), (1, .int p1)]) C hl dX8_spanned_28 (by decide) rfl (fun ls hl => ?_)
    refine r_iload_n C hl 1 dX8_spanned_30 rfl rfl ?_
    refine r_istore (lv' := [(5, .int x25), (4, .int (0 : Int32)), (3, .int x25), (2, .int s0), (0, .ref (ad 0)), (1, .int p1)]) C hl dX8_spanned_31 (by decide) rfl (fun ls hl => ?_)
    exact K33 s0 x25 fu v_waits v_readsOf v_readMany (0 : Int32) x25 H L ls hW (lv_sub hl [4, 5, 3, 2, 1, 0] rfl) h
  unfold fX8_spanned at h
  refine r_aload_n C hl 0 dX8_spanned_0 rfl rfl ?_
  refine r_get C hW 0 rfl rfl iwX8 0 (by decide) w_fl_X8_7 rfl dX8_spanned_1 ?_
  refine r_iload_n C hl 1 dX8_spanned_4 rfl rfl ?_
  obtain ⟨x5, e5, g5, h⟩ := rd_some h
  refine r_iald C hW 1 rfl g5 e5 dX8_spanned_5 ?_
  refine r_bipush (v := 6) C dX8_spanned_6 (by decide) ?_
  refine r_icmp_ne (tgt := 15) C dX8_spanned_8 (by decide) (fun c8 => ?_) (fun c8 => ?_)
  · replace h := iF c8 h
    refine r_iconst (v := 0) C dX8_spanned_15 (by decide) ?_
    exact K16 v_waits v_readsOf v_readMany (0 : Int32) H L ls hW hl h
  · replace h := iT c8 h
    refine r_iconst (v := 1) C dX8_spanned_11 (by decide) ?_
    refine r_goto (tgt := 16) C dX8_spanned_12 (by decide) ?_
    exact K16 v_waits v_readsOf v_readMany (1 : Int32) H L ls hW hl h
def fX8_paired (v_state : (Nat → Int32)) (v_values : (Nat → Int32)) (v_isTold : (Nat → Int32)) (v_waits : (Nat → Int32)) (v_readsOf : (Nat → Int32)) (v_readMany : (Nat → Int32)) (p1 : Int32) : Option (Int32 × (Nat → Int32) × (Nat → Int32) × (Nat → Int32)) :=
  rd v_state 720 ((30 : Int32) + p1) fun x8 =>
  rd v_state 720 ((60 : Int32) + p1) fun x18 =>
  bd4 (fX8_isReadBy v_isTold v_waits v_readsOf v_readMany p1 x8) fun r23 c23_waits c23_readsOf c23_readMany =>
  if r23 = (0 : Int32) then
    some ((0 : Int32), c23_waits, c23_readsOf, c23_readMany)
  else
    bd4 (fX8_isReadBy v_isTold c23_waits c23_readsOf c23_readMany p1 x18) fun r32 c32_waits c32_readsOf c32_readMany =>
    if r32 = (0 : Int32) then
      some ((0 : Int32), c32_waits, c32_readsOf, c32_readMany)
    else
      rd v_values 30 x8 fun x45 =>
      rd v_values 30 x18 fun x53 =>
      rd v_state 720 p1 fun x61 =>
      if x61 = (2 : Int32) then
        some (x45 + x53, c32_waits, c32_readsOf, c32_readMany)
      else
        rd v_state 720 p1 fun x79 =>
        if x79 = (4 : Int32) then
          some (x45 * x53, c32_waits, c32_readsOf, c32_readMany)
        else
          some (x45 - x53, c32_waits, c32_readsOf, c32_readMany)
set_option maxRecDepth 100000 in
set_option maxHeartbeats 8000000 in
theorem mX8_paired (X : Ev) (ad : Nat → Nat) (v_state : (Nat → Int32)) (v_tape : (Nat → Int32)) (v_taped : Int32) (v_fault : Int32) (v_broken : Int32) (v_brokenAt : Int32) (v_spot : Int32) (v_here : Int32) (v_token : Int32) (v_number : Int32) (v_ends : (Nat → Int32)) (v_letters : (Nat → Int32)) (v_values : (Nat → Int32)) (v_isTold : (Nat → Int32)) (v_waits : (Nat → Int32)) (v_readsOf : (Nat → Int32)) (v_readMany : (Nat → Int32)) (v_heights : (Nat → Int32)) (v_isStarted : Int32) (v_oldValues : (Nat → Int32)) (v_isOldTold : (Nat → Int32)) (v_oldReads : (Nat → Int32)) (v_evaluated : Int32) (v_moved : Int32) (v_isChanged : Int32) (v_undos : (Nat → Int32)) (v_undoMany : Int32) (v_undoAside : (Nat → Int32)) (v_formula : (Nat → Int32)) (v_isKept : (Nat → Int32)) (v_lanes : (Nat → Int32)) (v_lengths : (Nat → Int32)) (v_items : (Nat → Int32)) (v_torn : Int32) (v_isAsideChanged : Int32) (p1 : Int32) (o : Int32 × (Nat → Int32) × (Nat → Int32) × (Nat → Int32)) (h : fX8_paired v_state v_values v_isTold v_waits v_readsOf v_readMany p1 = some o) : Ctr X yX8_paired cX8_paired 6 (some .int) 1 24 0 0 [.ref (ad 0), .int p1] [(ad 0, .inr (8, [.ref (ad 1), .ref (ad 2), .int v_taped, .int v_fault, .int v_broken, .int v_brokenAt, .int v_spot, .int v_here, .int v_token, .int v_number, .ref (ad 3), .ref (ad 4), .ref (ad 5), .ref (ad 6), .ref (ad 7), .ref (ad 8), .ref (ad 9), .ref (ad 10), .int v_isStarted, .ref (ad 11), .ref (ad 12), .ref (ad 13), .int v_evaluated, .int v_moved, .int v_isChanged, .ref (ad 14), .int v_undoMany, .ref (ad 15), .ref (ad 16), .ref (ad 17), .ref (ad 18), .ref (ad 19), .ref (ad 20), .int v_torn, .int v_isAsideChanged])), (ad 1, .inl (eI X, 720, .inl v_state)), (ad 2, .inl (eI X, 320, .inl v_tape)), (ad 3, .inl (eI X, 9, .inl v_ends)), (ad 4, .inl (eI X, 27, .inl v_letters)), (ad 5, .inl (eI X, 30, .inl v_values)), (ad 6, .inl (eZ X, 30, .inl v_isTold)), (ad 7, .inl (eI X, 30, .inl v_waits)), (ad 8, .inl (eI X, 900, .inl v_readsOf)), (ad 9, .inl (eI X, 30, .inl v_readMany)), (ad 10, .inl (eI X, 30, .inl v_heights)), (ad 11, .inl (eI X, 30, .inl v_oldValues)), (ad 12, .inl (eZ X, 30, .inl v_isOldTold)), (ad 13, .inl (eI X, 30, .inl v_oldReads)), (ad 14, .inl (eI X, 100, .inl v_undos)), (ad 15, .inl (eI X, 103, .inl v_undoAside)), (ad 16, .inl (eI X, 4, .inl v_formula)), (ad 17, .inl (eZ X, 2, .inl v_isKept)), (ad 18, .inl (eI X, 4, .inl v_lanes)), (ad 19, .inl (eI X, 4, .inl v_lengths)), (ad 20, .inl (eI X, 160, .inl v_items))] (De (some (.int o.1)) [(ad 0, .inr (8, [.ref (ad 1), .ref (ad 2), .int v_taped, .int v_fault, .int v_broken, .int v_brokenAt, .int v_spot, .int v_here, .int v_token, .int v_number, .ref (ad 3), .ref (ad 4), .ref (ad 5), .ref (ad 6), .ref (ad 7), .ref (ad 8), .ref (ad 9), .ref (ad 10), .int v_isStarted, .ref (ad 11), .ref (ad 12), .ref (ad 13), .int v_evaluated, .int v_moved, .int v_isChanged, .ref (ad 14), .int v_undoMany, .ref (ad 15), .ref (ad 16), .ref (ad 17), .ref (ad 18), .ref (ad 19), .ref (ad 20), .int v_torn, .int v_isAsideChanged])), (ad 1, .inl (eI X, 720, .inl v_state)), (ad 2, .inl (eI X, 320, .inl v_tape)), (ad 3, .inl (eI X, 9, .inl v_ends)), (ad 4, .inl (eI X, 27, .inl v_letters)), (ad 5, .inl (eI X, 30, .inl v_values)), (ad 6, .inl (eZ X, 30, .inl v_isTold)), (ad 7, .inl (eI X, 30, .inl (o.2.1))), (ad 8, .inl (eI X, 900, .inl (o.2.2.1))), (ad 9, .inl (eI X, 30, .inl (o.2.2.2))), (ad 10, .inl (eI X, 30, .inl v_heights)), (ad 11, .inl (eI X, 30, .inl v_oldValues)), (ad 12, .inl (eZ X, 30, .inl v_isOldTold)), (ad 13, .inl (eI X, 30, .inl v_oldReads)), (ad 14, .inl (eI X, 100, .inl v_undos)), (ad 15, .inl (eI X, 103, .inl v_undoAside)), (ad 16, .inl (eI X, 4, .inl v_formula)), (ad 17, .inl (eZ X, 2, .inl v_isKept)), (ad 18, .inl (eI X, 4, .inl v_lanes)), (ad 19, .inl (eI X, 4, .inl v_lengths)), (ad 20, .inl (eI X, 160, .inl v_items))]) := by
  refine Ctr.start (by decide) (Nat.le_of_ble_eq_true rfl) (fun k A ls C hq hin hW hl => ?_)
  replace C : Cx X k cX8_paired 6 (some .int) RX8 A 1 24 0 0 := C
  replace hl : lv_has ls 6 [(0, .ref (ad 0)), (1, .int p1)] := hl
  suffices hh : ∀ (H : Heap) (L : List Loc), Wd X k A [(ad 0, .inr (8, [.ref (ad 1), .ref (ad 2), .int v_taped, .int v_fault, .int v_broken, .int v_brokenAt, .int v_spot, .int v_here, .int v_token, .int v_number, .ref (ad 3), .ref (ad 4), .ref (ad 5), .ref (ad 6), .ref (ad 7), .ref (ad 8), .ref (ad 9), .ref (ad 10), .int v_isStarted, .ref (ad 11), .ref (ad 12), .ref (ad 13), .int v_evaluated, .int v_moved, .int v_isChanged, .ref (ad 14), .int v_undoMany, .ref (ad 15), .ref (ad 16), .ref (ad 17), .ref (ad 18), .ref (ad 19), .ref (ad 20), .int v_torn, .int v_isAsideChanged])), (ad 1, .inl (eI X, 720, .inl v_state)), (ad 2, .inl (eI X, 320, .inl v_tape)), (ad 3, .inl (eI X, 9, .inl v_ends)), (ad 4, .inl (eI X, 27, .inl v_letters)), (ad 5, .inl (eI X, 30, .inl v_values)), (ad 6, .inl (eZ X, 30, .inl v_isTold)), (ad 7, .inl (eI X, 30, .inl v_waits)), (ad 8, .inl (eI X, 900, .inl v_readsOf)), (ad 9, .inl (eI X, 30, .inl v_readMany)), (ad 10, .inl (eI X, 30, .inl v_heights)), (ad 11, .inl (eI X, 30, .inl v_oldValues)), (ad 12, .inl (eZ X, 30, .inl v_isOldTold)), (ad 13, .inl (eI X, 30, .inl v_oldReads)), (ad 14, .inl (eI X, 100, .inl v_undos)), (ad 15, .inl (eI X, 103, .inl v_undoAside)), (ad 16, .inl (eI X, 4, .inl v_formula)), (ad 17, .inl (eZ X, 2, .inl v_isKept)), (ad 18, .inl (eI X, 4, .inl v_lanes)), (ad 19, .inl (eI X, 4, .inl v_lengths)), (ad 20, .inl (eI X, 160, .inl v_items))] H L → Wx X k 0 0 H L 0 ls [] from hh _ _ hW
  clear hW
  intro H L hW
  unfold fX8_paired at h
  refine r_aload_n C hl 0 dX8_paired_0 rfl rfl ?_
  refine r_get C hW 0 rfl rfl iwX8 0 (by decide) w_fl_X8_7 rfl dX8_paired_1 ?_
  refine r_bipush (v := 30) C dX8_paired_4 (by decide) ?_
  refine r_iload_n C hl 1 dX8_paired_6 rfl rfl ?_
  refine r_iadd C dX8_paired_7 ?_
  obtain ⟨x8, e8, g8, h⟩ := rd_some h
  refine r_iald C hW 1 rfl g8 e8 dX8_paired_8 ?_
  refine r_istore_n (lv' := [(2, .int x8), (0, .ref (ad 0)), (1, .int p1)]) C hl dX8_paired_9 rfl (by decide) rfl (fun ls hl => ?_)
  refine r_aload_n C hl 1 dX8_paired_10 rfl rfl ?_
  refine r_get C hW 0 rfl rfl iwX8 0 (by decide) w_fl_X8_7 rfl dX8_paired_11 ?_
  refine r_bipush (v := 60) C dX8_paired_14 (by decide) ?_
  refine r_iload_n C hl 2 dX8_paired_16 rfl rfl ?_
  refine r_iadd C dX8_paired_17 ?_
  obtain ⟨x18, e18, g18, h⟩ := rd_some h
  refine r_iald C hW 1 rfl g18 e18 dX8_paired_18 ?_
  refine r_istore_n (lv' := [(3, .int x18), (2, .int x8), (0, .ref (ad 0)), (1, .int p1)]) C hl dX8_paired_19 rfl (by decide) rfl (fun ls hl => ?_)
  refine r_aload_n C hl 2 dX8_paired_20 rfl rfl ?_
  refine r_iload_n C hl 3 dX8_paired_21 rfl rfl ?_
  refine r_iload_n C hl 1 dX8_paired_22 rfl rfl ?_
  obtain ⟨r23, c23_waits, c23_readsOf, c23_readMany, h23, h⟩ := bd4_some h
  refine r_V (wr := []) (np := 2) C hl (mX8_isReadBy X ad  v_state v_tape v_taped v_fault v_broken v_brokenAt v_spot v_here v_token v_number v_ends v_letters v_values v_isTold v_waits v_readsOf v_readMany v_heights v_isStarted v_oldValues v_isOldTold v_oldReads v_evaluated v_moved v_isChanged v_undos v_undoMany v_undoAside v_formula v_isKept v_lanes v_lengths v_items v_torn v_isAsideChanged p1 x8 (r23, c23_waits, c23_readsOf, c23_readMany) h23) hW [0, 1, 2, 3, 4, 5, 6, 7, 8, 9, 10, 11, 12, 13, 14, 15, 16, 17, 18, 19, 20] [] rfl rfl rfl rfl (by decide) 0 rfl rfl w_cd_X8_isReadBy w_ml_X8_149 w_im_X8_isReadBy w_sel_X8_isReadBy w_in_HeightSheetModel (by decide +kernel) rfl ⟨Nat.le_of_ble_eq_true rfl, Nat.le_of_ble_eq_true rfl⟩ ⟨Nat.zero_le _, Nat.zero_le _⟩ (Nat.le_of_ble_eq_true rfl) dX8_paired_23 (fun rv w1 H L hp hW => ?_) rfl
  obtain ⟨rfl, rfl⟩ := hp
  replace hW : Wd X k A [(ad 0, .inr (8, [.ref (ad 1), .ref (ad 2), .int v_taped, .int v_fault, .int v_broken, .int v_brokenAt, .int v_spot, .int v_here, .int v_token, .int v_number, .ref (ad 3), .ref (ad 4), .ref (ad 5), .ref (ad 6), .ref (ad 7), .ref (ad 8), .ref (ad 9), .ref (ad 10), .int v_isStarted, .ref (ad 11), .ref (ad 12), .ref (ad 13), .int v_evaluated, .int v_moved, .int v_isChanged, .ref (ad 14), .int v_undoMany, .ref (ad 15), .ref (ad 16), .ref (ad 17), .ref (ad 18), .ref (ad 19), .ref (ad 20), .int v_torn, .int v_isAsideChanged])), (ad 1, .inl (eI X, 720, .inl v_state)), (ad 2, .inl (eI X, 320, .inl v_tape)), (ad 3, .inl (eI X, 9, .inl v_ends)), (ad 4, .inl (eI X, 27, .inl v_letters)), (ad 5, .inl (eI X, 30, .inl v_values)), (ad 6, .inl (eZ X, 30, .inl v_isTold)), (ad 7, .inl (eI X, 30, .inl c23_waits)), (ad 8, .inl (eI X, 900, .inl c23_readsOf)), (ad 9, .inl (eI X, 30, .inl c23_readMany)), (ad 10, .inl (eI X, 30, .inl v_heights)), (ad 11, .inl (eI X, 30, .inl v_oldValues)), (ad 12, .inl (eZ X, 30, .inl v_isOldTold)), (ad 13, .inl (eI X, 30, .inl v_oldReads)), (ad 14, .inl (eI X, 100, .inl v_undos)), (ad 15, .inl (eI X, 103, .inl v_undoAside)), (ad 16, .inl (eI X, 4, .inl v_formula)), (ad 17, .inl (eZ X, 2, .inl v_isKept)), (ad 18, .inl (eI X, 4, .inl v_lanes)), (ad 19, .inl (eI X, 4, .inl v_lengths)), (ad 20, .inl (eI X, 160, .inl v_items))] H L := hW.sub [0, 1, 2, 3, 4, 5, 6, 7, 8, 9, 10, 11, 12, 13, 14, 15, 16, 17, 18, 19, 20] rfl rfl
  show Wx X k 0 0 H L 26 ls [.int r23]
  refine r_if_eq (tgt := 38) C dX8_paired_26 (by decide) (fun c26 => ?_) (fun c26 => ?_)
  · replace h := iT c26 h
    refine r_iconst (v := 0) C dX8_paired_38 (by decide) ?_
    exact r_iret C hq hW (by obtain rfl := Option.some.inj h; exact ⟨rfl, rfl⟩) dX8_paired_39
  · replace h := iF c26 h
    refine r_aload_n C hl 2 dX8_paired_29 rfl rfl ?_
    refine r_iload_n C hl 3 dX8_paired_30 rfl rfl ?_
    refine r_iload_n C hl 0 dX8_paired_31 rfl rfl ?_
    obtain ⟨r32, c32_waits, c32_readsOf, c32_readMany, h32, h⟩ := bd4_some h
    refine r_V (wr := []) (np := 2) C hl (mX8_isReadBy X ad  v_state v_tape v_taped v_fault v_broken v_brokenAt v_spot v_here v_token v_number v_ends v_letters v_values v_isTold c23_waits c23_readsOf c23_readMany v_heights v_isStarted v_oldValues v_isOldTold v_oldReads v_evaluated v_moved v_isChanged v_undos v_undoMany v_undoAside v_formula v_isKept v_lanes v_lengths v_items v_torn v_isAsideChanged p1 x18 (r32, c32_waits, c32_readsOf, c32_readMany) h32) hW [0, 1, 2, 3, 4, 5, 6, 7, 8, 9, 10, 11, 12, 13, 14, 15, 16, 17, 18, 19, 20] [] rfl rfl rfl rfl (by decide) 0 rfl rfl w_cd_X8_isReadBy w_ml_X8_149 w_im_X8_isReadBy w_sel_X8_isReadBy w_in_HeightSheetModel (by decide +kernel) rfl ⟨Nat.le_of_ble_eq_true rfl, Nat.le_of_ble_eq_true rfl⟩ ⟨Nat.zero_le _, Nat.zero_le _⟩ (Nat.le_of_ble_eq_true rfl) dX8_paired_32 (fun rv w1 H L hp hW => ?_) rfl
    obtain ⟨rfl, rfl⟩ := hp
    replace hW : Wd X k A [(ad 0, .inr (8, [.ref (ad 1), .ref (ad 2), .int v_taped, .int v_fault, .int v_broken, .int v_brokenAt, .int v_spot, .int v_here, .int v_token, .int v_number, .ref (ad 3), .ref (ad 4), .ref (ad 5), .ref (ad 6), .ref (ad 7), .ref (ad 8), .ref (ad 9), .ref (ad 10), .int v_isStarted, .ref (ad 11), .ref (ad 12), .ref (ad 13), .int v_evaluated, .int v_moved, .int v_isChanged, .ref (ad 14), .int v_undoMany, .ref (ad 15), .ref (ad 16), .ref (ad 17), .ref (ad 18), .ref (ad 19), .ref (ad 20), .int v_torn, .int v_isAsideChanged])), (ad 1, .inl (eI X, 720, .inl v_state)), (ad 2, .inl (eI X, 320, .inl v_tape)), (ad 3, .inl (eI X, 9, .inl v_ends)), (ad 4, .inl (eI X, 27, .inl v_letters)), (ad 5, .inl (eI X, 30, .inl v_values)), (ad 6, .inl (eZ X, 30, .inl v_isTold)), (ad 7, .inl (eI X, 30, .inl c32_waits)), (ad 8, .inl (eI X, 900, .inl c32_readsOf)), (ad 9, .inl (eI X, 30, .inl c32_readMany)), (ad 10, .inl (eI X, 30, .inl v_heights)), (ad 11, .inl (eI X, 30, .inl v_oldValues)), (ad 12, .inl (eZ X, 30, .inl v_isOldTold)), (ad 13, .inl (eI X, 30, .inl v_oldReads)), (ad 14, .inl (eI X, 100, .inl v_undos)), (ad 15, .inl (eI X, 103, .inl v_undoAside)), (ad 16, .inl (eI X, 4, .inl v_formula)), (ad 17, .inl (eZ X, 2, .inl v_isKept)), (ad 18, .inl (eI X, 4, .inl v_lanes)), (ad 19, .inl (eI X, 4, .inl v_lengths)), (ad 20, .inl (eI X, 160, .inl v_items))] H L := hW.sub [0, 1, 2, 3, 4, 5, 6, 7, 8, 9, 10, 11, 12, 13, 14, 15, 16, 17, 18, 19, 20] rfl rfl
    show Wx X k 0 0 H L 35 ls [.int r32]
    refine r_if_ne (tgt := 40) C dX8_paired_35 (by decide) (fun c35 => ?_) (fun c35 => ?_)
    · replace h := iF c35 h
      refine r_aload_n C hl 2 dX8_paired_40 rfl rfl ?_
      refine r_get C hW 0 rfl rfl iwX8 12 (by decide) w_fl_X8_22 rfl dX8_paired_41 ?_
      refine r_iload_n C hl 1 dX8_paired_44 rfl rfl ?_
      obtain ⟨x45, e45, g45, h⟩ := rd_some h
      refine r_iald C hW 5 rfl g45 e45 dX8_paired_45 ?_
      refine r_istore (lv' := [(4, .int x45), (3, .int x18), (2, .int x8), (0, .ref (ad 0)), (1, .int p1)]) C hl dX8_paired_46 (by decide) rfl (fun ls hl => ?_)
      refine r_aload_n C hl 3 dX8_paired_48 rfl rfl ?_
      refine r_get C hW 0 rfl rfl iwX8 12 (by decide) w_fl_X8_22 rfl dX8_paired_49 ?_
      refine r_iload_n C hl 1 dX8_paired_52 rfl rfl ?_
      obtain ⟨x53, e53, g53, h⟩ := rd_some h
      refine r_iald C hW 5 rfl g53 e53 dX8_paired_53 ?_
      refine r_istore (lv' := [(5, .int x53), (4, .int x45), (3, .int x18), (2, .int x8), (0, .ref (ad 0)), (1, .int p1)]) C hl dX8_paired_54 (by decide) rfl (fun ls hl => ?_)
      refine r_aload_n C hl 4 dX8_paired_56 rfl rfl ?_
      refine r_get C hW 0 rfl rfl iwX8 0 (by decide) w_fl_X8_7 rfl dX8_paired_57 ?_
      refine r_iload_n C hl 5 dX8_paired_60 rfl rfl ?_
      obtain ⟨x61, e61, g61, h⟩ := rd_some h
      refine r_iald C hW 1 rfl g61 e61 dX8_paired_61 ?_
      refine r_iconst (v := 2) C dX8_paired_62 (by decide) ?_
      refine r_icmp_ne (tgt := 74) C dX8_paired_63 (by decide) (fun c63 => ?_) (fun c63 => ?_)
      · replace h := iF c63 h
        refine r_aload_n C hl 4 dX8_paired_74 rfl rfl ?_
        refine r_get C hW 0 rfl rfl iwX8 0 (by decide) w_fl_X8_7 rfl dX8_paired_75 ?_
        refine r_iload_n C hl 5 dX8_paired_78 rfl rfl ?_
        obtain ⟨x79, e79, g79, h⟩ := rd_some h
        refine r_iald C hW 1 rfl g79 e79 dX8_paired_79 ?_
        refine r_iconst (v := 4) C dX8_paired_80 (by decide) ?_
        refine r_icmp_ne (tgt := 92) C dX8_paired_81 (by decide) (fun c81 => ?_) (fun c81 => ?_)
        · replace h := iF c81 h
          refine r_iload C hl 1 dX8_paired_92 rfl ?_
          refine r_iload C hl 0 dX8_paired_94 rfl ?_
          refine r_isub C dX8_paired_96 ?_
          exact r_iret C hq hW (by obtain rfl := Option.some.inj h; exact ⟨rfl, rfl⟩) dX8_paired_97
        · replace h := iT c81 h
          refine r_iload C hl 1 dX8_paired_84 rfl ?_
          refine r_iload C hl 0 dX8_paired_86 rfl ?_
          refine r_imul C dX8_paired_88 ?_
          refine r_goto (tgt := 97) C dX8_paired_89 (by decide) ?_
          exact r_iret C hq hW (by obtain rfl := Option.some.inj h; exact ⟨rfl, rfl⟩) dX8_paired_97
      · replace h := iT c63 h
        refine r_iload C hl 1 dX8_paired_66 rfl ?_
        refine r_iload C hl 0 dX8_paired_68 rfl ?_
        refine r_iadd C dX8_paired_70 ?_
        refine r_goto (tgt := 97) C dX8_paired_71 (by decide) ?_
        exact r_iret C hq hW (by obtain rfl := Option.some.inj h; exact ⟨rfl, rfl⟩) dX8_paired_97
    · replace h := iT c35 h
      refine r_iconst (v := 0) C dX8_paired_38 (by decide) ?_
      exact r_iret C hq hW (by obtain rfl := Option.some.inj h; exact ⟨rfl, rfl⟩) dX8_paired_39
def fX8_valueIfTold_j154 (v_state : (Nat → Int32)) (v_values : (Nat → Int32)) (v_isTold : (Nat → Int32)) (p1 : Int32)  (v_waits : (Nat → Int32)) (v_readsOf : (Nat → Int32)) (v_readMany : (Nat → Int32)) (s1 : Int32) : Option (Int32 × (Nat → Int32) × (Nat → Int32) × (Nat → Int32)) :=
  rd v_state 720 (s1 + p1) fun x156 =>
  bd4 (fX8_isReadBy v_isTold v_waits v_readsOf v_readMany p1 x156) fun r161 c161_waits c161_readsOf c161_readMany =>
  if r161 = (0 : Int32) then
    some ((0 : Int32), c161_waits, c161_readsOf, c161_readMany)
  else
    rd v_values 30 x156 fun x172 =>
    some (x172, c161_waits, c161_readsOf, c161_readMany)
def fX8_valueIfTold (v_state : (Nat → Int32)) (v_values : (Nat → Int32)) (v_isTold : (Nat → Int32)) (v_waits : (Nat → Int32)) (v_readsOf : (Nat → Int32)) (v_readMany : (Nat → Int32)) (p1 : Int32) : Option (Int32 × (Nat → Int32) × (Nat → Int32) × (Nat → Int32)) :=
  rd v_state 720 ((30 : Int32) + p1) fun x8 =>
  rd v_state 720 p1 fun x15 =>
  if x15 = (0 : Int32) then
    some ((0 : Int32), v_waits, v_readsOf, v_readMany)
  else
  if x15 = (1 : Int32) then
    some (x8, v_waits, v_readsOf, v_readMany)
  else
  if x15 = (2 : Int32) then
    bd4 (fX8_paired v_state v_values v_isTold v_waits v_readsOf v_readMany p1) fun r180 c180_waits c180_readsOf c180_readMany =>
    some (r180, c180_waits, c180_readsOf, c180_readMany)
  else
  if x15 = (3 : Int32) then
    bd4 (fX8_paired v_state v_values v_isTold v_waits v_readsOf v_readMany p1) fun r180 c180_waits c180_readsOf c180_readMany =>
    some (r180, c180_waits, c180_readsOf, c180_readMany)
  else
  if x15 = (4 : Int32) then
    bd4 (fX8_paired v_state v_values v_isTold v_waits v_readsOf v_readMany p1) fun r180 c180_waits c180_readsOf c180_readMany =>
    some (r180, c180_waits, c180_readsOf, c180_readMany)
  else
  if x15 = (5 : Int32) then
    bd4 (fX8_isReadBy v_isTold v_waits v_readsOf v_readMany p1 x8) fun r75 c75_waits c75_readsOf c75_readMany =>
    if r75 = (0 : Int32) then
      some ((0 : Int32), c75_waits, c75_readsOf, c75_readMany)
    else
      rd v_values 30 x8 fun x88 =>
      bd1 (fX8_modulo x88) fun r89 =>
      bd4 (fX8_isReadBy v_isTold c75_waits c75_readsOf c75_readMany p1 r89) fun r92 c92_waits c92_readsOf c92_readMany =>
      if r92 = (0 : Int32) then
        some ((0 : Int32), c92_waits, c92_readsOf, c92_readMany)
      else
        rd v_values 30 x8 fun x107 =>
        bd1 (fX8_modulo x107) fun r108 =>
        rd v_values 30 r108 fun x111 =>
        some (x111, c92_waits, c92_readsOf, c92_readMany)
  else
  if x15 = (6 : Int32) then
    bd4 (fX8_spanned v_state v_values v_isTold v_waits v_readsOf v_readMany p1) fun r119 c119_waits c119_readsOf c119_readMany =>
    some (r119, c119_waits, c119_readsOf, c119_readMany)
  else
  if x15 = (7 : Int32) then
    bd4 (fX8_spanned v_state v_values v_isTold v_waits v_readsOf v_readMany p1) fun r119 c119_waits c119_readsOf c119_readMany =>
    some (r119, c119_waits, c119_readsOf, c119_readMany)
  else
  if x15 = (8 : Int32) then
    bd4 (fX8_isReadBy v_isTold v_waits v_readsOf v_readMany p1 x8) fun r126 c126_waits c126_readsOf c126_readMany =>
    if r126 = (0 : Int32) then
      some ((0 : Int32), c126_waits, c126_readsOf, c126_readMany)
    else
      rd v_values 30 x8 fun x143 =>
      if x143 ≤ (0 : Int32) then
        fX8_valueIfTold_j154 v_state v_values v_isTold p1  c126_waits c126_readsOf c126_readMany (90 : Int32)
      else
        fX8_valueIfTold_j154 v_state v_values v_isTold p1  c126_waits c126_readsOf c126_readMany (60 : Int32)
  else
    bd4 (fX8_paired v_state v_values v_isTold v_waits v_readsOf v_readMany p1) fun r180 c180_waits c180_readsOf c180_readMany =>
    some (r180, c180_waits, c180_readsOf, c180_readMany)
set_option maxRecDepth 100000 in
set_option maxHeartbeats 8000000 in
theorem mX8_valueIfTold (X : Ev) (ad : Nat → Nat) (v_state : (Nat → Int32)) (v_tape : (Nat → Int32)) (v_taped : Int32) (v_fault : Int32) (v_broken : Int32) (v_brokenAt : Int32) (v_spot : Int32) (v_here : Int32) (v_token : Int32) (v_number : Int32) (v_ends : (Nat → Int32)) (v_letters : (Nat → Int32)) (v_values : (Nat → Int32)) (v_isTold : (Nat → Int32)) (v_waits : (Nat → Int32)) (v_readsOf : (Nat → Int32)) (v_readMany : (Nat → Int32)) (v_heights : (Nat → Int32)) (v_isStarted : Int32) (v_oldValues : (Nat → Int32)) (v_isOldTold : (Nat → Int32)) (v_oldReads : (Nat → Int32)) (v_evaluated : Int32) (v_moved : Int32) (v_isChanged : Int32) (v_undos : (Nat → Int32)) (v_undoMany : Int32) (v_undoAside : (Nat → Int32)) (v_formula : (Nat → Int32)) (v_isKept : (Nat → Int32)) (v_lanes : (Nat → Int32)) (v_lengths : (Nat → Int32)) (v_items : (Nat → Int32)) (v_torn : Int32) (v_isAsideChanged : Int32) (p1 : Int32) (o : Int32 × (Nat → Int32) × (Nat → Int32) × (Nat → Int32)) (h : fX8_valueIfTold v_state v_values v_isTold v_waits v_readsOf v_readMany p1 = some o) : Ctr X yX8_valueIfTold cX8_valueIfTold 4 (some .int) 2 49 0 0 [.ref (ad 0), .int p1] [(ad 0, .inr (8, [.ref (ad 1), .ref (ad 2), .int v_taped, .int v_fault, .int v_broken, .int v_brokenAt, .int v_spot, .int v_here, .int v_token, .int v_number, .ref (ad 3), .ref (ad 4), .ref (ad 5), .ref (ad 6), .ref (ad 7), .ref (ad 8), .ref (ad 9), .ref (ad 10), .int v_isStarted, .ref (ad 11), .ref (ad 12), .ref (ad 13), .int v_evaluated, .int v_moved, .int v_isChanged, .ref (ad 14), .int v_undoMany, .ref (ad 15), .ref (ad 16), .ref (ad 17), .ref (ad 18), .ref (ad 19), .ref (ad 20), .int v_torn, .int v_isAsideChanged])), (ad 1, .inl (eI X, 720, .inl v_state)), (ad 2, .inl (eI X, 320, .inl v_tape)), (ad 3, .inl (eI X, 9, .inl v_ends)), (ad 4, .inl (eI X, 27, .inl v_letters)), (ad 5, .inl (eI X, 30, .inl v_values)), (ad 6, .inl (eZ X, 30, .inl v_isTold)), (ad 7, .inl (eI X, 30, .inl v_waits)), (ad 8, .inl (eI X, 900, .inl v_readsOf)), (ad 9, .inl (eI X, 30, .inl v_readMany)), (ad 10, .inl (eI X, 30, .inl v_heights)), (ad 11, .inl (eI X, 30, .inl v_oldValues)), (ad 12, .inl (eZ X, 30, .inl v_isOldTold)), (ad 13, .inl (eI X, 30, .inl v_oldReads)), (ad 14, .inl (eI X, 100, .inl v_undos)), (ad 15, .inl (eI X, 103, .inl v_undoAside)), (ad 16, .inl (eI X, 4, .inl v_formula)), (ad 17, .inl (eZ X, 2, .inl v_isKept)), (ad 18, .inl (eI X, 4, .inl v_lanes)), (ad 19, .inl (eI X, 4, .inl v_lengths)), (ad 20, .inl (eI X, 160, .inl v_items))] (De (some (.int o.1)) [(ad 0, .inr (8, [.ref (ad 1), .ref (ad 2), .int v_taped, .int v_fault, .int v_broken, .int v_brokenAt, .int v_spot, .int v_here, .int v_token, .int v_number, .ref (ad 3), .ref (ad 4), .ref (ad 5), .ref (ad 6), .ref (ad 7), .ref (ad 8), .ref (ad 9), .ref (ad 10), .int v_isStarted, .ref (ad 11), .ref (ad 12), .ref (ad 13), .int v_evaluated, .int v_moved, .int v_isChanged, .ref (ad 14), .int v_undoMany, .ref (ad 15), .ref (ad 16), .ref (ad 17), .ref (ad 18), .ref (ad 19), .ref (ad 20), .int v_torn, .int v_isAsideChanged])), (ad 1, .inl (eI X, 720, .inl v_state)), (ad 2, .inl (eI X, 320, .inl v_tape)), (ad 3, .inl (eI X, 9, .inl v_ends)), (ad 4, .inl (eI X, 27, .inl v_letters)), (ad 5, .inl (eI X, 30, .inl v_values)), (ad 6, .inl (eZ X, 30, .inl v_isTold)), (ad 7, .inl (eI X, 30, .inl (o.2.1))), (ad 8, .inl (eI X, 900, .inl (o.2.2.1))), (ad 9, .inl (eI X, 30, .inl (o.2.2.2))), (ad 10, .inl (eI X, 30, .inl v_heights)), (ad 11, .inl (eI X, 30, .inl v_oldValues)), (ad 12, .inl (eZ X, 30, .inl v_isOldTold)), (ad 13, .inl (eI X, 30, .inl v_oldReads)), (ad 14, .inl (eI X, 100, .inl v_undos)), (ad 15, .inl (eI X, 103, .inl v_undoAside)), (ad 16, .inl (eI X, 4, .inl v_formula)), (ad 17, .inl (eZ X, 2, .inl v_isKept)), (ad 18, .inl (eI X, 4, .inl v_lanes)), (ad 19, .inl (eI X, 4, .inl v_lengths)), (ad 20, .inl (eI X, 160, .inl v_items))]) := by
  refine Ctr.start (by decide) (Nat.le_of_ble_eq_true rfl) (fun k A ls C hq hin hW hl => ?_)
  replace C : Cx X k cX8_valueIfTold 4 (some .int) RX8 A 2 49 0 0 := C
  replace hl : lv_has ls 4 [(0, .ref (ad 0)), (1, .int p1)] := hl
  suffices hh : ∀ (H : Heap) (L : List Loc), Wd X k A [(ad 0, .inr (8, [.ref (ad 1), .ref (ad 2), .int v_taped, .int v_fault, .int v_broken, .int v_brokenAt, .int v_spot, .int v_here, .int v_token, .int v_number, .ref (ad 3), .ref (ad 4), .ref (ad 5), .ref (ad 6), .ref (ad 7), .ref (ad 8), .ref (ad 9), .ref (ad 10), .int v_isStarted, .ref (ad 11), .ref (ad 12), .ref (ad 13), .int v_evaluated, .int v_moved, .int v_isChanged, .ref (ad 14), .int v_undoMany, .ref (ad 15), .ref (ad 16), .ref (ad 17), .ref (ad 18), .ref (ad 19), .ref (ad 20), .int v_torn, .int v_isAsideChanged])), (ad 1, .inl (eI X, 720, .inl v_state)), (ad 2, .inl (eI X, 320, .inl v_tape)), (ad 3, .inl (eI X, 9, .inl v_ends)), (ad 4, .inl (eI X, 27, .inl v_letters)), (ad 5, .inl (eI X, 30, .inl v_values)), (ad 6, .inl (eZ X, 30, .inl v_isTold)), (ad 7, .inl (eI X, 30, .inl v_waits)), (ad 8, .inl (eI X, 900, .inl v_readsOf)), (ad 9, .inl (eI X, 30, .inl v_readMany)), (ad 10, .inl (eI X, 30, .inl v_heights)), (ad 11, .inl (eI X, 30, .inl v_oldValues)), (ad 12, .inl (eZ X, 30, .inl v_isOldTold)), (ad 13, .inl (eI X, 30, .inl v_oldReads)), (ad 14, .inl (eI X, 100, .inl v_undos)), (ad 15, .inl (eI X, 103, .inl v_undoAside)), (ad 16, .inl (eI X, 4, .inl v_formula)), (ad 17, .inl (eZ X, 2, .inl v_isKept)), (ad 18, .inl (eI X, 4, .inl v_lanes)), (ad 19, .inl (eI X, 4, .inl v_lengths)), (ad 20, .inl (eI X, 160, .inl v_items))] H L → Wx X k 0 0 H L 0 ls [] from hh _ _ hW
  clear hW
  intro H L hW
  have K154 : ∀ (v_waits : (Nat → Int32)), ∀ (v_readsOf : (Nat → Int32)), ∀ (v_readMany : (Nat → Int32)), ∀ (s1 : Int32), ∀ (H : Heap) (L : List Loc) (ls : Array Slot), Wd X k A [(ad 0, .inr (8, [.ref (ad 1), .ref (ad 2), .int v_taped, .int v_fault, .int v_broken, .int v_brokenAt, .int v_spot, .int v_here, .int v_token, .int v_number, .ref (ad 3), .ref (ad 4), .ref (ad 5), .ref (ad 6), .ref (ad 7), .ref (ad 8), .ref (ad 9), .ref (ad 10), .int v_isStarted, .ref (ad 11), .ref (ad 12), .ref (ad 13), .int v_evaluated, .int v_moved, .int v_isChanged, .ref (ad 14), .int v_undoMany, .ref (ad 15), .ref (ad 16), .ref (ad 17), .ref (ad 18), .ref (ad 19), .ref (ad 20), .int v_torn, .int v_isAsideChanged])), (ad 1, .inl (eI X, 720, .inl v_state)), (ad 2, .inl (eI X, 320, .inl v_tape)), (ad 3, .inl (eI X, 9, .inl v_ends)), (ad 4, .inl (eI X, 27, .inl v_letters)), (ad 5, .inl (eI X, 30, .inl v_values)), (ad 6, .inl (eZ X, 30, .inl v_isTold)), (ad 7, .inl (eI X, 30, .inl v_waits)), (ad 8, .inl (eI X, 900, .inl v_readsOf)), (ad 9, .inl (eI X, 30, .inl v_readMany)), (ad 10, .inl (eI X, 30, .inl v_heights)), (ad 11, .inl (eI X, 30, .inl v_oldValues)), (ad 12, .inl (eZ X, 30, .inl v_isOldTold)), (ad 13, .inl (eI X, 30, .inl v_oldReads)), (ad 14, .inl (eI X, 100, .inl v_undos)), (ad 15, .inl (eI X, 103, .inl v_undoAside)), (ad 16, .inl (eI X, 4, .inl v_formula)), (ad 17, .inl (eZ X, 2, .inl v_isKept)), (ad 18, .inl (eI X, 4, .inl v_lanes)), (ad 19, .inl (eI X, 4, .inl v_lengths)), (ad 20, .inl (eI X, 160, .inl v_items))] H L → lv_has ls 4 [(0, .ref (ad 0)), (1, .int p1)] → fX8_valueIfTold_j154 v_state v_values v_isTold p1  v_waits v_readsOf v_readMany s1 = some o → Wx X k 0 0 H L 154 ls [.int s1, .ref (ad 1)] := by
    intro v_waits v_readsOf v_readMany s1 H L ls hW hl h
    unfold fX8_valueIfTold_j154 at h
    refine r_iload_n C hl 1 dX8_valueIfTold_154 rfl rfl ?_
    refine r_iadd C dX8_valueIfTold_155 ?_
    obtain ⟨x156, e156, g156, h⟩ := rd_some h
    refine r_iald C hW 1 rfl g156 e156 dX8_valueIfTold_156 ?_
    refine r_istore_n (lv' := [(3, .int x156), (0, .ref (ad 0)), (1, .int p1)]) C hl dX8_valueIfTold_157 rfl (by decide) rfl (fun ls hl => ?_)
    refine r_aload_n C hl 1 dX8_valueIfTold_158 rfl rfl ?_
    refine r_iload_n C hl 2 dX8_valueIfTold_159 rfl rfl ?_
    refine r_iload_n C hl 0 dX8_valueIfTold_160 rfl rfl ?_
    obtain ⟨r161, c161_waits, c161_readsOf, c161_readMany, h161, h⟩ := bd4_some h
    refine r_V (wr := []) (np := 2) C hl (mX8_isReadBy X ad  v_state v_tape v_taped v_fault v_broken v_brokenAt v_spot v_here v_token v_number v_ends v_letters v_values v_isTold v_waits v_readsOf v_readMany v_heights v_isStarted v_oldValues v_isOldTold v_oldReads v_evaluated v_moved v_isChanged v_undos v_undoMany v_undoAside v_formula v_isKept v_lanes v_lengths v_items v_torn v_isAsideChanged p1 x156 (r161, c161_waits, c161_readsOf, c161_readMany) h161) hW [0, 1, 2, 3, 4, 5, 6, 7, 8, 9, 10, 11, 12, 13, 14, 15, 16, 17, 18, 19, 20] [] rfl rfl rfl rfl (by decide) 0 rfl rfl w_cd_X8_isReadBy w_ml_X8_149 w_im_X8_isReadBy w_sel_X8_isReadBy w_in_HeightSheetModel (by decide +kernel) rfl ⟨Nat.le_of_ble_eq_true rfl, Nat.le_of_ble_eq_true rfl⟩ ⟨Nat.zero_le _, Nat.zero_le _⟩ (Nat.le_of_ble_eq_true rfl) dX8_valueIfTold_161 (fun rv w1 H L hp hW => ?_) rfl
    obtain ⟨rfl, rfl⟩ := hp
    replace hW : Wd X k A [(ad 0, .inr (8, [.ref (ad 1), .ref (ad 2), .int v_taped, .int v_fault, .int v_broken, .int v_brokenAt, .int v_spot, .int v_here, .int v_token, .int v_number, .ref (ad 3), .ref (ad 4), .ref (ad 5), .ref (ad 6), .ref (ad 7), .ref (ad 8), .ref (ad 9), .ref (ad 10), .int v_isStarted, .ref (ad 11), .ref (ad 12), .ref (ad 13), .int v_evaluated, .int v_moved, .int v_isChanged, .ref (ad 14), .int v_undoMany, .ref (ad 15), .ref (ad 16), .ref (ad 17), .ref (ad 18), .ref (ad 19), .ref (ad 20), .int v_torn, .int v_isAsideChanged])), (ad 1, .inl (eI X, 720, .inl v_state)), (ad 2, .inl (eI X, 320, .inl v_tape)), (ad 3, .inl (eI X, 9, .inl v_ends)), (ad 4, .inl (eI X, 27, .inl v_letters)), (ad 5, .inl (eI X, 30, .inl v_values)), (ad 6, .inl (eZ X, 30, .inl v_isTold)), (ad 7, .inl (eI X, 30, .inl c161_waits)), (ad 8, .inl (eI X, 900, .inl c161_readsOf)), (ad 9, .inl (eI X, 30, .inl c161_readMany)), (ad 10, .inl (eI X, 30, .inl v_heights)), (ad 11, .inl (eI X, 30, .inl v_oldValues)), (ad 12, .inl (eZ X, 30, .inl v_isOldTold)), (ad 13, .inl (eI X, 30, .inl v_oldReads)), (ad 14, .inl (eI X, 100, .inl v_undos)), (ad 15, .inl (eI X, 103, .inl v_undoAside)), (ad 16, .inl (eI X, 4, .inl v_formula)), (ad 17, .inl (eZ X, 2, .inl v_isKept)), (ad 18, .inl (eI X, 4, .inl v_lanes)), (ad 19, .inl (eI X, 4, .inl v_lengths)), (ad 20, .inl (eI X, 160, .inl v_items))] H L := hW.sub [0, 1, 2, 3, 4, 5, 6, 7, 8, 9, 10, 11, 12, 13, 14, 15, 16, 17, 18, 19, 20] rfl rfl
    show Wx X k 0 0 H L 164 ls [.int r161]
    refine r_if_eq (tgt := 176) C dX8_valueIfTold_164 (by decide) (fun c164 => ?_) (fun c164 => ?_)
    · replace h := iT c164 h
      refine r_iconst (v := 0) C dX8_valueIfTold_176 (by decide) ?_
      exact r_iret C hq hW (by obtain rfl := Option.some.inj h; exact ⟨rfl, rfl⟩) dX8_valueIfTold_177
    · replace h := iF c164 h
      refine r_aload_n C hl 1 dX8_valueIfTold_167 rfl rfl ?_
      refine r_get C hW 0 rfl rfl iwX8 12 (by decide) w_fl_X8_22 rfl dX8_valueIfTold_168 ?_
      refine r_iload_n C hl 0 dX8_valueIfTold_171 rfl rfl ?_
      obtain ⟨x172, e172, g172, h⟩ := rd_some h
      refine r_iald C hW 5 rfl g172 e172 dX8_valueIfTold_172 ?_
      refine r_goto (tgt := 177) C dX8_valueIfTold_173 (by decide) ?_
      exact r_iret C hq hW (by obtain rfl := Option.some.inj h; exact ⟨rfl, rfl⟩) dX8_valueIfTold_177
  unfold fX8_valueIfTold at h
  refine r_aload_n C hl 0 dX8_valueIfTold_0 rfl rfl ?_
  refine r_get C hW 0 rfl rfl iwX8 0 (by decide) w_fl_X8_7 rfl dX8_valueIfTold_1 ?_
  refine r_bipush (v := 30) C dX8_valueIfTold_4 (by decide) ?_
  refine r_iload_n C hl 1 dX8_valueIfTold_6 rfl rfl ?_
  refine r_iadd C dX8_valueIfTold_7 ?_
  obtain ⟨x8, e8, g8, h⟩ := rd_some h
  refine r_iald C hW 1 rfl g8 e8 dX8_valueIfTold_8 ?_
  refine r_istore_n (lv' := [(2, .int x8), (0, .ref (ad 0)), (1, .int p1)]) C hl dX8_valueIfTold_9 rfl (by decide) rfl (fun ls hl => ?_)
  refine r_aload_n C hl 1 dX8_valueIfTold_10 rfl rfl ?_
  refine r_get C hW 0 rfl rfl iwX8 0 (by decide) w_fl_X8_7 rfl dX8_valueIfTold_11 ?_
  refine r_iload_n C hl 2 dX8_valueIfTold_14 rfl rfl ?_
  obtain ⟨x15, e15, g15, h⟩ := rd_some h
  refine r_iald C hW 1 rfl g15 e15 dX8_valueIfTold_15 ?_
  by_cases c16_0 : x15 = (0 : Int32)
  · replace h := iT c16_0 h
    refine r_swI (tgt := 68) C dX8_valueIfTold_16 c16_0 (by decide) (by decide) rfl (by decide) ?_
    refine r_iconst (v := 0) C dX8_valueIfTold_68 (by decide) ?_
    exact r_iret C hq hW (by obtain rfl := Option.some.inj h; exact ⟨rfl, rfl⟩) dX8_valueIfTold_69
  · replace h := iF c16_0 h
    by_cases c16_1 : x15 = (1 : Int32)
    · replace h := iT c16_1 h
      refine r_swI (tgt := 70) C dX8_valueIfTold_16 c16_1 (by decide) (by decide) rfl (by decide) ?_
      refine r_iload_n C hl 0 dX8_valueIfTold_70 rfl rfl ?_
      exact r_iret C hq hW (by obtain rfl := Option.some.inj h; exact ⟨rfl, rfl⟩) dX8_valueIfTold_71
    · replace h := iF c16_1 h
      by_cases c16_2 : x15 = (2 : Int32)
      · replace h := iT c16_2 h
        refine r_swI (tgt := 178) C dX8_valueIfTold_16 c16_2 (by decide) (by decide) rfl (by decide) ?_
        refine r_aload_n C hl 1 dX8_valueIfTold_178 rfl rfl ?_
        refine r_iload_n C hl 2 dX8_valueIfTold_179 rfl rfl ?_
        obtain ⟨r180, c180_waits, c180_readsOf, c180_readMany, h180, h⟩ := bd4_some h
        refine r_V (wr := []) (np := 1) C hl (mX8_paired X ad  v_state v_tape v_taped v_fault v_broken v_brokenAt v_spot v_here v_token v_number v_ends v_letters v_values v_isTold v_waits v_readsOf v_readMany v_heights v_isStarted v_oldValues v_isOldTold v_oldReads v_evaluated v_moved v_isChanged v_undos v_undoMany v_undoAside v_formula v_isKept v_lanes v_lengths v_items v_torn v_isAsideChanged p1 (r180, c180_waits, c180_readsOf, c180_readMany) h180) hW [0, 1, 2, 3, 4, 5, 6, 7, 8, 9, 10, 11, 12, 13, 14, 15, 16, 17, 18, 19, 20] [] rfl rfl rfl rfl (by decide) 0 rfl rfl w_cd_X8_paired w_ml_X8_159 w_im_X8_paired w_sel_X8_paired w_in_HeightSheetModel (by decide +kernel) rfl ⟨Nat.le_of_ble_eq_true rfl, Nat.le_of_ble_eq_true rfl⟩ ⟨Nat.zero_le _, Nat.zero_le _⟩ (Nat.le_of_ble_eq_true rfl) dX8_valueIfTold_180 (fun rv w1 H L hp hW => ?_) rfl
        obtain ⟨rfl, rfl⟩ := hp
        replace hW : Wd X k A [(ad 0, .inr (8, [.ref (ad 1), .ref (ad 2), .int v_taped, .int v_fault, .int v_broken, .int v_brokenAt, .int v_spot, .int v_here, .int v_token, .int v_number, .ref (ad 3), .ref (ad 4), .ref (ad 5), .ref (ad 6), .ref (ad 7), .ref (ad 8), .ref (ad 9), .ref (ad 10), .int v_isStarted, .ref (ad 11), .ref (ad 12), .ref (ad 13), .int v_evaluated, .int v_moved, .int v_isChanged, .ref (ad 14), .int v_undoMany, .ref (ad 15), .ref (ad 16), .ref (ad 17), .ref (ad 18), .ref (ad 19), .ref (ad 20), .int v_torn, .int v_isAsideChanged])), (ad 1, .inl (eI X, 720, .inl v_state)), (ad 2, .inl (eI X, 320, .inl v_tape)), (ad 3, .inl (eI X, 9, .inl v_ends)), (ad 4, .inl (eI X, 27, .inl v_letters)), (ad 5, .inl (eI X, 30, .inl v_values)), (ad 6, .inl (eZ X, 30, .inl v_isTold)), (ad 7, .inl (eI X, 30, .inl c180_waits)), (ad 8, .inl (eI X, 900, .inl c180_readsOf)), (ad 9, .inl (eI X, 30, .inl c180_readMany)), (ad 10, .inl (eI X, 30, .inl v_heights)), (ad 11, .inl (eI X, 30, .inl v_oldValues)), (ad 12, .inl (eZ X, 30, .inl v_isOldTold)), (ad 13, .inl (eI X, 30, .inl v_oldReads)), (ad 14, .inl (eI X, 100, .inl v_undos)), (ad 15, .inl (eI X, 103, .inl v_undoAside)), (ad 16, .inl (eI X, 4, .inl v_formula)), (ad 17, .inl (eZ X, 2, .inl v_isKept)), (ad 18, .inl (eI X, 4, .inl v_lanes)), (ad 19, .inl (eI X, 4, .inl v_lengths)), (ad 20, .inl (eI X, 160, .inl v_items))] H L := hW.sub [0, 1, 2, 3, 4, 5, 6, 7, 8, 9, 10, 11, 12, 13, 14, 15, 16, 17, 18, 19, 20] rfl rfl
        show Wx X k 0 0 H L 183 ls [.int r180]
        exact r_iret C hq hW (by obtain rfl := Option.some.inj h; exact ⟨rfl, rfl⟩) dX8_valueIfTold_183
      · replace h := iF c16_2 h
        by_cases c16_3 : x15 = (3 : Int32)
        · replace h := iT c16_3 h
          refine r_swI (tgt := 178) C dX8_valueIfTold_16 c16_3 (by decide) (by decide) rfl (by decide) ?_
          refine r_aload_n C hl 1 dX8_valueIfTold_178 rfl rfl ?_
          refine r_iload_n C hl 2 dX8_valueIfTold_179 rfl rfl ?_
          obtain ⟨r180, c180_waits, c180_readsOf, c180_readMany, h180, h⟩ := bd4_some h
          refine r_V (wr := []) (np := 1) C hl (mX8_paired X ad  v_state v_tape v_taped v_fault v_broken v_brokenAt v_spot v_here v_token v_number v_ends v_letters v_values v_isTold v_waits v_readsOf v_readMany v_heights v_isStarted v_oldValues v_isOldTold v_oldReads v_evaluated v_moved v_isChanged v_undos v_undoMany v_undoAside v_formula v_isKept v_lanes v_lengths v_items v_torn v_isAsideChanged p1 (r180, c180_waits, c180_readsOf, c180_readMany) h180) hW [0, 1, 2, 3, 4, 5, 6, 7, 8, 9, 10, 11, 12, 13, 14, 15, 16, 17, 18, 19, 20] [] rfl rfl rfl rfl (by decide) 0 rfl rfl w_cd_X8_paired w_ml_X8_159 w_im_X8_paired w_sel_X8_paired w_in_HeightSheetModel (by decide +kernel) rfl ⟨Nat.le_of_ble_eq_true rfl, Nat.le_of_ble_eq_true rfl⟩ ⟨Nat.zero_le _, Nat.zero_le _⟩ (Nat.le_of_ble_eq_true rfl) dX8_valueIfTold_180 (fun rv w1 H L hp hW => ?_) rfl
          obtain ⟨rfl, rfl⟩ := hp
          replace hW : Wd X k A [(ad 0, .inr (8, [.ref (ad 1), .ref (ad 2), .int v_taped, .int v_fault, .int v_broken, .int v_brokenAt, .int v_spot, .int v_here, .int v_token, .int v_number, .ref (ad 3), .ref (ad 4), .ref (ad 5), .ref (ad 6), .ref (ad 7), .ref (ad 8), .ref (ad 9), .ref (ad 10), .int v_isStarted, .ref (ad 11), .ref (ad 12), .ref (ad 13), .int v_evaluated, .int v_moved, .int v_isChanged, .ref (ad 14), .int v_undoMany, .ref (ad 15), .ref (ad 16), .ref (ad 17), .ref (ad 18), .ref (ad 19), .ref (ad 20), .int v_torn, .int v_isAsideChanged])), (ad 1, .inl (eI X, 720, .inl v_state)), (ad 2, .inl (eI X, 320, .inl v_tape)), (ad 3, .inl (eI X, 9, .inl v_ends)), (ad 4, .inl (eI X, 27, .inl v_letters)), (ad 5, .inl (eI X, 30, .inl v_values)), (ad 6, .inl (eZ X, 30, .inl v_isTold)), (ad 7, .inl (eI X, 30, .inl c180_waits)), (ad 8, .inl (eI X, 900, .inl c180_readsOf)), (ad 9, .inl (eI X, 30, .inl c180_readMany)), (ad 10, .inl (eI X, 30, .inl v_heights)), (ad 11, .inl (eI X, 30, .inl v_oldValues)), (ad 12, .inl (eZ X, 30, .inl v_isOldTold)), (ad 13, .inl (eI X, 30, .inl v_oldReads)), (ad 14, .inl (eI X, 100, .inl v_undos)), (ad 15, .inl (eI X, 103, .inl v_undoAside)), (ad 16, .inl (eI X, 4, .inl v_formula)), (ad 17, .inl (eZ X, 2, .inl v_isKept)), (ad 18, .inl (eI X, 4, .inl v_lanes)), (ad 19, .inl (eI X, 4, .inl v_lengths)), (ad 20, .inl (eI X, 160, .inl v_items))] H L := hW.sub [0, 1, 2, 3, 4, 5, 6, 7, 8, 9, 10, 11, 12, 13, 14, 15, 16, 17, 18, 19, 20] rfl rfl
          show Wx X k 0 0 H L 183 ls [.int r180]
          exact r_iret C hq hW (by obtain rfl := Option.some.inj h; exact ⟨rfl, rfl⟩) dX8_valueIfTold_183
        · replace h := iF c16_3 h
          by_cases c16_4 : x15 = (4 : Int32)
          · replace h := iT c16_4 h
            refine r_swI (tgt := 178) C dX8_valueIfTold_16 c16_4 (by decide) (by decide) rfl (by decide) ?_
            refine r_aload_n C hl 1 dX8_valueIfTold_178 rfl rfl ?_
            refine r_iload_n C hl 2 dX8_valueIfTold_179 rfl rfl ?_
            obtain ⟨r180, c180_waits, c180_readsOf, c180_readMany, h180, h⟩ := bd4_some h
            refine r_V (wr := []) (np := 1) C hl (mX8_paired X ad  v_state v_tape v_taped v_fault v_broken v_brokenAt v_spot v_here v_token v_number v_ends v_letters v_values v_isTold v_waits v_readsOf v_readMany v_heights v_isStarted v_oldValues v_isOldTold v_oldReads v_evaluated v_moved v_isChanged v_undos v_undoMany v_undoAside v_formula v_isKept v_lanes v_lengths v_items v_torn v_isAsideChanged p1 (r180, c180_waits, c180_readsOf, c180_readMany) h180) hW [0, 1, 2, 3, 4, 5, 6, 7, 8, 9, 10, 11, 12, 13, 14, 15, 16, 17, 18, 19, 20] [] rfl rfl rfl rfl (by decide) 0 rfl rfl w_cd_X8_paired w_ml_X8_159 w_im_X8_paired w_sel_X8_paired w_in_HeightSheetModel (by decide +kernel) rfl ⟨Nat.le_of_ble_eq_true rfl, Nat.le_of_ble_eq_true rfl⟩ ⟨Nat.zero_le _, Nat.zero_le _⟩ (Nat.le_of_ble_eq_true rfl) dX8_valueIfTold_180 (fun rv w1 H L hp hW => ?_) rfl
            obtain ⟨rfl, rfl⟩ := hp
            replace hW : Wd X k A [(ad 0, .inr (8, [.ref (ad 1), .ref (ad 2), .int v_taped, .int v_fault, .int v_broken, .int v_brokenAt, .int v_spot, .int v_here, .int v_token, .int v_number, .ref (ad 3), .ref (ad 4), .ref (ad 5), .ref (ad 6), .ref (ad 7), .ref (ad 8), .ref (ad 9), .ref (ad 10), .int v_isStarted, .ref (ad 11), .ref (ad 12), .ref (ad 13), .int v_evaluated, .int v_moved, .int v_isChanged, .ref (ad 14), .int v_undoMany, .ref (ad 15), .ref (ad 16), .ref (ad 17), .ref (ad 18), .ref (ad 19), .ref (ad 20), .int v_torn, .int v_isAsideChanged])), (ad 1, .inl (eI X, 720, .inl v_state)), (ad 2, .inl (eI X, 320, .inl v_tape)), (ad 3, .inl (eI X, 9, .inl v_ends)), (ad 4, .inl (eI X, 27, .inl v_letters)), (ad 5, .inl (eI X, 30, .inl v_values)), (ad 6, .inl (eZ X, 30, .inl v_isTold)), (ad 7, .inl (eI X, 30, .inl c180_waits)), (ad 8, .inl (eI X, 900, .inl c180_readsOf)), (ad 9, .inl (eI X, 30, .inl c180_readMany)), (ad 10, .inl (eI X, 30, .inl v_heights)), (ad 11, .inl (eI X, 30, .inl v_oldValues)), (ad 12, .inl (eZ X, 30, .inl v_isOldTold)), (ad 13, .inl (eI X, 30, .inl v_oldReads)), (ad 14, .inl (eI X, 100, .inl v_undos)), (ad 15, .inl (eI X, 103, .inl v_undoAside)), (ad 16, .inl (eI X, 4, .inl v_formula)), (ad 17, .inl (eZ X, 2, .inl v_isKept)), (ad 18, .inl (eI X, 4, .inl v_lanes)), (ad 19, .inl (eI X, 4, .inl v_lengths)), (ad 20, .inl (eI X, 160, .inl v_items))] H L := hW.sub [0, 1, 2, 3, 4, 5, 6, 7, 8, 9, 10, 11, 12, 13, 14, 15, 16, 17, 18, 19, 20] rfl rfl
            show Wx X k 0 0 H L 183 ls [.int r180]
            exact r_iret C hq hW (by obtain rfl := Option.some.inj h; exact ⟨rfl, rfl⟩) dX8_valueIfTold_183
          · replace h := iF c16_4 h
            by_cases c16_5 : x15 = (5 : Int32)
            · replace h := iT c16_5 h
              refine r_swI (tgt := 72) C dX8_valueIfTold_16 c16_5 (by decide) (by decide) rfl (by decide) ?_
              refine r_aload_n C hl 1 dX8_valueIfTold_72 rfl rfl ?_
              refine r_iload_n C hl 2 dX8_valueIfTold_73 rfl rfl ?_
              refine r_iload_n C hl 0 dX8_valueIfTold_74 rfl rfl ?_
              obtain ⟨r75, c75_waits, c75_readsOf, c75_readMany, h75, h⟩ := bd4_some h
              refine r_V (wr := []) (np := 2) C hl (mX8_isReadBy X ad  v_state v_tape v_taped v_fault v_broken v_brokenAt v_spot v_here v_token v_number v_ends v_letters v_values v_isTold v_waits v_readsOf v_readMany v_heights v_isStarted v_oldValues v_isOldTold v_oldReads v_evaluated v_moved v_isChanged v_undos v_undoMany v_undoAside v_formula v_isKept v_lanes v_lengths v_items v_torn v_isAsideChanged p1 x8 (r75, c75_waits, c75_readsOf, c75_readMany) h75) hW [0, 1, 2, 3, 4, 5, 6, 7, 8, 9, 10, 11, 12, 13, 14, 15, 16, 17, 18, 19, 20] [] rfl rfl rfl rfl (by decide) 0 rfl rfl w_cd_X8_isReadBy w_ml_X8_149 w_im_X8_isReadBy w_sel_X8_isReadBy w_in_HeightSheetModel (by decide +kernel) rfl ⟨Nat.le_of_ble_eq_true rfl, Nat.le_of_ble_eq_true rfl⟩ ⟨Nat.zero_le _, Nat.zero_le _⟩ (Nat.le_of_ble_eq_true rfl) dX8_valueIfTold_75 (fun rv w1 H L hp hW => ?_) rfl
              obtain ⟨rfl, rfl⟩ := hp
              replace hW : Wd X k A [(ad 0, .inr (8, [.ref (ad 1), .ref (ad 2), .int v_taped, .int v_fault, .int v_broken, .int v_brokenAt, .int v_spot, .int v_here, .int v_token, .int v_number, .ref (ad 3), .ref (ad 4), .ref (ad 5), .ref (ad 6), .ref (ad 7), .ref (ad 8), .ref (ad 9), .ref (ad 10), .int v_isStarted, .ref (ad 11), .ref (ad 12), .ref (ad 13), .int v_evaluated, .int v_moved, .int v_isChanged, .ref (ad 14), .int v_undoMany, .ref (ad 15), .ref (ad 16), .ref (ad 17), .ref (ad 18), .ref (ad 19), .ref (ad 20), .int v_torn, .int v_isAsideChanged])), (ad 1, .inl (eI X, 720, .inl v_state)), (ad 2, .inl (eI X, 320, .inl v_tape)), (ad 3, .inl (eI X, 9, .inl v_ends)), (ad 4, .inl (eI X, 27, .inl v_letters)), (ad 5, .inl (eI X, 30, .inl v_values)), (ad 6, .inl (eZ X, 30, .inl v_isTold)), (ad 7, .inl (eI X, 30, .inl c75_waits)), (ad 8, .inl (eI X, 900, .inl c75_readsOf)), (ad 9, .inl (eI X, 30, .inl c75_readMany)), (ad 10, .inl (eI X, 30, .inl v_heights)), (ad 11, .inl (eI X, 30, .inl v_oldValues)), (ad 12, .inl (eZ X, 30, .inl v_isOldTold)), (ad 13, .inl (eI X, 30, .inl v_oldReads)), (ad 14, .inl (eI X, 100, .inl v_undos)), (ad 15, .inl (eI X, 103, .inl v_undoAside)), (ad 16, .inl (eI X, 4, .inl v_formula)), (ad 17, .inl (eZ X, 2, .inl v_isKept)), (ad 18, .inl (eI X, 4, .inl v_lanes)), (ad 19, .inl (eI X, 4, .inl v_lengths)), (ad 20, .inl (eI X, 160, .inl v_items))] H L := hW.sub [0, 1, 2, 3, 4, 5, 6, 7, 8, 9, 10, 11, 12, 13, 14, 15, 16, 17, 18, 19, 20] rfl rfl
              show Wx X k 0 0 H L 78 ls [.int r75]
              refine r_if_eq (tgt := 115) C dX8_valueIfTold_78 (by decide) (fun c78 => ?_) (fun c78 => ?_)
              · replace h := iT c78 h
                refine r_iconst (v := 0) C dX8_valueIfTold_115 (by decide) ?_
                exact r_iret C hq hW (by obtain rfl := Option.some.inj h; exact ⟨rfl, rfl⟩) dX8_valueIfTold_116
              · replace h := iF c78 h
                refine r_aload_n C hl 1 dX8_valueIfTold_81 rfl rfl ?_
                refine r_iload_n C hl 2 dX8_valueIfTold_82 rfl rfl ?_
                refine r_aload_n C hl 1 dX8_valueIfTold_83 rfl rfl ?_
                refine r_get C hW 0 rfl rfl iwX8 12 (by decide) w_fl_X8_22 rfl dX8_valueIfTold_84 ?_
                refine r_iload_n C hl 0 dX8_valueIfTold_87 rfl rfl ?_
                obtain ⟨x88, e88, g88, h⟩ := rd_some h
                refine r_iald C hW 5 rfl g88 e88 dX8_valueIfTold_88 ?_
                obtain ⟨r89, h89, h⟩ := bd1_some h
                refine r_S (wr := [(ad 0, .inr (8, [.ref (ad 1), .ref (ad 2), .int v_taped, .int v_fault, .int v_broken, .int v_brokenAt, .int v_spot, .int v_here, .int v_token, .int v_number, .ref (ad 3), .ref (ad 4), .ref (ad 5), .ref (ad 6), .ref (ad 7), .ref (ad 8), .ref (ad 9), .ref (ad 10), .int v_isStarted, .ref (ad 11), .ref (ad 12), .ref (ad 13), .int v_evaluated, .int v_moved, .int v_isChanged, .ref (ad 14), .int v_undoMany, .ref (ad 15), .ref (ad 16), .ref (ad 17), .ref (ad 18), .ref (ad 19), .ref (ad 20), .int v_torn, .int v_isAsideChanged])), (ad 1, .inl (eI X, 720, .inl v_state)), (ad 2, .inl (eI X, 320, .inl v_tape)), (ad 3, .inl (eI X, 9, .inl v_ends)), (ad 4, .inl (eI X, 27, .inl v_letters)), (ad 5, .inl (eI X, 30, .inl v_values)), (ad 6, .inl (eZ X, 30, .inl v_isTold)), (ad 7, .inl (eI X, 30, .inl c75_waits)), (ad 8, .inl (eI X, 900, .inl c75_readsOf)), (ad 9, .inl (eI X, 30, .inl c75_readMany)), (ad 10, .inl (eI X, 30, .inl v_heights)), (ad 11, .inl (eI X, 30, .inl v_oldValues)), (ad 12, .inl (eZ X, 30, .inl v_isOldTold)), (ad 13, .inl (eI X, 30, .inl v_oldReads)), (ad 14, .inl (eI X, 100, .inl v_undos)), (ad 15, .inl (eI X, 103, .inl v_undoAside)), (ad 16, .inl (eI X, 4, .inl v_formula)), (ad 17, .inl (eZ X, 2, .inl v_isKept)), (ad 18, .inl (eI X, 4, .inl v_lanes)), (ad 19, .inl (eI X, 4, .inl v_lengths)), (ad 20, .inl (eI X, 160, .inl v_items))]) (np := 1) C hl (mX8_modulo X    x88 r89 h89) hW [] [0, 1, 2, 3, 4, 5, 6, 7, 8, 9, 10, 11, 12, 13, 14, 15, 16, 17, 18, 19, 20] rfl rfl rfl rfl (by decide) w_cd_X8_modulo w_ml_X8_153 w_st_X8_modulo w_in_HeightSheetModel (by decide +kernel) rfl ⟨Nat.le_of_ble_eq_true rfl, Nat.le_of_ble_eq_true rfl⟩ ⟨Nat.zero_le _, Nat.zero_le _⟩ (Nat.le_of_ble_eq_true rfl) dX8_valueIfTold_89 (fun rv w1 H L hp hW => ?_) rfl
                obtain ⟨rfl, rfl⟩ := hp
                replace hW : Wd X k A [(ad 0, .inr (8, [.ref (ad 1), .ref (ad 2), .int v_taped, .int v_fault, .int v_broken, .int v_brokenAt, .int v_spot, .int v_here, .int v_token, .int v_number, .ref (ad 3), .ref (ad 4), .ref (ad 5), .ref (ad 6), .ref (ad 7), .ref (ad 8), .ref (ad 9), .ref (ad 10), .int v_isStarted, .ref (ad 11), .ref (ad 12), .ref (ad 13), .int v_evaluated, .int v_moved, .int v_isChanged, .ref (ad 14), .int v_undoMany, .ref (ad 15), .ref (ad 16), .ref (ad 17), .ref (ad 18), .ref (ad 19), .ref (ad 20), .int v_torn, .int v_isAsideChanged])), (ad 1, .inl (eI X, 720, .inl v_state)), (ad 2, .inl (eI X, 320, .inl v_tape)), (ad 3, .inl (eI X, 9, .inl v_ends)), (ad 4, .inl (eI X, 27, .inl v_letters)), (ad 5, .inl (eI X, 30, .inl v_values)), (ad 6, .inl (eZ X, 30, .inl v_isTold)), (ad 7, .inl (eI X, 30, .inl c75_waits)), (ad 8, .inl (eI X, 900, .inl c75_readsOf)), (ad 9, .inl (eI X, 30, .inl c75_readMany)), (ad 10, .inl (eI X, 30, .inl v_heights)), (ad 11, .inl (eI X, 30, .inl v_oldValues)), (ad 12, .inl (eZ X, 30, .inl v_isOldTold)), (ad 13, .inl (eI X, 30, .inl v_oldReads)), (ad 14, .inl (eI X, 100, .inl v_undos)), (ad 15, .inl (eI X, 103, .inl v_undoAside)), (ad 16, .inl (eI X, 4, .inl v_formula)), (ad 17, .inl (eZ X, 2, .inl v_isKept)), (ad 18, .inl (eI X, 4, .inl v_lanes)), (ad 19, .inl (eI X, 4, .inl v_lengths)), (ad 20, .inl (eI X, 160, .inl v_items))] H L := hW.sub [0, 1, 2, 3, 4, 5, 6, 7, 8, 9, 10, 11, 12, 13, 14, 15, 16, 17, 18, 19, 20] rfl rfl
                show Wx X k 0 0 H L 92 ls [.int r89, .int p1, .ref (ad 0)]
                obtain ⟨r92, c92_waits, c92_readsOf, c92_readMany, h92, h⟩ := bd4_some h
                refine r_V (wr := []) (np := 2) C hl (mX8_isReadBy X ad  v_state v_tape v_taped v_fault v_broken v_brokenAt v_spot v_here v_token v_number v_ends v_letters v_values v_isTold c75_waits c75_readsOf c75_readMany v_heights v_isStarted v_oldValues v_isOldTold v_oldReads v_evaluated v_moved v_isChanged v_undos v_undoMany v_undoAside v_formula v_isKept v_lanes v_lengths v_items v_torn v_isAsideChanged p1 r89 (r92, c92_waits, c92_readsOf, c92_readMany) h92) hW [0, 1, 2, 3, 4, 5, 6, 7, 8, 9, 10, 11, 12, 13, 14, 15, 16, 17, 18, 19, 20] [] rfl rfl rfl rfl (by decide) 0 rfl rfl w_cd_X8_isReadBy w_ml_X8_149 w_im_X8_isReadBy w_sel_X8_isReadBy w_in_HeightSheetModel (by decide +kernel) rfl ⟨Nat.le_of_ble_eq_true rfl, Nat.le_of_ble_eq_true rfl⟩ ⟨Nat.zero_le _, Nat.zero_le _⟩ (Nat.le_of_ble_eq_true rfl) dX8_valueIfTold_92 (fun rv w1 H L hp hW => ?_) rfl
                obtain ⟨rfl, rfl⟩ := hp
                replace hW : Wd X k A [(ad 0, .inr (8, [.ref (ad 1), .ref (ad 2), .int v_taped, .int v_fault, .int v_broken, .int v_brokenAt, .int v_spot, .int v_here, .int v_token, .int v_number, .ref (ad 3), .ref (ad 4), .ref (ad 5), .ref (ad 6), .ref (ad 7), .ref (ad 8), .ref (ad 9), .ref (ad 10), .int v_isStarted, .ref (ad 11), .ref (ad 12), .ref (ad 13), .int v_evaluated, .int v_moved, .int v_isChanged, .ref (ad 14), .int v_undoMany, .ref (ad 15), .ref (ad 16), .ref (ad 17), .ref (ad 18), .ref (ad 19), .ref (ad 20), .int v_torn, .int v_isAsideChanged])), (ad 1, .inl (eI X, 720, .inl v_state)), (ad 2, .inl (eI X, 320, .inl v_tape)), (ad 3, .inl (eI X, 9, .inl v_ends)), (ad 4, .inl (eI X, 27, .inl v_letters)), (ad 5, .inl (eI X, 30, .inl v_values)), (ad 6, .inl (eZ X, 30, .inl v_isTold)), (ad 7, .inl (eI X, 30, .inl c92_waits)), (ad 8, .inl (eI X, 900, .inl c92_readsOf)), (ad 9, .inl (eI X, 30, .inl c92_readMany)), (ad 10, .inl (eI X, 30, .inl v_heights)), (ad 11, .inl (eI X, 30, .inl v_oldValues)), (ad 12, .inl (eZ X, 30, .inl v_isOldTold)), (ad 13, .inl (eI X, 30, .inl v_oldReads)), (ad 14, .inl (eI X, 100, .inl v_undos)), (ad 15, .inl (eI X, 103, .inl v_undoAside)), (ad 16, .inl (eI X, 4, .inl v_formula)), (ad 17, .inl (eZ X, 2, .inl v_isKept)), (ad 18, .inl (eI X, 4, .inl v_lanes)), (ad 19, .inl (eI X, 4, .inl v_lengths)), (ad 20, .inl (eI X, 160, .inl v_items))] H L := hW.sub [0, 1, 2, 3, 4, 5, 6, 7, 8, 9, 10, 11, 12, 13, 14, 15, 16, 17, 18, 19, 20] rfl rfl
                show Wx X k 0 0 H L 95 ls [.int r92]
                refine r_if_eq (tgt := 115) C dX8_valueIfTold_95 (by decide) (fun c95 => ?_) (fun c95 => ?_)
                · replace h := iT c95 h
                  refine r_iconst (v := 0) C dX8_valueIfTold_115 (by decide) ?_
                  exact r_iret C hq hW (by obtain rfl := Option.some.inj h; exact ⟨rfl, rfl⟩) dX8_valueIfTold_116
                · replace h := iF c95 h
                  refine r_aload_n C hl 1 dX8_valueIfTold_98 rfl rfl ?_
                  refine r_get C hW 0 rfl rfl iwX8 12 (by decide) w_fl_X8_22 rfl dX8_valueIfTold_99 ?_
                  refine r_aload_n C hl 1 dX8_valueIfTold_102 rfl rfl ?_
                  refine r_get C hW 0 rfl rfl iwX8 12 (by decide) w_fl_X8_22 rfl dX8_valueIfTold_103 ?_
                  refine r_iload_n C hl 0 dX8_valueIfTold_106 rfl rfl ?_
                  obtain ⟨x107, e107, g107, h⟩ := rd_some h
                  refine r_iald C hW 5 rfl g107 e107 dX8_valueIfTold_107 ?_
                  obtain ⟨r108, h108, h⟩ := bd1_some h
                  refine r_S (wr := [(ad 0, .inr (8, [.ref (ad 1), .ref (ad 2), .int v_taped, .int v_fault, .int v_broken, .int v_brokenAt, .int v_spot, .int v_here, .int v_token, .int v_number, .ref (ad 3), .ref (ad 4), .ref (ad 5), .ref (ad 6), .ref (ad 7), .ref (ad 8), .ref (ad 9), .ref (ad 10), .int v_isStarted, .ref (ad 11), .ref (ad 12), .ref (ad 13), .int v_evaluated, .int v_moved, .int v_isChanged, .ref (ad 14), .int v_undoMany, .ref (ad 15), .ref (ad 16), .ref (ad 17), .ref (ad 18), .ref (ad 19), .ref (ad 20), .int v_torn, .int v_isAsideChanged])), (ad 1, .inl (eI X, 720, .inl v_state)), (ad 2, .inl (eI X, 320, .inl v_tape)), (ad 3, .inl (eI X, 9, .inl v_ends)), (ad 4, .inl (eI X, 27, .inl v_letters)), (ad 5, .inl (eI X, 30, .inl v_values)), (ad 6, .inl (eZ X, 30, .inl v_isTold)), (ad 7, .inl (eI X, 30, .inl c92_waits)), (ad 8, .inl (eI X, 900, .inl c92_readsOf)), (ad 9, .inl (eI X, 30, .inl c92_readMany)), (ad 10, .inl (eI X, 30, .inl v_heights)), (ad 11, .inl (eI X, 30, .inl v_oldValues)), (ad 12, .inl (eZ X, 30, .inl v_isOldTold)), (ad 13, .inl (eI X, 30, .inl v_oldReads)), (ad 14, .inl (eI X, 100, .inl v_undos)), (ad 15, .inl (eI X, 103, .inl v_undoAside)), (ad 16, .inl (eI X, 4, .inl v_formula)), (ad 17, .inl (eZ X, 2, .inl v_isKept)), (ad 18, .inl (eI X, 4, .inl v_lanes)), (ad 19, .inl (eI X, 4, .inl v_lengths)), (ad 20, .inl (eI X, 160, .inl v_items))]) (np := 1) C hl (mX8_modulo X    x107 r108 h108) hW [] [0, 1, 2, 3, 4, 5, 6, 7, 8, 9, 10, 11, 12, 13, 14, 15, 16, 17, 18, 19, 20] rfl rfl rfl rfl (by decide) w_cd_X8_modulo w_ml_X8_153 w_st_X8_modulo w_in_HeightSheetModel (by decide +kernel) rfl ⟨Nat.le_of_ble_eq_true rfl, Nat.le_of_ble_eq_true rfl⟩ ⟨Nat.zero_le _, Nat.zero_le _⟩ (Nat.le_of_ble_eq_true rfl) dX8_valueIfTold_108 (fun rv w1 H L hp hW => ?_) rfl
                  obtain ⟨rfl, rfl⟩ := hp
                  replace hW : Wd X k A [(ad 0, .inr (8, [.ref (ad 1), .ref (ad 2), .int v_taped, .int v_fault, .int v_broken, .int v_brokenAt, .int v_spot, .int v_here, .int v_token, .int v_number, .ref (ad 3), .ref (ad 4), .ref (ad 5), .ref (ad 6), .ref (ad 7), .ref (ad 8), .ref (ad 9), .ref (ad 10), .int v_isStarted, .ref (ad 11), .ref (ad 12), .ref (ad 13), .int v_evaluated, .int v_moved, .int v_isChanged, .ref (ad 14), .int v_undoMany, .ref (ad 15), .ref (ad 16), .ref (ad 17), .ref (ad 18), .ref (ad 19), .ref (ad 20), .int v_torn, .int v_isAsideChanged])), (ad 1, .inl (eI X, 720, .inl v_state)), (ad 2, .inl (eI X, 320, .inl v_tape)), (ad 3, .inl (eI X, 9, .inl v_ends)), (ad 4, .inl (eI X, 27, .inl v_letters)), (ad 5, .inl (eI X, 30, .inl v_values)), (ad 6, .inl (eZ X, 30, .inl v_isTold)), (ad 7, .inl (eI X, 30, .inl c92_waits)), (ad 8, .inl (eI X, 900, .inl c92_readsOf)), (ad 9, .inl (eI X, 30, .inl c92_readMany)), (ad 10, .inl (eI X, 30, .inl v_heights)), (ad 11, .inl (eI X, 30, .inl v_oldValues)), (ad 12, .inl (eZ X, 30, .inl v_isOldTold)), (ad 13, .inl (eI X, 30, .inl v_oldReads)), (ad 14, .inl (eI X, 100, .inl v_undos)), (ad 15, .inl (eI X, 103, .inl v_undoAside)), (ad 16, .inl (eI X, 4, .inl v_formula)), (ad 17, .inl (eZ X, 2, .inl v_isKept)), (ad 18, .inl (eI X, 4, .inl v_lanes)), (ad 19, .inl (eI X, 4, .inl v_lengths)), (ad 20, .inl (eI X, 160, .inl v_items))] H L := hW.sub [0, 1, 2, 3, 4, 5, 6, 7, 8, 9, 10, 11, 12, 13, 14, 15, 16, 17, 18, 19, 20] rfl rfl
                  show Wx X k 0 0 H L 111 ls [.int r108, .ref (ad 5)]
                  obtain ⟨x111, e111, g111, h⟩ := rd_some h
                  refine r_iald C hW 5 rfl g111 e111 dX8_valueIfTold_111 ?_
                  refine r_goto (tgt := 116) C dX8_valueIfTold_112 (by decide) ?_
                  exact r_iret C hq hW (by obtain rfl := Option.some.inj h; exact ⟨rfl, rfl⟩) dX8_valueIfTold_116
            · replace h := iF c16_5 h
              by_cases c16_6 : x15 = (6 : Int32)
              · replace h := iT c16_6 h
                refine r_swI (tgt := 117) C dX8_valueIfTold_16 c16_6 (by decide) (by decide) rfl (by decide) ?_
                refine r_aload_n C hl 1 dX8_valueIfTold_117 rfl rfl ?_
                refine r_iload_n C hl 2 dX8_valueIfTold_118 rfl rfl ?_
                obtain ⟨r119, c119_waits, c119_readsOf, c119_readMany, h119, h⟩ := bd4_some h
                refine r_V (wr := []) (np := 1) C hl (mX8_spanned X ad  v_state v_tape v_taped v_fault v_broken v_brokenAt v_spot v_here v_token v_number v_ends v_letters v_values v_isTold v_waits v_readsOf v_readMany v_heights v_isStarted v_oldValues v_isOldTold v_oldReads v_evaluated v_moved v_isChanged v_undos v_undoMany v_undoAside v_formula v_isKept v_lanes v_lengths v_items v_torn v_isAsideChanged p1 (r119, c119_waits, c119_readsOf, c119_readMany) h119) hW [0, 1, 2, 3, 4, 5, 6, 7, 8, 9, 10, 11, 12, 13, 14, 15, 16, 17, 18, 19, 20] [] rfl rfl rfl rfl (by decide) 0 rfl rfl w_cd_X8_spanned w_ml_X8_156 w_im_X8_spanned w_sel_X8_spanned w_in_HeightSheetModel (by decide +kernel) rfl ⟨Nat.le_of_ble_eq_true rfl, Nat.le_of_ble_eq_true rfl⟩ ⟨Nat.zero_le _, Nat.zero_le _⟩ (Nat.le_of_ble_eq_true rfl) dX8_valueIfTold_119 (fun rv w1 H L hp hW => ?_) rfl
                obtain ⟨rfl, rfl⟩ := hp
                replace hW : Wd X k A [(ad 0, .inr (8, [.ref (ad 1), .ref (ad 2), .int v_taped, .int v_fault, .int v_broken, .int v_brokenAt, .int v_spot, .int v_here, .int v_token, .int v_number, .ref (ad 3), .ref (ad 4), .ref (ad 5), .ref (ad 6), .ref (ad 7), .ref (ad 8), .ref (ad 9), .ref (ad 10), .int v_isStarted, .ref (ad 11), .ref (ad 12), .ref (ad 13), .int v_evaluated, .int v_moved, .int v_isChanged, .ref (ad 14), .int v_undoMany, .ref (ad 15), .ref (ad 16), .ref (ad 17), .ref (ad 18), .ref (ad 19), .ref (ad 20), .int v_torn, .int v_isAsideChanged])), (ad 1, .inl (eI X, 720, .inl v_state)), (ad 2, .inl (eI X, 320, .inl v_tape)), (ad 3, .inl (eI X, 9, .inl v_ends)), (ad 4, .inl (eI X, 27, .inl v_letters)), (ad 5, .inl (eI X, 30, .inl v_values)), (ad 6, .inl (eZ X, 30, .inl v_isTold)), (ad 7, .inl (eI X, 30, .inl c119_waits)), (ad 8, .inl (eI X, 900, .inl c119_readsOf)), (ad 9, .inl (eI X, 30, .inl c119_readMany)), (ad 10, .inl (eI X, 30, .inl v_heights)), (ad 11, .inl (eI X, 30, .inl v_oldValues)), (ad 12, .inl (eZ X, 30, .inl v_isOldTold)), (ad 13, .inl (eI X, 30, .inl v_oldReads)), (ad 14, .inl (eI X, 100, .inl v_undos)), (ad 15, .inl (eI X, 103, .inl v_undoAside)), (ad 16, .inl (eI X, 4, .inl v_formula)), (ad 17, .inl (eZ X, 2, .inl v_isKept)), (ad 18, .inl (eI X, 4, .inl v_lanes)), (ad 19, .inl (eI X, 4, .inl v_lengths)), (ad 20, .inl (eI X, 160, .inl v_items))] H L := hW.sub [0, 1, 2, 3, 4, 5, 6, 7, 8, 9, 10, 11, 12, 13, 14, 15, 16, 17, 18, 19, 20] rfl rfl
                show Wx X k 0 0 H L 122 ls [.int r119]
                exact r_iret C hq hW (by obtain rfl := Option.some.inj h; exact ⟨rfl, rfl⟩) dX8_valueIfTold_122
              · replace h := iF c16_6 h
                by_cases c16_7 : x15 = (7 : Int32)
                · replace h := iT c16_7 h
                  refine r_swI (tgt := 117) C dX8_valueIfTold_16 c16_7 (by decide) (by decide) rfl (by decide) ?_
                  refine r_aload_n C hl 1 dX8_valueIfTold_117 rfl rfl ?_
                  refine r_iload_n C hl 2 dX8_valueIfTold_118 rfl rfl ?_
                  obtain ⟨r119, c119_waits, c119_readsOf, c119_readMany, h119, h⟩ := bd4_some h
                  refine r_V (wr := []) (np := 1) C hl (mX8_spanned X ad  v_state v_tape v_taped v_fault v_broken v_brokenAt v_spot v_here v_token v_number v_ends v_letters v_values v_isTold v_waits v_readsOf v_readMany v_heights v_isStarted v_oldValues v_isOldTold v_oldReads v_evaluated v_moved v_isChanged v_undos v_undoMany v_undoAside v_formula v_isKept v_lanes v_lengths v_items v_torn v_isAsideChanged p1 (r119, c119_waits, c119_readsOf, c119_readMany) h119) hW [0, 1, 2, 3, 4, 5, 6, 7, 8, 9, 10, 11, 12, 13, 14, 15, 16, 17, 18, 19, 20] [] rfl rfl rfl rfl (by decide) 0 rfl rfl w_cd_X8_spanned w_ml_X8_156 w_im_X8_spanned w_sel_X8_spanned w_in_HeightSheetModel (by decide +kernel) rfl ⟨Nat.le_of_ble_eq_true rfl, Nat.le_of_ble_eq_true rfl⟩ ⟨Nat.zero_le _, Nat.zero_le _⟩ (Nat.le_of_ble_eq_true rfl) dX8_valueIfTold_119 (fun rv w1 H L hp hW => ?_) rfl
                  obtain ⟨rfl, rfl⟩ := hp
                  replace hW : Wd X k A [(ad 0, .inr (8, [.ref (ad 1), .ref (ad 2), .int v_taped, .int v_fault, .int v_broken, .int v_brokenAt, .int v_spot, .int v_here, .int v_token, .int v_number, .ref (ad 3), .ref (ad 4), .ref (ad 5), .ref (ad 6), .ref (ad 7), .ref (ad 8), .ref (ad 9), .ref (ad 10), .int v_isStarted, .ref (ad 11), .ref (ad 12), .ref (ad 13), .int v_evaluated, .int v_moved, .int v_isChanged, .ref (ad 14), .int v_undoMany, .ref (ad 15), .ref (ad 16), .ref (ad 17), .ref (ad 18), .ref (ad 19), .ref (ad 20), .int v_torn, .int v_isAsideChanged])), (ad 1, .inl (eI X, 720, .inl v_state)), (ad 2, .inl (eI X, 320, .inl v_tape)), (ad 3, .inl (eI X, 9, .inl v_ends)), (ad 4, .inl (eI X, 27, .inl v_letters)), (ad 5, .inl (eI X, 30, .inl v_values)), (ad 6, .inl (eZ X, 30, .inl v_isTold)), (ad 7, .inl (eI X, 30, .inl c119_waits)), (ad 8, .inl (eI X, 900, .inl c119_readsOf)), (ad 9, .inl (eI X, 30, .inl c119_readMany)), (ad 10, .inl (eI X, 30, .inl v_heights)), (ad 11, .inl (eI X, 30, .inl v_oldValues)), (ad 12, .inl (eZ X, 30, .inl v_isOldTold)), (ad 13, .inl (eI X, 30, .inl v_oldReads)), (ad 14, .inl (eI X, 100, .inl v_undos)), (ad 15, .inl (eI X, 103, .inl v_undoAside)), (ad 16, .inl (eI X, 4, .inl v_formula)), (ad 17, .inl (eZ X, 2, .inl v_isKept)), (ad 18, .inl (eI X, 4, .inl v_lanes)), (ad 19, .inl (eI X, 4, .inl v_lengths)), (ad 20, .inl (eI X, 160, .inl v_items))] H L := hW.sub [0, 1, 2, 3, 4, 5, 6, 7, 8, 9, 10, 11, 12, 13, 14, 15, 16, 17, 18, 19, 20] rfl rfl
                  show Wx X k 0 0 H L 122 ls [.int r119]
                  exact r_iret C hq hW (by obtain rfl := Option.some.inj h; exact ⟨rfl, rfl⟩) dX8_valueIfTold_122
                · replace h := iF c16_7 h
                  by_cases c16_8 : x15 = (8 : Int32)
                  · replace h := iT c16_8 h
                    refine r_swI (tgt := 123) C dX8_valueIfTold_16 c16_8 (by decide) (by decide) rfl (by decide) ?_
                    refine r_aload_n C hl 1 dX8_valueIfTold_123 rfl rfl ?_
                    refine r_iload_n C hl 2 dX8_valueIfTold_124 rfl rfl ?_
                    refine r_iload_n C hl 0 dX8_valueIfTold_125 rfl rfl ?_
                    obtain ⟨r126, c126_waits, c126_readsOf, c126_readMany, h126, h⟩ := bd4_some h
                    refine r_V (wr := []) (np := 2) C hl (mX8_isReadBy X ad  v_state v_tape v_taped v_fault v_broken v_brokenAt v_spot v_here v_token v_number v_ends v_letters v_values v_isTold v_waits v_readsOf v_readMany v_heights v_isStarted v_oldValues v_isOldTold v_oldReads v_evaluated v_moved v_isChanged v_undos v_undoMany v_undoAside v_formula v_isKept v_lanes v_lengths v_items v_torn v_isAsideChanged p1 x8 (r126, c126_waits, c126_readsOf, c126_readMany) h126) hW [0, 1, 2, 3, 4, 5, 6, 7, 8, 9, 10, 11, 12, 13, 14, 15, 16, 17, 18, 19, 20] [] rfl rfl rfl rfl (by decide) 0 rfl rfl w_cd_X8_isReadBy w_ml_X8_149 w_im_X8_isReadBy w_sel_X8_isReadBy w_in_HeightSheetModel (by decide +kernel) rfl ⟨Nat.le_of_ble_eq_true rfl, Nat.le_of_ble_eq_true rfl⟩ ⟨Nat.zero_le _, Nat.zero_le _⟩ (Nat.le_of_ble_eq_true rfl) dX8_valueIfTold_126 (fun rv w1 H L hp hW => ?_) rfl
                    obtain ⟨rfl, rfl⟩ := hp
                    replace hW : Wd X k A [(ad 0, .inr (8, [.ref (ad 1), .ref (ad 2), .int v_taped, .int v_fault, .int v_broken, .int v_brokenAt, .int v_spot, .int v_here, .int v_token, .int v_number, .ref (ad 3), .ref (ad 4), .ref (ad 5), .ref (ad 6), .ref (ad 7), .ref (ad 8), .ref (ad 9), .ref (ad 10), .int v_isStarted, .ref (ad 11), .ref (ad 12), .ref (ad 13), .int v_evaluated, .int v_moved, .int v_isChanged, .ref (ad 14), .int v_undoMany, .ref (ad 15), .ref (ad 16), .ref (ad 17), .ref (ad 18), .ref (ad 19), .ref (ad 20), .int v_torn, .int v_isAsideChanged])), (ad 1, .inl (eI X, 720, .inl v_state)), (ad 2, .inl (eI X, 320, .inl v_tape)), (ad 3, .inl (eI X, 9, .inl v_ends)), (ad 4, .inl (eI X, 27, .inl v_letters)), (ad 5, .inl (eI X, 30, .inl v_values)), (ad 6, .inl (eZ X, 30, .inl v_isTold)), (ad 7, .inl (eI X, 30, .inl c126_waits)), (ad 8, .inl (eI X, 900, .inl c126_readsOf)), (ad 9, .inl (eI X, 30, .inl c126_readMany)), (ad 10, .inl (eI X, 30, .inl v_heights)), (ad 11, .inl (eI X, 30, .inl v_oldValues)), (ad 12, .inl (eZ X, 30, .inl v_isOldTold)), (ad 13, .inl (eI X, 30, .inl v_oldReads)), (ad 14, .inl (eI X, 100, .inl v_undos)), (ad 15, .inl (eI X, 103, .inl v_undoAside)), (ad 16, .inl (eI X, 4, .inl v_formula)), (ad 17, .inl (eZ X, 2, .inl v_isKept)), (ad 18, .inl (eI X, 4, .inl v_lanes)), (ad 19, .inl (eI X, 4, .inl v_lengths)), (ad 20, .inl (eI X, 160, .inl v_items))] H L := hW.sub [0, 1, 2, 3, 4, 5, 6, 7, 8, 9, 10, 11, 12, 13, 14, 15, 16, 17, 18, 19, 20] rfl rfl
                    show Wx X k 0 0 H L 129 ls [.int r126]
                    refine r_if_ne (tgt := 134) C dX8_valueIfTold_129 (by decide) (fun c129 => ?_) (fun c129 => ?_)
                    · replace h := iF c129 h
                      refine r_aload_n C hl 1 dX8_valueIfTold_134 rfl rfl ?_
                      refine r_get C hW 0 rfl rfl iwX8 0 (by decide) w_fl_X8_7 rfl dX8_valueIfTold_135 ?_
                      refine r_aload_n C hl 1 dX8_valueIfTold_138 rfl rfl ?_
                      refine r_get C hW 0 rfl rfl iwX8 12 (by decide) w_fl_X8_22 rfl dX8_valueIfTold_139 ?_
                      refine r_iload_n C hl 0 dX8_valueIfTold_142 rfl rfl ?_
                      obtain ⟨x143, e143, g143, h⟩ := rd_some h
                      refine r_iald C hW 5 rfl g143 e143 dX8_valueIfTold_143 ?_
                      refine r_if_le (tgt := 152) C dX8_valueIfTold_144 (by decide) (fun c144 => ?_) (fun c144 => ?_)
                      · replace h := iT c144 h
                        refine r_bipush (v := 90) C dX8_valueIfTold_152 (by decide) ?_
                        exact K154 c126_waits c126_readsOf c126_readMany (90 : Int32) H L ls hW (lv_sub hl [1, 2] rfl) h
                      · replace h := iF c144 h
                        refine r_bipush (v := 60) C dX8_valueIfTold_147 (by decide) ?_
                        refine r_goto (tgt := 154) C dX8_valueIfTold_149 (by decide) ?_
                        exact K154 c126_waits c126_readsOf c126_readMany (60 : Int32) H L ls hW (lv_sub hl [1, 2] rfl) h
                    · replace h := iT c129 h
                      refine r_iconst (v := 0) C dX8_valueIfTold_132 (by decide) ?_
                      exact r_iret C hq hW (by obtain rfl := Option.some.inj h; exact ⟨rfl, rfl⟩) dX8_valueIfTold_133
                  · replace h := iF c16_8 h
                    refine r_swO (tgt := 178) C dX8_valueIfTold_16 (by have t_ := And.intro trivial trivial; have u0 := lv_neT (a := 0) c16_0 rfl; have u1 := lv_neT (a := 1) c16_1 rfl; have u2 := lv_neT (a := 2) c16_2 rfl; have u3 := lv_neT (a := 3) c16_3 rfl; have u4 := lv_neT (a := 4) c16_4 rfl; have u5 := lv_neT (a := 5) c16_5 rfl; have u6 := lv_neT (a := 6) c16_6 rfl; have u7 := lv_neT (a := 7) c16_7 rfl; have u8 := lv_neT (a := 8) c16_8 rfl; omega) (by decide) ?_
                    refine r_aload_n C hl 1 dX8_valueIfTold_178 rfl rfl ?_
                    refine r_iload_n C hl 2 dX8_valueIfTold_179 rfl rfl ?_
                    obtain ⟨r180, c180_waits, c180_readsOf, c180_readMany, h180, h⟩ := bd4_some h
                    refine r_V (wr := []) (np := 1) C hl (mX8_paired X ad  v_state v_tape v_taped v_fault v_broken v_brokenAt v_spot v_here v_token v_number v_ends v_letters v_values v_isTold v_waits v_readsOf v_readMany v_heights v_isStarted v_oldValues v_isOldTold v_oldReads v_evaluated v_moved v_isChanged v_undos v_undoMany v_undoAside v_formula v_isKept v_lanes v_lengths v_items v_torn v_isAsideChanged p1 (r180, c180_waits, c180_readsOf, c180_readMany) h180) hW [0, 1, 2, 3, 4, 5, 6, 7, 8, 9, 10, 11, 12, 13, 14, 15, 16, 17, 18, 19, 20] [] rfl rfl rfl rfl (by decide) 0 rfl rfl w_cd_X8_paired w_ml_X8_159 w_im_X8_paired w_sel_X8_paired w_in_HeightSheetModel (by decide +kernel) rfl ⟨Nat.le_of_ble_eq_true rfl, Nat.le_of_ble_eq_true rfl⟩ ⟨Nat.zero_le _, Nat.zero_le _⟩ (Nat.le_of_ble_eq_true rfl) dX8_valueIfTold_180 (fun rv w1 H L hp hW => ?_) rfl
                    obtain ⟨rfl, rfl⟩ := hp
                    replace hW : Wd X k A [(ad 0, .inr (8, [.ref (ad 1), .ref (ad 2), .int v_taped, .int v_fault, .int v_broken, .int v_brokenAt, .int v_spot, .int v_here, .int v_token, .int v_number, .ref (ad 3), .ref (ad 4), .ref (ad 5), .ref (ad 6), .ref (ad 7), .ref (ad 8), .ref (ad 9), .ref (ad 10), .int v_isStarted, .ref (ad 11), .ref (ad 12), .ref (ad 13), .int v_evaluated, .int v_moved, .int v_isChanged, .ref (ad 14), .int v_undoMany, .ref (ad 15), .ref (ad 16), .ref (ad 17), .ref (ad 18), .ref (ad 19), .ref (ad 20), .int v_torn, .int v_isAsideChanged])), (ad 1, .inl (eI X, 720, .inl v_state)), (ad 2, .inl (eI X, 320, .inl v_tape)), (ad 3, .inl (eI X, 9, .inl v_ends)), (ad 4, .inl (eI X, 27, .inl v_letters)), (ad 5, .inl (eI X, 30, .inl v_values)), (ad 6, .inl (eZ X, 30, .inl v_isTold)), (ad 7, .inl (eI X, 30, .inl c180_waits)), (ad 8, .inl (eI X, 900, .inl c180_readsOf)), (ad 9, .inl (eI X, 30, .inl c180_readMany)), (ad 10, .inl (eI X, 30, .inl v_heights)), (ad 11, .inl (eI X, 30, .inl v_oldValues)), (ad 12, .inl (eZ X, 30, .inl v_isOldTold)), (ad 13, .inl (eI X, 30, .inl v_oldReads)), (ad 14, .inl (eI X, 100, .inl v_undos)), (ad 15, .inl (eI X, 103, .inl v_undoAside)), (ad 16, .inl (eI X, 4, .inl v_formula)), (ad 17, .inl (eZ X, 2, .inl v_isKept)), (ad 18, .inl (eI X, 4, .inl v_lanes)), (ad 19, .inl (eI X, 4, .inl v_lengths)), (ad 20, .inl (eI X, 160, .inl v_items))] H L := hW.sub [0, 1, 2, 3, 4, 5, 6, 7, 8, 9, 10, 11, 12, 13, 14, 15, 16, 17, 18, 19, 20] rfl rfl
                    show Wx X k 0 0 H L 183 ls [.int r180]
                    exact r_iret C hq hW (by obtain rfl := Option.some.inj h; exact ⟨rfl, rfl⟩) dX8_valueIfTold_183
def fX8_isEvaluated_j46 (v_state : (Nat → Int32)) (p1 : Int32)  (v_values : (Nat → Int32)) (v_isTold : (Nat → Int32)) (v_waits : (Nat → Int32)) (v_readsOf : (Nat → Int32)) (v_readMany : (Nat → Int32)) : Option (Int32 × (Nat → Int32) × (Nat → Int32) × (Nat → Int32) × (Nat → Int32) × (Nat → Int32)) :=
  rd v_isTold 30 p1 fun x51 =>
  ck (x51 = 0 ∨ x51 = 1) <|
  some (x51, v_values, v_isTold, v_waits, v_readsOf, v_readMany)
def fX8_isEvaluated (v_state : (Nat → Int32)) (v_values : (Nat → Int32)) (v_isTold : (Nat → Int32)) (v_waits : (Nat → Int32)) (v_readsOf : (Nat → Int32)) (v_readMany : (Nat → Int32)) (p1 : Int32) : Option (Int32 × (Nat → Int32) × (Nat → Int32) × (Nat → Int32) × (Nat → Int32) × (Nat → Int32)) :=
  wr v_waits 30 p1 (-4 : Int32) fun w7 =>
  wr v_readMany 30 p1 (0 : Int32) fun w14 =>
  bd4 (fX8_valueIfTold v_state v_values v_isTold w7 v_readsOf w14 p1) fun r17 c17_waits c17_readsOf c17_readMany =>
  rd c17_waits 30 p1 fun x26 =>
  if x26 = (-4 : Int32) then
    wr v_values 30 p1 r17 fun w38 =>
    wr v_isTold 30 p1 (vp_nar .boolean (1 : Int32)) fun w45 =>
    fX8_isEvaluated_j46 v_state p1  w38 w45 c17_waits c17_readsOf c17_readMany
  else
    fX8_isEvaluated_j46 v_state p1  v_values v_isTold c17_waits c17_readsOf c17_readMany
set_option maxRecDepth 100000 in
set_option maxHeartbeats 8000000 in
theorem mX8_isEvaluated (X : Ev) (ad : Nat → Nat) (v_state : (Nat → Int32)) (v_tape : (Nat → Int32)) (v_taped : Int32) (v_fault : Int32) (v_broken : Int32) (v_brokenAt : Int32) (v_spot : Int32) (v_here : Int32) (v_token : Int32) (v_number : Int32) (v_ends : (Nat → Int32)) (v_letters : (Nat → Int32)) (v_values : (Nat → Int32)) (v_isTold : (Nat → Int32)) (v_waits : (Nat → Int32)) (v_readsOf : (Nat → Int32)) (v_readMany : (Nat → Int32)) (v_heights : (Nat → Int32)) (v_isStarted : Int32) (v_oldValues : (Nat → Int32)) (v_isOldTold : (Nat → Int32)) (v_oldReads : (Nat → Int32)) (v_evaluated : Int32) (v_moved : Int32) (v_isChanged : Int32) (v_undos : (Nat → Int32)) (v_undoMany : Int32) (v_undoAside : (Nat → Int32)) (v_formula : (Nat → Int32)) (v_isKept : (Nat → Int32)) (v_lanes : (Nat → Int32)) (v_lengths : (Nat → Int32)) (v_items : (Nat → Int32)) (v_torn : Int32) (v_isAsideChanged : Int32) (p1 : Int32) (o : Int32 × (Nat → Int32) × (Nat → Int32) × (Nat → Int32) × (Nat → Int32) × (Nat → Int32)) (h : fX8_isEvaluated v_state v_values v_isTold v_waits v_readsOf v_readMany p1 = some o) : Ctr X yX8_isEvaluated cX8_isEvaluated 3 (some .boolean) 3 72 0 0 [.ref (ad 0), .int p1] [(ad 0, .inr (8, [.ref (ad 1), .ref (ad 2), .int v_taped, .int v_fault, .int v_broken, .int v_brokenAt, .int v_spot, .int v_here, .int v_token, .int v_number, .ref (ad 3), .ref (ad 4), .ref (ad 5), .ref (ad 6), .ref (ad 7), .ref (ad 8), .ref (ad 9), .ref (ad 10), .int v_isStarted, .ref (ad 11), .ref (ad 12), .ref (ad 13), .int v_evaluated, .int v_moved, .int v_isChanged, .ref (ad 14), .int v_undoMany, .ref (ad 15), .ref (ad 16), .ref (ad 17), .ref (ad 18), .ref (ad 19), .ref (ad 20), .int v_torn, .int v_isAsideChanged])), (ad 1, .inl (eI X, 720, .inl v_state)), (ad 2, .inl (eI X, 320, .inl v_tape)), (ad 3, .inl (eI X, 9, .inl v_ends)), (ad 4, .inl (eI X, 27, .inl v_letters)), (ad 5, .inl (eI X, 30, .inl v_values)), (ad 6, .inl (eZ X, 30, .inl v_isTold)), (ad 7, .inl (eI X, 30, .inl v_waits)), (ad 8, .inl (eI X, 900, .inl v_readsOf)), (ad 9, .inl (eI X, 30, .inl v_readMany)), (ad 10, .inl (eI X, 30, .inl v_heights)), (ad 11, .inl (eI X, 30, .inl v_oldValues)), (ad 12, .inl (eZ X, 30, .inl v_isOldTold)), (ad 13, .inl (eI X, 30, .inl v_oldReads)), (ad 14, .inl (eI X, 100, .inl v_undos)), (ad 15, .inl (eI X, 103, .inl v_undoAside)), (ad 16, .inl (eI X, 4, .inl v_formula)), (ad 17, .inl (eZ X, 2, .inl v_isKept)), (ad 18, .inl (eI X, 4, .inl v_lanes)), (ad 19, .inl (eI X, 4, .inl v_lengths)), (ad 20, .inl (eI X, 160, .inl v_items))] (De (some (.int o.1)) [(ad 0, .inr (8, [.ref (ad 1), .ref (ad 2), .int v_taped, .int v_fault, .int v_broken, .int v_brokenAt, .int v_spot, .int v_here, .int v_token, .int v_number, .ref (ad 3), .ref (ad 4), .ref (ad 5), .ref (ad 6), .ref (ad 7), .ref (ad 8), .ref (ad 9), .ref (ad 10), .int v_isStarted, .ref (ad 11), .ref (ad 12), .ref (ad 13), .int v_evaluated, .int v_moved, .int v_isChanged, .ref (ad 14), .int v_undoMany, .ref (ad 15), .ref (ad 16), .ref (ad 17), .ref (ad 18), .ref (ad 19), .ref (ad 20), .int v_torn, .int v_isAsideChanged])), (ad 1, .inl (eI X, 720, .inl v_state)), (ad 2, .inl (eI X, 320, .inl v_tape)), (ad 3, .inl (eI X, 9, .inl v_ends)), (ad 4, .inl (eI X, 27, .inl v_letters)), (ad 5, .inl (eI X, 30, .inl (o.2.1))), (ad 6, .inl (eZ X, 30, .inl (o.2.2.1))), (ad 7, .inl (eI X, 30, .inl (o.2.2.2.1))), (ad 8, .inl (eI X, 900, .inl (o.2.2.2.2.1))), (ad 9, .inl (eI X, 30, .inl (o.2.2.2.2.2))), (ad 10, .inl (eI X, 30, .inl v_heights)), (ad 11, .inl (eI X, 30, .inl v_oldValues)), (ad 12, .inl (eZ X, 30, .inl v_isOldTold)), (ad 13, .inl (eI X, 30, .inl v_oldReads)), (ad 14, .inl (eI X, 100, .inl v_undos)), (ad 15, .inl (eI X, 103, .inl v_undoAside)), (ad 16, .inl (eI X, 4, .inl v_formula)), (ad 17, .inl (eZ X, 2, .inl v_isKept)), (ad 18, .inl (eI X, 4, .inl v_lanes)), (ad 19, .inl (eI X, 4, .inl v_lengths)), (ad 20, .inl (eI X, 160, .inl v_items))]) := by
  refine Ctr.start (by decide) (Nat.le_of_ble_eq_true rfl) (fun k A ls C hq hin hW hl => ?_)
  replace C : Cx X k cX8_isEvaluated 3 (some .boolean) RX8 A 3 72 0 0 := C
  replace hl : lv_has ls 3 [(0, .ref (ad 0)), (1, .int p1)] := hl
  suffices hh : ∀ (H : Heap) (L : List Loc), Wd X k A [(ad 0, .inr (8, [.ref (ad 1), .ref (ad 2), .int v_taped, .int v_fault, .int v_broken, .int v_brokenAt, .int v_spot, .int v_here, .int v_token, .int v_number, .ref (ad 3), .ref (ad 4), .ref (ad 5), .ref (ad 6), .ref (ad 7), .ref (ad 8), .ref (ad 9), .ref (ad 10), .int v_isStarted, .ref (ad 11), .ref (ad 12), .ref (ad 13), .int v_evaluated, .int v_moved, .int v_isChanged, .ref (ad 14), .int v_undoMany, .ref (ad 15), .ref (ad 16), .ref (ad 17), .ref (ad 18), .ref (ad 19), .ref (ad 20), .int v_torn, .int v_isAsideChanged])), (ad 1, .inl (eI X, 720, .inl v_state)), (ad 2, .inl (eI X, 320, .inl v_tape)), (ad 3, .inl (eI X, 9, .inl v_ends)), (ad 4, .inl (eI X, 27, .inl v_letters)), (ad 5, .inl (eI X, 30, .inl v_values)), (ad 6, .inl (eZ X, 30, .inl v_isTold)), (ad 7, .inl (eI X, 30, .inl v_waits)), (ad 8, .inl (eI X, 900, .inl v_readsOf)), (ad 9, .inl (eI X, 30, .inl v_readMany)), (ad 10, .inl (eI X, 30, .inl v_heights)), (ad 11, .inl (eI X, 30, .inl v_oldValues)), (ad 12, .inl (eZ X, 30, .inl v_isOldTold)), (ad 13, .inl (eI X, 30, .inl v_oldReads)), (ad 14, .inl (eI X, 100, .inl v_undos)), (ad 15, .inl (eI X, 103, .inl v_undoAside)), (ad 16, .inl (eI X, 4, .inl v_formula)), (ad 17, .inl (eZ X, 2, .inl v_isKept)), (ad 18, .inl (eI X, 4, .inl v_lanes)), (ad 19, .inl (eI X, 4, .inl v_lengths)), (ad 20, .inl (eI X, 160, .inl v_items))] H L → Wx X k 0 0 H L 0 ls [] from hh _ _ hW
  clear hW
  intro H L hW
  have K46 : ∀ (v_values : (Nat → Int32)), ∀ (v_isTold : (Nat → Int32)), ∀ (v_waits : (Nat → Int32)), ∀ (v_readsOf : (Nat → Int32)), ∀ (v_readMany : (Nat → Int32)), ∀ (H : Heap) (L : List Loc) (ls : Array Slot), Wd X k A [(ad 0, .inr (8, [.ref (ad 1), .ref (ad 2), .int v_taped, .int v_fault, .int v_broken, .int v_brokenAt, .int v_spot, .int v_here, .int v_token, .int v_number, .ref (ad 3), .ref (ad 4), .ref (ad 5), .ref (ad 6), .ref (ad 7), .ref (ad 8), .ref (ad 9), .ref (ad 10), .int v_isStarted, .ref (ad 11), .ref (ad 12), .ref (ad 13), .int v_evaluated, .int v_moved, .int v_isChanged, .ref (ad 14), .int v_undoMany, .ref (ad 15), .ref (ad 16), .ref (ad 17), .ref (ad 18), .ref (ad 19), .ref (ad 20), .int v_torn, .int v_isAsideChanged])), (ad 1, .inl (eI X, 720, .inl v_state)), (ad 2, .inl (eI X, 320, .inl v_tape)), (ad 3, .inl (eI X, 9, .inl v_ends)), (ad 4, .inl (eI X, 27, .inl v_letters)), (ad 5, .inl (eI X, 30, .inl v_values)), (ad 6, .inl (eZ X, 30, .inl v_isTold)), (ad 7, .inl (eI X, 30, .inl v_waits)), (ad 8, .inl (eI X, 900, .inl v_readsOf)), (ad 9, .inl (eI X, 30, .inl v_readMany)), (ad 10, .inl (eI X, 30, .inl v_heights)), (ad 11, .inl (eI X, 30, .inl v_oldValues)), (ad 12, .inl (eZ X, 30, .inl v_isOldTold)), (ad 13, .inl (eI X, 30, .inl v_oldReads)), (ad 14, .inl (eI X, 100, .inl v_undos)), (ad 15, .inl (eI X, 103, .inl v_undoAside)), (ad 16, .inl (eI X, 4, .inl v_formula)), (ad 17, .inl (eZ X, 2, .inl v_isKept)), (ad 18, .inl (eI X, 4, .inl v_lanes)), (ad 19, .inl (eI X, 4, .inl v_lengths)), (ad 20, .inl (eI X, 160, .inl v_items))] H L → lv_has ls 3 [(0, .ref (ad 0)), (1, .int p1)] → fX8_isEvaluated_j46 v_state p1  v_values v_isTold v_waits v_readsOf v_readMany = some o → Wx X k 0 0 H L 46 ls [] := by
    intro v_values v_isTold v_waits v_readsOf v_readMany H L ls hW hl h
    unfold fX8_isEvaluated_j46 at h
    refine r_aload_n C hl 0 dX8_isEvaluated_46 rfl rfl ?_
    refine r_get C hW 0 rfl rfl iwX8 13 (by decide) w_fl_X8_25 rfl dX8_isEvaluated_47 ?_
    refine r_iload_n C hl 1 dX8_isEvaluated_50 rfl rfl ?_
    obtain ⟨x51, e51, g51, h⟩ := rd_some h
    refine r_zald C hW 6 rfl g51 e51 dX8_isEvaluated_51 ?_
    obtain ⟨z52, h⟩ := ck_some h
    exact r_zret C hq hW (zb_n z52) (by obtain rfl := Option.some.inj h; exact ⟨rfl, rfl⟩) dX8_isEvaluated_52
  unfold fX8_isEvaluated at h
  refine r_aload_n C hl 0 dX8_isEvaluated_0 rfl rfl ?_
  refine r_get C hW 0 rfl rfl iwX8 14 (by decide) w_fl_X8_29 rfl dX8_isEvaluated_1 ?_
  refine r_iload_n C hl 1 dX8_isEvaluated_4 rfl rfl ?_
  refine r_bipush (v := -4) C dX8_isEvaluated_5 (by decide) ?_
  obtain ⟨w7, e7, g7, h⟩ := wr_some h
  refine r_iast (ws' := [(ad 0, .inr (8, [.ref (ad 1), .ref (ad 2), .int v_taped, .int v_fault, .int v_broken, .int v_brokenAt, .int v_spot, .int v_here, .int v_token, .int v_number, .ref (ad 3), .ref (ad 4), .ref (ad 5), .ref (ad 6), .ref (ad 7), .ref (ad 8), .ref (ad 9), .ref (ad 10), .int v_isStarted, .ref (ad 11), .ref (ad 12), .ref (ad 13), .int v_evaluated, .int v_moved, .int v_isChanged, .ref (ad 14), .int v_undoMany, .ref (ad 15), .ref (ad 16), .ref (ad 17), .ref (ad 18), .ref (ad 19), .ref (ad 20), .int v_torn, .int v_isAsideChanged])), (ad 1, .inl (eI X, 720, .inl v_state)), (ad 2, .inl (eI X, 320, .inl v_tape)), (ad 3, .inl (eI X, 9, .inl v_ends)), (ad 4, .inl (eI X, 27, .inl v_letters)), (ad 5, .inl (eI X, 30, .inl v_values)), (ad 6, .inl (eZ X, 30, .inl v_isTold)), (ad 7, .inl (eI X, 30, .inl w7)), (ad 8, .inl (eI X, 900, .inl v_readsOf)), (ad 9, .inl (eI X, 30, .inl v_readMany)), (ad 10, .inl (eI X, 30, .inl v_heights)), (ad 11, .inl (eI X, 30, .inl v_oldValues)), (ad 12, .inl (eZ X, 30, .inl v_isOldTold)), (ad 13, .inl (eI X, 30, .inl v_oldReads)), (ad 14, .inl (eI X, 100, .inl v_undos)), (ad 15, .inl (eI X, 103, .inl v_undoAside)), (ad 16, .inl (eI X, 4, .inl v_formula)), (ad 17, .inl (eZ X, 2, .inl v_isKept)), (ad 18, .inl (eI X, 4, .inl v_lanes)), (ad 19, .inl (eI X, 4, .inl v_lengths)), (ad 20, .inl (eI X, 160, .inl v_items))]) C hW 7 rfl g7 e7 rfl dX8_isEvaluated_7 (fun H L hW => ?_)
  refine r_aload_n C hl 0 dX8_isEvaluated_8 rfl rfl ?_
  refine r_get C hW 0 rfl rfl iwX8 16 (by decide) w_fl_X8_35 rfl dX8_isEvaluated_9 ?_
  refine r_iload_n C hl 1 dX8_isEvaluated_12 rfl rfl ?_
  refine r_iconst (v := 0) C dX8_isEvaluated_13 (by decide) ?_
  obtain ⟨w14, e14, g14, h⟩ := wr_some h
  refine r_iast (ws' := [(ad 0, .inr (8, [.ref (ad 1), .ref (ad 2), .int v_taped, .int v_fault, .int v_broken, .int v_brokenAt, .int v_spot, .int v_here, .int v_token, .int v_number, .ref (ad 3), .ref (ad 4), .ref (ad 5), .ref (ad 6), .ref (ad 7), .ref (ad 8), .ref (ad 9), .ref (ad 10), .int v_isStarted, .ref (ad 11), .ref (ad 12), .ref (ad 13), .int v_evaluated, .int v_moved, .int v_isChanged, .ref (ad 14), .int v_undoMany, .ref (ad 15), .ref (ad 16), .ref (ad 17), .ref (ad 18), .ref (ad 19), .ref (ad 20), .int v_torn, .int v_isAsideChanged])), (ad 1, .inl (eI X, 720, .inl v_state)), (ad 2, .inl (eI X, 320, .inl v_tape)), (ad 3, .inl (eI X, 9, .inl v_ends)), (ad 4, .inl (eI X, 27, .inl v_letters)), (ad 5, .inl (eI X, 30, .inl v_values)), (ad 6, .inl (eZ X, 30, .inl v_isTold)), (ad 7, .inl (eI X, 30, .inl w7)), (ad 8, .inl (eI X, 900, .inl v_readsOf)), (ad 9, .inl (eI X, 30, .inl w14)), (ad 10, .inl (eI X, 30, .inl v_heights)), (ad 11, .inl (eI X, 30, .inl v_oldValues)), (ad 12, .inl (eZ X, 30, .inl v_isOldTold)), (ad 13, .inl (eI X, 30, .inl v_oldReads)), (ad 14, .inl (eI X, 100, .inl v_undos)), (ad 15, .inl (eI X, 103, .inl v_undoAside)), (ad 16, .inl (eI X, 4, .inl v_formula)), (ad 17, .inl (eZ X, 2, .inl v_isKept)), (ad 18, .inl (eI X, 4, .inl v_lanes)), (ad 19, .inl (eI X, 4, .inl v_lengths)), (ad 20, .inl (eI X, 160, .inl v_items))]) C hW 9 rfl g14 e14 rfl dX8_isEvaluated_14 (fun H L hW => ?_)
  refine r_aload_n C hl 0 dX8_isEvaluated_15 rfl rfl ?_
  refine r_iload_n C hl 1 dX8_isEvaluated_16 rfl rfl ?_
  obtain ⟨r17, c17_waits, c17_readsOf, c17_readMany, h17, h⟩ := bd4_some h
  refine r_V (wr := []) (np := 1) C hl (mX8_valueIfTold X ad  v_state v_tape v_taped v_fault v_broken v_brokenAt v_spot v_here v_token v_number v_ends v_letters v_values v_isTold w7 v_readsOf w14 v_heights v_isStarted v_oldValues v_isOldTold v_oldReads v_evaluated v_moved v_isChanged v_undos v_undoMany v_undoAside v_formula v_isKept v_lanes v_lengths v_items v_torn v_isAsideChanged p1 (r17, c17_waits, c17_readsOf, c17_readMany) h17) hW [0, 1, 2, 3, 4, 5, 6, 7, 8, 9, 10, 11, 12, 13, 14, 15, 16, 17, 18, 19, 20] [] rfl rfl rfl rfl (by decide) 0 rfl rfl w_cd_X8_valueIfTold w_ml_X8_162 w_im_X8_valueIfTold w_sel_X8_valueIfTold w_in_HeightSheetModel (by decide +kernel) rfl ⟨Nat.le_of_ble_eq_true rfl, Nat.le_of_ble_eq_true rfl⟩ ⟨Nat.zero_le _, Nat.zero_le _⟩ (Nat.le_of_ble_eq_true rfl) dX8_isEvaluated_17 (fun rv w1 H L hp hW => ?_) rfl
  obtain ⟨rfl, rfl⟩ := hp
  replace hW : Wd X k A [(ad 0, .inr (8, [.ref (ad 1), .ref (ad 2), .int v_taped, .int v_fault, .int v_broken, .int v_brokenAt, .int v_spot, .int v_here, .int v_token, .int v_number, .ref (ad 3), .ref (ad 4), .ref (ad 5), .ref (ad 6), .ref (ad 7), .ref (ad 8), .ref (ad 9), .ref (ad 10), .int v_isStarted, .ref (ad 11), .ref (ad 12), .ref (ad 13), .int v_evaluated, .int v_moved, .int v_isChanged, .ref (ad 14), .int v_undoMany, .ref (ad 15), .ref (ad 16), .ref (ad 17), .ref (ad 18), .ref (ad 19), .ref (ad 20), .int v_torn, .int v_isAsideChanged])), (ad 1, .inl (eI X, 720, .inl v_state)), (ad 2, .inl (eI X, 320, .inl v_tape)), (ad 3, .inl (eI X, 9, .inl v_ends)), (ad 4, .inl (eI X, 27, .inl v_letters)), (ad 5, .inl (eI X, 30, .inl v_values)), (ad 6, .inl (eZ X, 30, .inl v_isTold)), (ad 7, .inl (eI X, 30, .inl c17_waits)), (ad 8, .inl (eI X, 900, .inl c17_readsOf)), (ad 9, .inl (eI X, 30, .inl c17_readMany)), (ad 10, .inl (eI X, 30, .inl v_heights)), (ad 11, .inl (eI X, 30, .inl v_oldValues)), (ad 12, .inl (eZ X, 30, .inl v_isOldTold)), (ad 13, .inl (eI X, 30, .inl v_oldReads)), (ad 14, .inl (eI X, 100, .inl v_undos)), (ad 15, .inl (eI X, 103, .inl v_undoAside)), (ad 16, .inl (eI X, 4, .inl v_formula)), (ad 17, .inl (eZ X, 2, .inl v_isKept)), (ad 18, .inl (eI X, 4, .inl v_lanes)), (ad 19, .inl (eI X, 4, .inl v_lengths)), (ad 20, .inl (eI X, 160, .inl v_items))] H L := hW.sub [0, 1, 2, 3, 4, 5, 6, 7, 8, 9, 10, 11, 12, 13, 14, 15, 16, 17, 18, 19, 20] rfl rfl
  show Wx X k 0 0 H L 20 ls [.int r17]
  refine r_istore_n (lv' := [(2, .int r17), (0, .ref (ad 0)), (1, .int p1)]) C hl dX8_isEvaluated_20 rfl (by decide) rfl (fun ls hl => ?_)
  refine r_aload_n C hl 1 dX8_isEvaluated_21 rfl rfl ?_
  refine r_get C hW 0 rfl rfl iwX8 14 (by decide) w_fl_X8_29 rfl dX8_isEvaluated_22 ?_
  refine r_iload_n C hl 2 dX8_isEvaluated_25 rfl rfl ?_
  obtain ⟨x26, e26, g26, h⟩ := rd_some h
  refine r_iald C hW 7 rfl g26 e26 dX8_isEvaluated_26 ?_
  refine r_bipush (v := -4) C dX8_isEvaluated_27 (by decide) ?_
  refine r_icmp_ne (tgt := 46) C dX8_isEvaluated_29 (by decide) (fun c29 => ?_) (fun c29 => ?_)
  · replace h := iF c29 h
    exact K46 v_values v_isTold c17_waits c17_readsOf c17_readMany H L ls hW (lv_sub hl [1, 2] rfl) h
  · replace h := iT c29 h
    refine r_aload_n C hl 1 dX8_isEvaluated_32 rfl rfl ?_
    refine r_get C hW 0 rfl rfl iwX8 12 (by decide) w_fl_X8_22 rfl dX8_isEvaluated_33 ?_
    refine r_iload_n C hl 2 dX8_isEvaluated_36 rfl rfl ?_
    refine r_iload_n C hl 0 dX8_isEvaluated_37 rfl rfl ?_
    obtain ⟨w38, e38, g38, h⟩ := wr_some h
    refine r_iast (ws' := [(ad 0, .inr (8, [.ref (ad 1), .ref (ad 2), .int v_taped, .int v_fault, .int v_broken, .int v_brokenAt, .int v_spot, .int v_here, .int v_token, .int v_number, .ref (ad 3), .ref (ad 4), .ref (ad 5), .ref (ad 6), .ref (ad 7), .ref (ad 8), .ref (ad 9), .ref (ad 10), .int v_isStarted, .ref (ad 11), .ref (ad 12), .ref (ad 13), .int v_evaluated, .int v_moved, .int v_isChanged, .ref (ad 14), .int v_undoMany, .ref (ad 15), .ref (ad 16), .ref (ad 17), .ref (ad 18), .ref (ad 19), .ref (ad 20), .int v_torn, .int v_isAsideChanged])), (ad 1, .inl (eI X, 720, .inl v_state)), (ad 2, .inl (eI X, 320, .inl v_tape)), (ad 3, .inl (eI X, 9, .inl v_ends)), (ad 4, .inl (eI X, 27, .inl v_letters)), (ad 5, .inl (eI X, 30, .inl w38)), (ad 6, .inl (eZ X, 30, .inl v_isTold)), (ad 7, .inl (eI X, 30, .inl c17_waits)), (ad 8, .inl (eI X, 900, .inl c17_readsOf)), (ad 9, .inl (eI X, 30, .inl c17_readMany)), (ad 10, .inl (eI X, 30, .inl v_heights)), (ad 11, .inl (eI X, 30, .inl v_oldValues)), (ad 12, .inl (eZ X, 30, .inl v_isOldTold)), (ad 13, .inl (eI X, 30, .inl v_oldReads)), (ad 14, .inl (eI X, 100, .inl v_undos)), (ad 15, .inl (eI X, 103, .inl v_undoAside)), (ad 16, .inl (eI X, 4, .inl v_formula)), (ad 17, .inl (eZ X, 2, .inl v_isKept)), (ad 18, .inl (eI X, 4, .inl v_lanes)), (ad 19, .inl (eI X, 4, .inl v_lengths)), (ad 20, .inl (eI X, 160, .inl v_items))]) C hW 5 rfl g38 e38 rfl dX8_isEvaluated_38 (fun H L hW => ?_)
    refine r_aload_n C hl 1 dX8_isEvaluated_39 rfl rfl ?_
    refine r_get C hW 0 rfl rfl iwX8 13 (by decide) w_fl_X8_25 rfl dX8_isEvaluated_40 ?_
    refine r_iload_n C hl 2 dX8_isEvaluated_43 rfl rfl ?_
    refine r_iconst (v := 1) C dX8_isEvaluated_44 (by decide) ?_
    obtain ⟨w45, e45, g45, h⟩ := wr_some h
    refine r_zast (ws' := [(ad 0, .inr (8, [.ref (ad 1), .ref (ad 2), .int v_taped, .int v_fault, .int v_broken, .int v_brokenAt, .int v_spot, .int v_here, .int v_token, .int v_number, .ref (ad 3), .ref (ad 4), .ref (ad 5), .ref (ad 6), .ref (ad 7), .ref (ad 8), .ref (ad 9), .ref (ad 10), .int v_isStarted, .ref (ad 11), .ref (ad 12), .ref (ad 13), .int v_evaluated, .int v_moved, .int v_isChanged, .ref (ad 14), .int v_undoMany, .ref (ad 15), .ref (ad 16), .ref (ad 17), .ref (ad 18), .ref (ad 19), .ref (ad 20), .int v_torn, .int v_isAsideChanged])), (ad 1, .inl (eI X, 720, .inl v_state)), (ad 2, .inl (eI X, 320, .inl v_tape)), (ad 3, .inl (eI X, 9, .inl v_ends)), (ad 4, .inl (eI X, 27, .inl v_letters)), (ad 5, .inl (eI X, 30, .inl w38)), (ad 6, .inl (eZ X, 30, .inl w45)), (ad 7, .inl (eI X, 30, .inl c17_waits)), (ad 8, .inl (eI X, 900, .inl c17_readsOf)), (ad 9, .inl (eI X, 30, .inl c17_readMany)), (ad 10, .inl (eI X, 30, .inl v_heights)), (ad 11, .inl (eI X, 30, .inl v_oldValues)), (ad 12, .inl (eZ X, 30, .inl v_isOldTold)), (ad 13, .inl (eI X, 30, .inl v_oldReads)), (ad 14, .inl (eI X, 100, .inl v_undos)), (ad 15, .inl (eI X, 103, .inl v_undoAside)), (ad 16, .inl (eI X, 4, .inl v_formula)), (ad 17, .inl (eZ X, 2, .inl v_isKept)), (ad 18, .inl (eI X, 4, .inl v_lanes)), (ad 19, .inl (eI X, 4, .inl v_lengths)), (ad 20, .inl (eI X, 160, .inl v_items))]) C hW 6 rfl g45 e45 rfl dX8_isEvaluated_45 (fun H L hW => ?_)
    exact K46 w38 w45 c17_waits c17_readsOf c17_readMany H L ls hW (lv_sub hl [1, 2] rfl) h
def fX8_heightOf_j49 (v_readsOf : (Nat → Int32)) (v_readMany : (Nat → Int32)) (p1 : Int32) (self4 : Int32 → Int32 → Option ((Nat → Int32))) (v_heights : (Nat → Int32)) (l3 : Int32) (s0 : Int32) : Option ((Nat → Int32)) :=
  self4 s0 (l3 + (1 : Int32))
def fX8_heightOf_b4 (v_readsOf : (Nat → Int32)) (v_readMany : (Nat → Int32)) (p1 : Int32)  (v_heights : (Nat → Int32)) (self4 : Int32 → Int32 → Option ((Nat → Int32))) (l2 : Int32) (l3 : Int32) : Option ((Nat → Int32)) :=
  rd v_readMany 30 p1 fun x10 =>
  if x10 ≤ l3 then
    wr v_heights 30 p1 (l2 + (1 : Int32)) fun w64 =>
    some w64
  else
    rd v_readsOf 900 (((30 : Int32) * p1) + l3) fun x24 =>
    rd v_heights 30 x24 fun x33 =>
    if x33 ≤ l2 then
      fX8_heightOf_j49 v_readsOf v_readMany p1 self4 v_heights l3 l2
    else
      rd v_heights 30 x24 fun x44 =>
      fX8_heightOf_j49 v_readsOf v_readMany p1 self4 v_heights l3 x44
def fX8_heightOf (v_readsOf : (Nat → Int32)) (v_readMany : (Nat → Int32)) (v_heights : (Nat → Int32)) (p1 : Int32) : Option ((Nat → Int32)) :=
  lq2 (fX8_heightOf_b4 v_readsOf v_readMany p1  v_heights) fu (-1 : Int32) (0 : Int32)
set_option maxRecDepth 100000 in
set_option maxHeartbeats 8000000 in
theorem mX8_heightOf (X : Ev) (ad : Nat → Nat) (v_state : (Nat → Int32)) (v_tape : (Nat → Int32)) (v_taped : Int32) (v_fault : Int32) (v_broken : Int32) (v_brokenAt : Int32) (v_spot : Int32) (v_here : Int32) (v_token : Int32) (v_number : Int32) (v_ends : (Nat → Int32)) (v_letters : (Nat → Int32)) (v_values : (Nat → Int32)) (v_isTold : (Nat → Int32)) (v_waits : (Nat → Int32)) (v_readsOf : (Nat → Int32)) (v_readMany : (Nat → Int32)) (v_heights : (Nat → Int32)) (v_isStarted : Int32) (v_oldValues : (Nat → Int32)) (v_isOldTold : (Nat → Int32)) (v_oldReads : (Nat → Int32)) (v_evaluated : Int32) (v_moved : Int32) (v_isChanged : Int32) (v_undos : (Nat → Int32)) (v_undoMany : Int32) (v_undoAside : (Nat → Int32)) (v_formula : (Nat → Int32)) (v_isKept : (Nat → Int32)) (v_lanes : (Nat → Int32)) (v_lengths : (Nat → Int32)) (v_items : (Nat → Int32)) (v_torn : Int32) (v_isAsideChanged : Int32) (p1 : Int32) (o : (Nat → Int32)) (h : fX8_heightOf v_readsOf v_readMany v_heights p1 = some o) : Ctr X yX8_heightOf cX8_heightOf 5 none 0 0 0 0 [.ref (ad 0), .int p1] [(ad 0, .inr (8, [.ref (ad 1), .ref (ad 2), .int v_taped, .int v_fault, .int v_broken, .int v_brokenAt, .int v_spot, .int v_here, .int v_token, .int v_number, .ref (ad 3), .ref (ad 4), .ref (ad 5), .ref (ad 6), .ref (ad 7), .ref (ad 8), .ref (ad 9), .ref (ad 10), .int v_isStarted, .ref (ad 11), .ref (ad 12), .ref (ad 13), .int v_evaluated, .int v_moved, .int v_isChanged, .ref (ad 14), .int v_undoMany, .ref (ad 15), .ref (ad 16), .ref (ad 17), .ref (ad 18), .ref (ad 19), .ref (ad 20), .int v_torn, .int v_isAsideChanged])), (ad 1, .inl (eI X, 720, .inl v_state)), (ad 2, .inl (eI X, 320, .inl v_tape)), (ad 3, .inl (eI X, 9, .inl v_ends)), (ad 4, .inl (eI X, 27, .inl v_letters)), (ad 5, .inl (eI X, 30, .inl v_values)), (ad 6, .inl (eZ X, 30, .inl v_isTold)), (ad 7, .inl (eI X, 30, .inl v_waits)), (ad 8, .inl (eI X, 900, .inl v_readsOf)), (ad 9, .inl (eI X, 30, .inl v_readMany)), (ad 10, .inl (eI X, 30, .inl v_heights)), (ad 11, .inl (eI X, 30, .inl v_oldValues)), (ad 12, .inl (eZ X, 30, .inl v_isOldTold)), (ad 13, .inl (eI X, 30, .inl v_oldReads)), (ad 14, .inl (eI X, 100, .inl v_undos)), (ad 15, .inl (eI X, 103, .inl v_undoAside)), (ad 16, .inl (eI X, 4, .inl v_formula)), (ad 17, .inl (eZ X, 2, .inl v_isKept)), (ad 18, .inl (eI X, 4, .inl v_lanes)), (ad 19, .inl (eI X, 4, .inl v_lengths)), (ad 20, .inl (eI X, 160, .inl v_items))] (De none [(ad 0, .inr (8, [.ref (ad 1), .ref (ad 2), .int v_taped, .int v_fault, .int v_broken, .int v_brokenAt, .int v_spot, .int v_here, .int v_token, .int v_number, .ref (ad 3), .ref (ad 4), .ref (ad 5), .ref (ad 6), .ref (ad 7), .ref (ad 8), .ref (ad 9), .ref (ad 10), .int v_isStarted, .ref (ad 11), .ref (ad 12), .ref (ad 13), .int v_evaluated, .int v_moved, .int v_isChanged, .ref (ad 14), .int v_undoMany, .ref (ad 15), .ref (ad 16), .ref (ad 17), .ref (ad 18), .ref (ad 19), .ref (ad 20), .int v_torn, .int v_isAsideChanged])), (ad 1, .inl (eI X, 720, .inl v_state)), (ad 2, .inl (eI X, 320, .inl v_tape)), (ad 3, .inl (eI X, 9, .inl v_ends)), (ad 4, .inl (eI X, 27, .inl v_letters)), (ad 5, .inl (eI X, 30, .inl v_values)), (ad 6, .inl (eZ X, 30, .inl v_isTold)), (ad 7, .inl (eI X, 30, .inl v_waits)), (ad 8, .inl (eI X, 900, .inl v_readsOf)), (ad 9, .inl (eI X, 30, .inl v_readMany)), (ad 10, .inl (eI X, 30, .inl o)), (ad 11, .inl (eI X, 30, .inl v_oldValues)), (ad 12, .inl (eZ X, 30, .inl v_isOldTold)), (ad 13, .inl (eI X, 30, .inl v_oldReads)), (ad 14, .inl (eI X, 100, .inl v_undos)), (ad 15, .inl (eI X, 103, .inl v_undoAside)), (ad 16, .inl (eI X, 4, .inl v_formula)), (ad 17, .inl (eZ X, 2, .inl v_isKept)), (ad 18, .inl (eI X, 4, .inl v_lanes)), (ad 19, .inl (eI X, 4, .inl v_lengths)), (ad 20, .inl (eI X, 160, .inl v_items))]) := by
  refine Ctr.start (by decide) (Nat.le_of_ble_eq_true rfl) (fun k A ls C hq hin hW hl => ?_)
  replace C : Cx X k cX8_heightOf 5 none RX8 A 0 0 0 0 := C
  replace hl : lv_has ls 5 [(0, .ref (ad 0)), (1, .int p1)] := hl
  suffices hh : ∀ (H : Heap) (L : List Loc), Wd X k A [(ad 0, .inr (8, [.ref (ad 1), .ref (ad 2), .int v_taped, .int v_fault, .int v_broken, .int v_brokenAt, .int v_spot, .int v_here, .int v_token, .int v_number, .ref (ad 3), .ref (ad 4), .ref (ad 5), .ref (ad 6), .ref (ad 7), .ref (ad 8), .ref (ad 9), .ref (ad 10), .int v_isStarted, .ref (ad 11), .ref (ad 12), .ref (ad 13), .int v_evaluated, .int v_moved, .int v_isChanged, .ref (ad 14), .int v_undoMany, .ref (ad 15), .ref (ad 16), .ref (ad 17), .ref (ad 18), .ref (ad 19), .ref (ad 20), .int v_torn, .int v_isAsideChanged])), (ad 1, .inl (eI X, 720, .inl v_state)), (ad 2, .inl (eI X, 320, .inl v_tape)), (ad 3, .inl (eI X, 9, .inl v_ends)), (ad 4, .inl (eI X, 27, .inl v_letters)), (ad 5, .inl (eI X, 30, .inl v_values)), (ad 6, .inl (eZ X, 30, .inl v_isTold)), (ad 7, .inl (eI X, 30, .inl v_waits)), (ad 8, .inl (eI X, 900, .inl v_readsOf)), (ad 9, .inl (eI X, 30, .inl v_readMany)), (ad 10, .inl (eI X, 30, .inl v_heights)), (ad 11, .inl (eI X, 30, .inl v_oldValues)), (ad 12, .inl (eZ X, 30, .inl v_isOldTold)), (ad 13, .inl (eI X, 30, .inl v_oldReads)), (ad 14, .inl (eI X, 100, .inl v_undos)), (ad 15, .inl (eI X, 103, .inl v_undoAside)), (ad 16, .inl (eI X, 4, .inl v_formula)), (ad 17, .inl (eZ X, 2, .inl v_isKept)), (ad 18, .inl (eI X, 4, .inl v_lanes)), (ad 19, .inl (eI X, 4, .inl v_lengths)), (ad 20, .inl (eI X, 160, .inl v_items))] H L → Wx X k 0 0 H L 0 ls [] from hh _ _ hW
  clear hW
  intro H L hW
  have K4 : ∀ (v_heights : (Nat → Int32)), ∀ (n4 : Nat), ∀ (l2 : Int32), ∀ (l3 : Int32), ∀ (H : Heap) (L : List Loc) (ls : Array Slot), Wd X k A [(ad 0, .inr (8, [.ref (ad 1), .ref (ad 2), .int v_taped, .int v_fault, .int v_broken, .int v_brokenAt, .int v_spot, .int v_here, .int v_token, .int v_number, .ref (ad 3), .ref (ad 4), .ref (ad 5), .ref (ad 6), .ref (ad 7), .ref (ad 8), .ref (ad 9), .ref (ad 10), .int v_isStarted, .ref (ad 11), .ref (ad 12), .ref (ad 13), .int v_evaluated, .int v_moved, .int v_isChanged, .ref (ad 14), .int v_undoMany, .ref (ad 15), .ref (ad 16), .ref (ad 17), .ref (ad 18), .ref (ad 19), .ref (ad 20), .int v_torn, .int v_isAsideChanged])), (ad 1, .inl (eI X, 720, .inl v_state)), (ad 2, .inl (eI X, 320, .inl v_tape)), (ad 3, .inl (eI X, 9, .inl v_ends)), (ad 4, .inl (eI X, 27, .inl v_letters)), (ad 5, .inl (eI X, 30, .inl v_values)), (ad 6, .inl (eZ X, 30, .inl v_isTold)), (ad 7, .inl (eI X, 30, .inl v_waits)), (ad 8, .inl (eI X, 900, .inl v_readsOf)), (ad 9, .inl (eI X, 30, .inl v_readMany)), (ad 10, .inl (eI X, 30, .inl v_heights)), (ad 11, .inl (eI X, 30, .inl v_oldValues)), (ad 12, .inl (eZ X, 30, .inl v_isOldTold)), (ad 13, .inl (eI X, 30, .inl v_oldReads)), (ad 14, .inl (eI X, 100, .inl v_undos)), (ad 15, .inl (eI X, 103, .inl v_undoAside)), (ad 16, .inl (eI X, 4, .inl v_formula)), (ad 17, .inl (eZ X, 2, .inl v_isKept)), (ad 18, .inl (eI X, 4, .inl v_lanes)), (ad 19, .inl (eI X, 4, .inl v_lengths)), (ad 20, .inl (eI X, 160, .inl v_items))] H L → lv_has ls 5 [(0, .ref (ad 0)), (1, .int p1), (2, .int l2), (3, .int l3)] → lq2 (fX8_heightOf_b4 v_readsOf v_readMany p1  v_heights) n4 l2 l3 = some o → Wx X k 0 0 H L 4 ls [] := by
    intro v_heights
    intro n4
    induction n4 with
    | zero => intro l2 l3 H L ls hW hl h; exact lq2_0 h
    | succ n4 ih4 =>
      have K49 : ∀ (l3 : Int32), ∀ (s0 : Int32), ∀ (H : Heap) (L : List Loc) (ls : Array Slot), Wd X k A [(ad 0, .inr (8, [.ref (ad 1), .ref (ad 2), .int v_taped, .int v_fault, .int v_broken, .int v_brokenAt, .int v_spot, .int v_here, .int v_token, .int v_number, .ref (ad 3), .ref (ad 4), .ref (ad 5), .ref (ad 6), .ref (ad 7), .ref (ad 8), .ref (ad 9), .ref (ad 10), .int v_isStarted, .ref (ad 11), .ref (ad 12), .ref (ad 13), .int v_evaluated, .int v_moved, .int v_isChanged, .ref (ad 14), .int v_undoMany, .ref (ad 15), .ref (ad 16), .ref (ad 17), .ref (ad 18), .ref (ad 19), .ref (ad 20), .int v_torn, .int v_isAsideChanged])), (ad 1, .inl (eI X, 720, .inl v_state)), (ad 2, .inl (eI X, 320, .inl v_tape)), (ad 3, .inl (eI X, 9, .inl v_ends)), (ad 4, .inl (eI X, 27, .inl v_letters)), (ad 5, .inl (eI X, 30, .inl v_values)), (ad 6, .inl (eZ X, 30, .inl v_isTold)), (ad 7, .inl (eI X, 30, .inl v_waits)), (ad 8, .inl (eI X, 900, .inl v_readsOf)), (ad 9, .inl (eI X, 30, .inl v_readMany)), (ad 10, .inl (eI X, 30, .inl v_heights)), (ad 11, .inl (eI X, 30, .inl v_oldValues)), (ad 12, .inl (eZ X, 30, .inl v_isOldTold)), (ad 13, .inl (eI X, 30, .inl v_oldReads)), (ad 14, .inl (eI X, 100, .inl v_undos)), (ad 15, .inl (eI X, 103, .inl v_undoAside)), (ad 16, .inl (eI X, 4, .inl v_formula)), (ad 17, .inl (eZ X, 2, .inl v_isKept)), (ad 18, .inl (eI X, 4, .inl v_lanes)), (ad 19, .inl (eI X, 4, .inl v_lengths)), (ad 20, .inl (eI X, 160, .inl v_items))] H L → lv_has ls 5 [(0, .ref (ad 0)), (1, .int p1), (3, .int l3)] → fX8_heightOf_j49 v_readsOf v_readMany p1 (lq2 (fX8_heightOf_b4 v_readsOf v_readMany p1  v_heights) n4) v_heights l3 s0 = some o → Wx X k 0 0 H L 49 ls [.int s0] := by
        intro l3 s0 H L ls hW hl h
        unfold fX8_heightOf_j49 at h
        refine r_istore_n (lv' := [(2, .int s0), (0, .ref (ad 0)), (1, .int p1), (3, .int l3)]) C hl dX8_heightOf_49 rfl (by decide) rfl (fun ls hl => ?_)
        refine r_iinc (j := 3) (v := l3 + (1 : Int32)) (lv' := [(3, .int (l3 + (1 : Int32))), (2, .int s0), (0, .ref (ad 0)), (1, .int p1)]) C hl dX8_heightOf_50 rfl rfl (by decide) rfl (fun ls hl => ?_)
        refine r_goto (tgt := 4) C dX8_heightOf_53 (by decide) ?_
        exact ih4 s0 (l3 + (1 : Int32)) H L ls hW (lv_sub hl [2, 3, 1, 0] rfl) h
      intro l2 l3 H L ls hW hl h
      rw [lq2_s] at h
      unfold fX8_heightOf_b4 at h
      refine r_iload_n C hl 3 dX8_heightOf_4 rfl rfl ?_
      refine r_aload_n C hl 0 dX8_heightOf_5 rfl rfl ?_
      refine r_get C hW 0 rfl rfl iwX8 16 (by decide) w_fl_X8_35 rfl dX8_heightOf_6 ?_
      refine r_iload_n C hl 1 dX8_heightOf_9 rfl rfl ?_
      obtain ⟨x10, e10, g10, h⟩ := rd_some h
      refine r_iald C hW 9 rfl g10 e10 dX8_heightOf_10 ?_
      refine r_icmp_ge (tgt := 56) C dX8_heightOf_11 (by decide) (fun c11 => ?_) (fun c11 => ?_)
      · replace h := iT c11 h
        refine r_aload_n C hl 0 dX8_heightOf_56 rfl rfl ?_
        refine r_get C hW 0 rfl rfl iwX8 17 (by decide) w_fl_X8_38 rfl dX8_heightOf_57 ?_
        refine r_iload_n C hl 1 dX8_heightOf_60 rfl rfl ?_
        refine r_iload_n C hl 2 dX8_heightOf_61 rfl rfl ?_
        refine r_iconst (v := 1) C dX8_heightOf_62 (by decide) ?_
        refine r_iadd C dX8_heightOf_63 ?_
        obtain ⟨w64, e64, g64, h⟩ := wr_some h
        refine r_iast (ws' := [(ad 0, .inr (8, [.ref (ad 1), .ref (ad 2), .int v_taped, .int v_fault, .int v_broken, .int v_brokenAt, .int v_spot, .int v_here, .int v_token, .int v_number, .ref (ad 3), .ref (ad 4), .ref (ad 5), .ref (ad 6), .ref (ad 7), .ref (ad 8), .ref (ad 9), .ref (ad 10), .int v_isStarted, .ref (ad 11), .ref (ad 12), .ref (ad 13), .int v_evaluated, .int v_moved, .int v_isChanged, .ref (ad 14), .int v_undoMany, .ref (ad 15), .ref (ad 16), .ref (ad 17), .ref (ad 18), .ref (ad 19), .ref (ad 20), .int v_torn, .int v_isAsideChanged])), (ad 1, .inl (eI X, 720, .inl v_state)), (ad 2, .inl (eI X, 320, .inl v_tape)), (ad 3, .inl (eI X, 9, .inl v_ends)), (ad 4, .inl (eI X, 27, .inl v_letters)), (ad 5, .inl (eI X, 30, .inl v_values)), (ad 6, .inl (eZ X, 30, .inl v_isTold)), (ad 7, .inl (eI X, 30, .inl v_waits)), (ad 8, .inl (eI X, 900, .inl v_readsOf)), (ad 9, .inl (eI X, 30, .inl v_readMany)), (ad 10, .inl (eI X, 30, .inl w64)), (ad 11, .inl (eI X, 30, .inl v_oldValues)), (ad 12, .inl (eZ X, 30, .inl v_isOldTold)), (ad 13, .inl (eI X, 30, .inl v_oldReads)), (ad 14, .inl (eI X, 100, .inl v_undos)), (ad 15, .inl (eI X, 103, .inl v_undoAside)), (ad 16, .inl (eI X, 4, .inl v_formula)), (ad 17, .inl (eZ X, 2, .inl v_isKept)), (ad 18, .inl (eI X, 4, .inl v_lanes)), (ad 19, .inl (eI X, 4, .inl v_lengths)), (ad 20, .inl (eI X, 160, .inl v_items))]) C hW 10 rfl g64 e64 rfl dX8_heightOf_64 (fun H L hW => ?_)
        exact r_vret C hq hW (by obtain rfl := Option.some.inj h; exact ⟨rfl, rfl⟩) dX8_heightOf_65
      · replace h := iF c11 h
        refine r_aload_n C hl 0 dX8_heightOf_14 rfl rfl ?_
        refine r_get C hW 0 rfl rfl iwX8 15 (by decide) w_fl_X8_32 rfl dX8_heightOf_15 ?_
        refine r_bipush (v := 30) C dX8_heightOf_18 (by decide) ?_
        refine r_iload_n C hl 1 dX8_heightOf_20 rfl rfl ?_
        refine r_imul C dX8_heightOf_21 ?_
        refine r_iload_n C hl 3 dX8_heightOf_22 rfl rfl ?_
        refine r_iadd C dX8_heightOf_23 ?_
        obtain ⟨x24, e24, g24, h⟩ := rd_some h
        refine r_iald C hW 8 rfl g24 e24 dX8_heightOf_24 ?_
        refine r_istore (lv' := [(4, .int x24), (0, .ref (ad 0)), (1, .int p1), (2, .int l2), (3, .int l3)]) C hl dX8_heightOf_25 (by decide) rfl (fun ls hl => ?_)
        refine r_aload_n C hl 1 dX8_heightOf_27 rfl rfl ?_
        refine r_get C hW 0 rfl rfl iwX8 17 (by decide) w_fl_X8_38 rfl dX8_heightOf_28 ?_
        refine r_iload C hl 0 dX8_heightOf_31 rfl ?_
        obtain ⟨x33, e33, g33, h⟩ := rd_some h
        refine r_iald C hW 10 rfl g33 e33 dX8_heightOf_33 ?_
        refine r_iload_n C hl 3 dX8_heightOf_34 rfl rfl ?_
        refine r_icmp_le (tgt := 48) C dX8_heightOf_35 (by decide) (fun c35 => ?_) (fun c35 => ?_)
        · replace h := iT c35 h
          refine r_iload_n C hl 3 dX8_heightOf_48 rfl rfl ?_
          exact K49 l3 l2 H L ls hW (lv_sub hl [1, 2, 4] rfl) h
        · replace h := iF c35 h
          refine r_aload_n C hl 1 dX8_heightOf_38 rfl rfl ?_
          refine r_get C hW 0 rfl rfl iwX8 17 (by decide) w_fl_X8_38 rfl dX8_heightOf_39 ?_
          refine r_iload C hl 0 dX8_heightOf_42 rfl ?_
          obtain ⟨x44, e44, g44, h⟩ := rd_some h
          refine r_iald C hW 10 rfl g44 e44 dX8_heightOf_44 ?_
          refine r_goto (tgt := 49) C dX8_heightOf_45 (by decide) ?_
          exact K49 l3 x44 H L ls hW (lv_sub hl [1, 2, 4] rfl) h
  unfold fX8_heightOf at h
  refine r_iconst (v := -1) C dX8_heightOf_0 (by decide) ?_
  refine r_istore_n (lv' := [(2, .int (-1 : Int32)), (0, .ref (ad 0)), (1, .int p1)]) C hl dX8_heightOf_1 rfl (by decide) rfl (fun ls hl => ?_)
  refine r_iconst (v := 0) C dX8_heightOf_2 (by decide) ?_
  refine r_istore_n (lv' := [(3, .int (0 : Int32)), (2, .int (-1 : Int32)), (0, .ref (ad 0)), (1, .int p1)]) C hl dX8_heightOf_3 rfl (by decide) rfl (fun ls hl => ?_)
  exact K4 v_heights fu (-1 : Int32) (0 : Int32) H L ls hW (lv_sub hl [2, 3, 1, 0] rfl) h
def fX8_settles_j76 (v_state : (Nat → Int32)) (self38 : (Nat → Int32) → (Nat → Int32) → (Nat → Int32) → (Nat → Int32) → (Nat → Int32) → (Nat → Int32) → Int32 → Option ((Nat → Int32) × (Nat → Int32) × (Nat → Int32) × (Nat → Int32) × (Nat → Int32) × (Nat → Int32))) (self46 : (Nat → Int32) → (Nat → Int32) → (Nat → Int32) → (Nat → Int32) → (Nat → Int32) → (Nat → Int32) → Int32 → Int32 → Option ((Nat → Int32) × (Nat → Int32) × (Nat → Int32) × (Nat → Int32) × (Nat → Int32) × (Nat → Int32))) (v_values : (Nat → Int32)) (v_isTold : (Nat → Int32)) (v_waits : (Nat → Int32)) (v_readsOf : (Nat → Int32)) (v_readMany : (Nat → Int32)) (v_heights : (Nat → Int32)) (l1 : Int32) (l2 : Int32) : Option ((Nat → Int32) × (Nat → Int32) × (Nat → Int32) × (Nat → Int32) × (Nat → Int32) × (Nat → Int32)) :=
  self46 v_values v_isTold v_waits v_readsOf v_readMany v_heights l1 (l2 + (1 : Int32))
def fX8_settles_b46 (v_state : (Nat → Int32)) (self38 : (Nat → Int32) → (Nat → Int32) → (Nat → Int32) → (Nat → Int32) → (Nat → Int32) → (Nat → Int32) → Int32 → Option ((Nat → Int32) × (Nat → Int32) × (Nat → Int32) × (Nat → Int32) × (Nat → Int32) × (Nat → Int32)))  (self46 : (Nat → Int32) → (Nat → Int32) → (Nat → Int32) → (Nat → Int32) → (Nat → Int32) → (Nat → Int32) → Int32 → Int32 → Option ((Nat → Int32) × (Nat → Int32) × (Nat → Int32) × (Nat → Int32) × (Nat → Int32) × (Nat → Int32))) (v_values : (Nat → Int32)) (v_isTold : (Nat → Int32)) (v_waits : (Nat → Int32)) (v_readsOf : (Nat → Int32)) (v_readMany : (Nat → Int32)) (v_heights : (Nat → Int32)) (l1 : Int32) (l2 : Int32) : Option ((Nat → Int32) × (Nat → Int32) × (Nat → Int32) × (Nat → Int32) × (Nat → Int32) × (Nat → Int32)) :=
  if (30 : Int32) ≤ l2 then
    self38 v_values v_isTold v_waits v_readsOf v_readMany v_heights l1
  else
    rd v_isTold 30 l2 fun x57 =>
    if x57 = (0 : Int32) then
      bd6 (fX8_isEvaluated v_state v_values v_isTold v_waits v_readsOf v_readMany l2) fun r63 c63_values c63_isTold c63_waits c63_readsOf c63_readMany =>
      if r63 = (0 : Int32) then
        fX8_settles_j76 v_state self38 self46 c63_values c63_isTold c63_waits c63_readsOf c63_readMany v_heights l1 l2
      else
        bd1 (fX8_heightOf c63_readsOf c63_readMany v_heights l2) fun c71_heights =>
        fX8_settles_j76 v_state self38 self46 c63_values c63_isTold c63_waits c63_readsOf c63_readMany c71_heights (1 : Int32) l2
    else
      fX8_settles_j76 v_state self38 self46 v_values v_isTold v_waits v_readsOf v_readMany v_heights l1 l2
def fX8_settles_b38 (v_state : (Nat → Int32))   (self38 : (Nat → Int32) → (Nat → Int32) → (Nat → Int32) → (Nat → Int32) → (Nat → Int32) → (Nat → Int32) → Int32 → Option ((Nat → Int32) × (Nat → Int32) × (Nat → Int32) × (Nat → Int32) × (Nat → Int32) × (Nat → Int32))) (v_values : (Nat → Int32)) (v_isTold : (Nat → Int32)) (v_waits : (Nat → Int32)) (v_readsOf : (Nat → Int32)) (v_readMany : (Nat → Int32)) (v_heights : (Nat → Int32)) (l1 : Int32) : Option ((Nat → Int32) × (Nat → Int32) × (Nat → Int32) × (Nat → Int32) × (Nat → Int32) × (Nat → Int32)) :=
  if l1 = (0 : Int32) then
    some (v_values, v_isTold, v_waits, v_readsOf, v_readMany, v_heights)
  else
    lq8 (fX8_settles_b46 v_state self38 ) fu v_values v_isTold v_waits v_readsOf v_readMany v_heights (0 : Int32) (0 : Int32)
def fX8_settles_b2 (v_state : (Nat → Int32))  (v_waits : (Nat → Int32)) (v_readsOf : (Nat → Int32)) (v_readMany : (Nat → Int32)) (self2 : (Nat → Int32) → (Nat → Int32) → (Nat → Int32) → Int32 → Option ((Nat → Int32) × (Nat → Int32) × (Nat → Int32) × (Nat → Int32) × (Nat → Int32) × (Nat → Int32))) (v_values : (Nat → Int32)) (v_isTold : (Nat → Int32)) (v_heights : (Nat → Int32)) (l1 : Int32) : Option ((Nat → Int32) × (Nat → Int32) × (Nat → Int32) × (Nat → Int32) × (Nat → Int32) × (Nat → Int32)) :=
  if (30 : Int32) ≤ l1 then
    lq7 (fX8_settles_b38 v_state  ) fu v_values v_isTold v_waits v_readsOf v_readMany v_heights (1 : Int32)
  else
    wr v_isTold 30 l1 (vp_nar .boolean (0 : Int32)) fun w14 =>
    wr v_values 30 l1 (0 : Int32) fun w21 =>
    wr v_heights 30 l1 (-4 : Int32) fun w29 =>
    self2 w21 w14 w29 (l1 + (1 : Int32))
def fX8_settles (v_state : (Nat → Int32)) (v_values : (Nat → Int32)) (v_isTold : (Nat → Int32)) (v_waits : (Nat → Int32)) (v_readsOf : (Nat → Int32)) (v_readMany : (Nat → Int32)) (v_heights : (Nat → Int32)) : Option ((Nat → Int32) × (Nat → Int32) × (Nat → Int32) × (Nat → Int32) × (Nat → Int32) × (Nat → Int32)) :=
  lq4 (fX8_settles_b2 v_state  v_waits v_readsOf v_readMany) fu v_values v_isTold v_heights (0 : Int32)
set_option maxRecDepth 100000 in
set_option maxHeartbeats 8000000 in
theorem mX8_settles (X : Ev) (ad : Nat → Nat) (v_state : (Nat → Int32)) (v_tape : (Nat → Int32)) (v_taped : Int32) (v_fault : Int32) (v_broken : Int32) (v_brokenAt : Int32) (v_spot : Int32) (v_here : Int32) (v_token : Int32) (v_number : Int32) (v_ends : (Nat → Int32)) (v_letters : (Nat → Int32)) (v_values : (Nat → Int32)) (v_isTold : (Nat → Int32)) (v_waits : (Nat → Int32)) (v_readsOf : (Nat → Int32)) (v_readMany : (Nat → Int32)) (v_heights : (Nat → Int32)) (v_isStarted : Int32) (v_oldValues : (Nat → Int32)) (v_isOldTold : (Nat → Int32)) (v_oldReads : (Nat → Int32)) (v_evaluated : Int32) (v_moved : Int32) (v_isChanged : Int32) (v_undos : (Nat → Int32)) (v_undoMany : Int32) (v_undoAside : (Nat → Int32)) (v_formula : (Nat → Int32)) (v_isKept : (Nat → Int32)) (v_lanes : (Nat → Int32)) (v_lengths : (Nat → Int32)) (v_items : (Nat → Int32)) (v_torn : Int32) (v_isAsideChanged : Int32)  (o : (Nat → Int32) × (Nat → Int32) × (Nat → Int32) × (Nat → Int32) × (Nat → Int32) × (Nat → Int32)) (h : fX8_settles v_state v_values v_isTold v_waits v_readsOf v_readMany v_heights = some o) : Ctr X yX8_settles cX8_settles 3 none 4 94 0 0 [.ref (ad 0)] [(ad 0, .inr (8, [.ref (ad 1), .ref (ad 2), .int v_taped, .int v_fault, .int v_broken, .int v_brokenAt, .int v_spot, .int v_here, .int v_token, .int v_number, .ref (ad 3), .ref (ad 4), .ref (ad 5), .ref (ad 6), .ref (ad 7), .ref (ad 8), .ref (ad 9), .ref (ad 10), .int v_isStarted, .ref (ad 11), .ref (ad 12), .ref (ad 13), .int v_evaluated, .int v_moved, .int v_isChanged, .ref (ad 14), .int v_undoMany, .ref (ad 15), .ref (ad 16), .ref (ad 17), .ref (ad 18), .ref (ad 19), .ref (ad 20), .int v_torn, .int v_isAsideChanged])), (ad 1, .inl (eI X, 720, .inl v_state)), (ad 2, .inl (eI X, 320, .inl v_tape)), (ad 3, .inl (eI X, 9, .inl v_ends)), (ad 4, .inl (eI X, 27, .inl v_letters)), (ad 5, .inl (eI X, 30, .inl v_values)), (ad 6, .inl (eZ X, 30, .inl v_isTold)), (ad 7, .inl (eI X, 30, .inl v_waits)), (ad 8, .inl (eI X, 900, .inl v_readsOf)), (ad 9, .inl (eI X, 30, .inl v_readMany)), (ad 10, .inl (eI X, 30, .inl v_heights)), (ad 11, .inl (eI X, 30, .inl v_oldValues)), (ad 12, .inl (eZ X, 30, .inl v_isOldTold)), (ad 13, .inl (eI X, 30, .inl v_oldReads)), (ad 14, .inl (eI X, 100, .inl v_undos)), (ad 15, .inl (eI X, 103, .inl v_undoAside)), (ad 16, .inl (eI X, 4, .inl v_formula)), (ad 17, .inl (eZ X, 2, .inl v_isKept)), (ad 18, .inl (eI X, 4, .inl v_lanes)), (ad 19, .inl (eI X, 4, .inl v_lengths)), (ad 20, .inl (eI X, 160, .inl v_items))] (De none [(ad 0, .inr (8, [.ref (ad 1), .ref (ad 2), .int v_taped, .int v_fault, .int v_broken, .int v_brokenAt, .int v_spot, .int v_here, .int v_token, .int v_number, .ref (ad 3), .ref (ad 4), .ref (ad 5), .ref (ad 6), .ref (ad 7), .ref (ad 8), .ref (ad 9), .ref (ad 10), .int v_isStarted, .ref (ad 11), .ref (ad 12), .ref (ad 13), .int v_evaluated, .int v_moved, .int v_isChanged, .ref (ad 14), .int v_undoMany, .ref (ad 15), .ref (ad 16), .ref (ad 17), .ref (ad 18), .ref (ad 19), .ref (ad 20), .int v_torn, .int v_isAsideChanged])), (ad 1, .inl (eI X, 720, .inl v_state)), (ad 2, .inl (eI X, 320, .inl v_tape)), (ad 3, .inl (eI X, 9, .inl v_ends)), (ad 4, .inl (eI X, 27, .inl v_letters)), (ad 5, .inl (eI X, 30, .inl (o.1))), (ad 6, .inl (eZ X, 30, .inl (o.2.1))), (ad 7, .inl (eI X, 30, .inl (o.2.2.1))), (ad 8, .inl (eI X, 900, .inl (o.2.2.2.1))), (ad 9, .inl (eI X, 30, .inl (o.2.2.2.2.1))), (ad 10, .inl (eI X, 30, .inl (o.2.2.2.2.2))), (ad 11, .inl (eI X, 30, .inl v_oldValues)), (ad 12, .inl (eZ X, 30, .inl v_isOldTold)), (ad 13, .inl (eI X, 30, .inl v_oldReads)), (ad 14, .inl (eI X, 100, .inl v_undos)), (ad 15, .inl (eI X, 103, .inl v_undoAside)), (ad 16, .inl (eI X, 4, .inl v_formula)), (ad 17, .inl (eZ X, 2, .inl v_isKept)), (ad 18, .inl (eI X, 4, .inl v_lanes)), (ad 19, .inl (eI X, 4, .inl v_lengths)), (ad 20, .inl (eI X, 160, .inl v_items))]) := by
  refine Ctr.start (by decide) (Nat.le_of_ble_eq_true rfl) (fun k A ls C hq hin hW hl => ?_)
  replace C : Cx X k cX8_settles 3 none RX8 A 4 94 0 0 := C
  replace hl : lv_has ls 3 [(0, .ref (ad 0))] := hl
  suffices hh : ∀ (H : Heap) (L : List Loc), Wd X k A [(ad 0, .inr (8, [.ref (ad 1), .ref (ad 2), .int v_taped, .int v_fault, .int v_broken, .int v_brokenAt, .int v_spot, .int v_here, .int v_token, .int v_number, .ref (ad 3), .ref (ad 4), .ref (ad 5), .ref (ad 6), .ref (ad 7), .ref (ad 8), .ref (ad 9), .ref (ad 10), .int v_isStarted, .ref (ad 11), .ref (ad 12), .ref (ad 13), .int v_evaluated, .int v_moved, .int v_isChanged, .ref (ad 14), .int v_undoMany, .ref (ad 15), .ref (ad 16), .ref (ad 17), .ref (ad 18), .ref (ad 19), .ref (ad 20), .int v_torn, .int v_isAsideChanged])), (ad 1, .inl (eI X, 720, .inl v_state)), (ad 2, .inl (eI X, 320, .inl v_tape)), (ad 3, .inl (eI X, 9, .inl v_ends)), (ad 4, .inl (eI X, 27, .inl v_letters)), (ad 5, .inl (eI X, 30, .inl v_values)), (ad 6, .inl (eZ X, 30, .inl v_isTold)), (ad 7, .inl (eI X, 30, .inl v_waits)), (ad 8, .inl (eI X, 900, .inl v_readsOf)), (ad 9, .inl (eI X, 30, .inl v_readMany)), (ad 10, .inl (eI X, 30, .inl v_heights)), (ad 11, .inl (eI X, 30, .inl v_oldValues)), (ad 12, .inl (eZ X, 30, .inl v_isOldTold)), (ad 13, .inl (eI X, 30, .inl v_oldReads)), (ad 14, .inl (eI X, 100, .inl v_undos)), (ad 15, .inl (eI X, 103, .inl v_undoAside)), (ad 16, .inl (eI X, 4, .inl v_formula)), (ad 17, .inl (eZ X, 2, .inl v_isKept)), (ad 18, .inl (eI X, 4, .inl v_lanes)), (ad 19, .inl (eI X, 4, .inl v_lengths)), (ad 20, .inl (eI X, 160, .inl v_items))] H L → Wx X k 0 0 H L 0 ls [] from hh _ _ hW
  clear hW
  intro H L hW
  have K38 : ∀ (n38 : Nat), ∀ (v_values : (Nat → Int32)), ∀ (v_isTold : (Nat → Int32)), ∀ (v_waits : (Nat → Int32)), ∀ (v_readsOf : (Nat → Int32)), ∀ (v_readMany : (Nat → Int32)), ∀ (v_heights : (Nat → Int32)), ∀ (l1 : Int32), ∀ (H : Heap) (L : List Loc) (ls : Array Slot), Wd X k A [(ad 0, .inr (8, [.ref (ad 1), .ref (ad 2), .int v_taped, .int v_fault, .int v_broken, .int v_brokenAt, .int v_spot, .int v_here, .int v_token, .int v_number, .ref (ad 3), .ref (ad 4), .ref (ad 5), .ref (ad 6), .ref (ad 7), .ref (ad 8), .ref (ad 9), .ref (ad 10), .int v_isStarted, .ref (ad 11), .ref (ad 12), .ref (ad 13), .int v_evaluated, .int v_moved, .int v_isChanged, .ref (ad 14), .int v_undoMany, .ref (ad 15), .ref (ad 16), .ref (ad 17), .ref (ad 18), .ref (ad 19), .ref (ad 20), .int v_torn, .int v_isAsideChanged])), (ad 1, .inl (eI X, 720, .inl v_state)), (ad 2, .inl (eI X, 320, .inl v_tape)), (ad 3, .inl (eI X, 9, .inl v_ends)), (ad 4, .inl (eI X, 27, .inl v_letters)), (ad 5, .inl (eI X, 30, .inl v_values)), (ad 6, .inl (eZ X, 30, .inl v_isTold)), (ad 7, .inl (eI X, 30, .inl v_waits)), (ad 8, .inl (eI X, 900, .inl v_readsOf)), (ad 9, .inl (eI X, 30, .inl v_readMany)), (ad 10, .inl (eI X, 30, .inl v_heights)), (ad 11, .inl (eI X, 30, .inl v_oldValues)), (ad 12, .inl (eZ X, 30, .inl v_isOldTold)), (ad 13, .inl (eI X, 30, .inl v_oldReads)), (ad 14, .inl (eI X, 100, .inl v_undos)), (ad 15, .inl (eI X, 103, .inl v_undoAside)), (ad 16, .inl (eI X, 4, .inl v_formula)), (ad 17, .inl (eZ X, 2, .inl v_isKept)), (ad 18, .inl (eI X, 4, .inl v_lanes)), (ad 19, .inl (eI X, 4, .inl v_lengths)), (ad 20, .inl (eI X, 160, .inl v_items))] H L → lv_has ls 3 [(0, .ref (ad 0)), (1, .int l1)] → lq7 (fX8_settles_b38 v_state  ) n38 v_values v_isTold v_waits v_readsOf v_readMany v_heights l1 = some o → Wx X k 0 0 H L 38 ls [] := by
    intro n38
    induction n38 with
    | zero => intro v_values v_isTold v_waits v_readsOf v_readMany v_heights l1 H L ls hW hl h; exact lq7_0 h
    | succ n38 ih38 =>
      have K46 : ∀ (n46 : Nat), ∀ (v_values : (Nat → Int32)), ∀ (v_isTold : (Nat → Int32)), ∀ (v_waits : (Nat → Int32)), ∀ (v_readsOf : (Nat → Int32)), ∀ (v_readMany : (Nat → Int32)), ∀ (v_heights : (Nat → Int32)), ∀ (l1 : Int32), ∀ (l2 : Int32), ∀ (H : Heap) (L : List Loc) (ls : Array Slot), Wd X k A [(ad 0, .inr (8, [.ref (ad 1), .ref (ad 2), .int v_taped, .int v_fault, .int v_broken, .int v_brokenAt, .int v_spot, .int v_here, .int v_token, .int v_number, .ref (ad 3), .ref (ad 4), .ref (ad 5), .ref (ad 6), .ref (ad 7), .ref (ad 8), .ref (ad 9), .ref (ad 10), .int v_isStarted, .ref (ad 11), .ref (ad 12), .ref (ad 13), .int v_evaluated, .int v_moved, .int v_isChanged, .ref (ad 14), .int v_undoMany, .ref (ad 15), .ref (ad 16), .ref (ad 17), .ref (ad 18), .ref (ad 19), .ref (ad 20), .int v_torn, .int v_isAsideChanged])), (ad 1, .inl (eI X, 720, .inl v_state)), (ad 2, .inl (eI X, 320, .inl v_tape)), (ad 3, .inl (eI X, 9, .inl v_ends)), (ad 4, .inl (eI X, 27, .inl v_letters)), (ad 5, .inl (eI X, 30, .inl v_values)), (ad 6, .inl (eZ X, 30, .inl v_isTold)), (ad 7, .inl (eI X, 30, .inl v_waits)), (ad 8, .inl (eI X, 900, .inl v_readsOf)), (ad 9, .inl (eI X, 30, .inl v_readMany)), (ad 10, .inl (eI X, 30, .inl v_heights)), (ad 11, .inl (eI X, 30, .inl v_oldValues)), (ad 12, .inl (eZ X, 30, .inl v_isOldTold)), (ad 13, .inl (eI X, 30, .inl v_oldReads)), (ad 14, .inl (eI X, 100, .inl v_undos)), (ad 15, .inl (eI X, 103, .inl v_undoAside)), (ad 16, .inl (eI X, 4, .inl v_formula)), (ad 17, .inl (eZ X, 2, .inl v_isKept)), (ad 18, .inl (eI X, 4, .inl v_lanes)), (ad 19, .inl (eI X, 4, .inl v_lengths)), (ad 20, .inl (eI X, 160, .inl v_items))] H L → lv_has ls 3 [(0, .ref (ad 0)), (1, .int l1), (2, .int l2)] → lq8 (fX8_settles_b46 v_state (lq7 (fX8_settles_b38 v_state  ) n38) ) n46 v_values v_isTold v_waits v_readsOf v_readMany v_heights l1 l2 = some o → Wx X k 0 0 H L 46 ls [] := by
        intro n46
        induction n46 with
        | zero => intro v_values v_isTold v_waits v_readsOf v_readMany v_heights l1 l2 H L ls hW hl h; exact lq8_0 h
        | succ n46 ih46 =>
          have K76 : ∀ (v_values : (Nat → Int32)), ∀ (v_isTold : (Nat → Int32)), ∀ (v_waits : (Nat → Int32)), ∀ (v_readsOf : (Nat → Int32)), ∀ (v_readMany : (Nat → Int32)), ∀ (v_heights : (Nat → Int32)), ∀ (l1 : Int32), ∀ (l2 : Int32), ∀ (H : Heap) (L : List Loc) (ls : Array Slot), Wd X k A [(ad 0, .inr (8, [.ref (ad 1), .ref (ad 2), .int v_taped, .int v_fault, .int v_broken, .int v_brokenAt, .int v_spot, .int v_here, .int v_token, .int v_number, .ref (ad 3), .ref (ad 4), .ref (ad 5), .ref (ad 6), .ref (ad 7), .ref (ad 8), .ref (ad 9), .ref (ad 10), .int v_isStarted, .ref (ad 11), .ref (ad 12), .ref (ad 13), .int v_evaluated, .int v_moved, .int v_isChanged, .ref (ad 14), .int v_undoMany, .ref (ad 15), .ref (ad 16), .ref (ad 17), .ref (ad 18), .ref (ad 19), .ref (ad 20), .int v_torn, .int v_isAsideChanged])), (ad 1, .inl (eI X, 720, .inl v_state)), (ad 2, .inl (eI X, 320, .inl v_tape)), (ad 3, .inl (eI X, 9, .inl v_ends)), (ad 4, .inl (eI X, 27, .inl v_letters)), (ad 5, .inl (eI X, 30, .inl v_values)), (ad 6, .inl (eZ X, 30, .inl v_isTold)), (ad 7, .inl (eI X, 30, .inl v_waits)), (ad 8, .inl (eI X, 900, .inl v_readsOf)), (ad 9, .inl (eI X, 30, .inl v_readMany)), (ad 10, .inl (eI X, 30, .inl v_heights)), (ad 11, .inl (eI X, 30, .inl v_oldValues)), (ad 12, .inl (eZ X, 30, .inl v_isOldTold)), (ad 13, .inl (eI X, 30, .inl v_oldReads)), (ad 14, .inl (eI X, 100, .inl v_undos)), (ad 15, .inl (eI X, 103, .inl v_undoAside)), (ad 16, .inl (eI X, 4, .inl v_formula)), (ad 17, .inl (eZ X, 2, .inl v_isKept)), (ad 18, .inl (eI X, 4, .inl v_lanes)), (ad 19, .inl (eI X, 4, .inl v_lengths)), (ad 20, .inl (eI X, 160, .inl v_items))] H L → lv_has ls 3 [(0, .ref (ad 0)), (1, .int l1), (2, .int l2)] → fX8_settles_j76 v_state (lq7 (fX8_settles_b38 v_state  ) n38) (lq8 (fX8_settles_b46 v_state (lq7 (fX8_settles_b38 v_state  ) n38) ) n46) v_values v_isTold v_waits v_readsOf v_readMany v_heights l1 l2 = some o → Wx X k 0 0 H L 76 ls [] := by
            intro v_values v_isTold v_waits v_readsOf v_readMany v_heights l1 l2 H L ls hW hl h
            unfold fX8_settles_j76 at h
            refine r_iinc (j := 2) (v := l2 + (1 : Int32)) (lv' := [(2, .int (l2 + (1 : Int32))), (0, .ref (ad 0)), (1, .int l1)]) C hl dX8_settles_76 rfl rfl (by decide) rfl (fun ls hl => ?_)
            refine r_goto (tgt := 46) C dX8_settles_79 (by decide) ?_
            exact ih46 v_values v_isTold v_waits v_readsOf v_readMany v_heights l1 (l2 + (1 : Int32)) H L ls hW (lv_sub hl [1, 2, 0] rfl) h
          intro v_values v_isTold v_waits v_readsOf v_readMany v_heights l1 l2 H L ls hW hl h
          rw [lq8_s] at h
          unfold fX8_settles_b46 at h
          refine r_iload_n C hl 2 dX8_settles_46 rfl rfl ?_
          refine r_bipush (v := 30) C dX8_settles_47 (by decide) ?_
          refine r_icmp_ge (tgt := 82) C dX8_settles_49 (by decide) (fun c49 => ?_) (fun c49 => ?_)
          · replace h := iT c49 h
            refine r_goto (tgt := 38) C dX8_settles_82 (by decide) ?_
            exact ih38 v_values v_isTold v_waits v_readsOf v_readMany v_heights l1 H L ls hW (lv_sub hl [0, 1] rfl) h
          · replace h := iF c49 h
            refine r_aload_n C hl 0 dX8_settles_52 rfl rfl ?_
            refine r_get C hW 0 rfl rfl iwX8 13 (by decide) w_fl_X8_25 rfl dX8_settles_53 ?_
            refine r_iload_n C hl 2 dX8_settles_56 rfl rfl ?_
            obtain ⟨x57, e57, g57, h⟩ := rd_some h
            refine r_zald C hW 6 rfl g57 e57 dX8_settles_57 ?_
            refine r_if_ne (tgt := 76) C dX8_settles_58 (by decide) (fun c58 => ?_) (fun c58 => ?_)
            · replace h := iF c58 h
              exact K76 v_values v_isTold v_waits v_readsOf v_readMany v_heights l1 l2 H L ls hW hl h
            · replace h := iT c58 h
              refine r_aload_n C hl 0 dX8_settles_61 rfl rfl ?_
              refine r_iload_n C hl 2 dX8_settles_62 rfl rfl ?_
              obtain ⟨r63, c63_values, c63_isTold, c63_waits, c63_readsOf, c63_readMany, h63, h⟩ := bd6_some h
              refine r_V (wr := []) (np := 1) C hl (mX8_isEvaluated X ad  v_state v_tape v_taped v_fault v_broken v_brokenAt v_spot v_here v_token v_number v_ends v_letters v_values v_isTold v_waits v_readsOf v_readMany v_heights v_isStarted v_oldValues v_isOldTold v_oldReads v_evaluated v_moved v_isChanged v_undos v_undoMany v_undoAside v_formula v_isKept v_lanes v_lengths v_items v_torn v_isAsideChanged l2 (r63, c63_values, c63_isTold, c63_waits, c63_readsOf, c63_readMany) h63) hW [0, 1, 2, 3, 4, 5, 6, 7, 8, 9, 10, 11, 12, 13, 14, 15, 16, 17, 18, 19, 20] [] rfl rfl rfl rfl (by decide) 0 rfl rfl w_cd_X8_isEvaluated w_ml_X8_165 w_im_X8_isEvaluated w_sel_X8_isEvaluated w_in_HeightSheetModel (by decide +kernel) rfl ⟨Nat.le_of_ble_eq_true rfl, Nat.le_of_ble_eq_true rfl⟩ ⟨Nat.zero_le _, Nat.zero_le _⟩ (Nat.le_of_ble_eq_true rfl) dX8_settles_63 (fun rv w1 H L hp hW => ?_) rfl
              obtain ⟨rfl, rfl⟩ := hp
              replace hW : Wd X k A [(ad 0, .inr (8, [.ref (ad 1), .ref (ad 2), .int v_taped, .int v_fault, .int v_broken, .int v_brokenAt, .int v_spot, .int v_here, .int v_token, .int v_number, .ref (ad 3), .ref (ad 4), .ref (ad 5), .ref (ad 6), .ref (ad 7), .ref (ad 8), .ref (ad 9), .ref (ad 10), .int v_isStarted, .ref (ad 11), .ref (ad 12), .ref (ad 13), .int v_evaluated, .int v_moved, .int v_isChanged, .ref (ad 14), .int v_undoMany, .ref (ad 15), .ref (ad 16), .ref (ad 17), .ref (ad 18), .ref (ad 19), .ref (ad 20), .int v_torn, .int v_isAsideChanged])), (ad 1, .inl (eI X, 720, .inl v_state)), (ad 2, .inl (eI X, 320, .inl v_tape)), (ad 3, .inl (eI X, 9, .inl v_ends)), (ad 4, .inl (eI X, 27, .inl v_letters)), (ad 5, .inl (eI X, 30, .inl c63_values)), (ad 6, .inl (eZ X, 30, .inl c63_isTold)), (ad 7, .inl (eI X, 30, .inl c63_waits)), (ad 8, .inl (eI X, 900, .inl c63_readsOf)), (ad 9, .inl (eI X, 30, .inl c63_readMany)), (ad 10, .inl (eI X, 30, .inl v_heights)), (ad 11, .inl (eI X, 30, .inl v_oldValues)), (ad 12, .inl (eZ X, 30, .inl v_isOldTold)), (ad 13, .inl (eI X, 30, .inl v_oldReads)), (ad 14, .inl (eI X, 100, .inl v_undos)), (ad 15, .inl (eI X, 103, .inl v_undoAside)), (ad 16, .inl (eI X, 4, .inl v_formula)), (ad 17, .inl (eZ X, 2, .inl v_isKept)), (ad 18, .inl (eI X, 4, .inl v_lanes)), (ad 19, .inl (eI X, 4, .inl v_lengths)), (ad 20, .inl (eI X, 160, .inl v_items))] H L := hW.sub [0, 1, 2, 3, 4, 5, 6, 7, 8, 9, 10, 11, 12, 13, 14, 15, 16, 17, 18, 19, 20] rfl rfl
              show Wx X k 0 0 H L 66 ls [.int r63]
              refine r_if_eq (tgt := 76) C dX8_settles_66 (by decide) (fun c66 => ?_) (fun c66 => ?_)
              · replace h := iT c66 h
                exact K76 c63_values c63_isTold c63_waits c63_readsOf c63_readMany v_heights l1 l2 H L ls hW hl h
              · replace h := iF c66 h
                refine r_aload_n C hl 0 dX8_settles_69 rfl rfl ?_
                refine r_iload_n C hl 2 dX8_settles_70 rfl rfl ?_
                obtain ⟨c71_heights, h71, h⟩ := bd1_some h
                refine r_V (wr := []) (np := 1) C hl (mX8_heightOf X ad  v_state v_tape v_taped v_fault v_broken v_brokenAt v_spot v_here v_token v_number v_ends v_letters c63_values c63_isTold c63_waits c63_readsOf c63_readMany v_heights v_isStarted v_oldValues v_isOldTold v_oldReads v_evaluated v_moved v_isChanged v_undos v_undoMany v_undoAside v_formula v_isKept v_lanes v_lengths v_items v_torn v_isAsideChanged l2 c71_heights h71) hW [0, 1, 2, 3, 4, 5, 6, 7, 8, 9, 10, 11, 12, 13, 14, 15, 16, 17, 18, 19, 20] [] rfl rfl rfl rfl (by decide) 0 rfl rfl w_cd_X8_heightOf w_ml_X8_169 w_im_X8_heightOf w_sel_X8_heightOf w_in_HeightSheetModel (by decide +kernel) rfl ⟨Nat.le_of_ble_eq_true rfl, Nat.le_of_ble_eq_true rfl⟩ ⟨Nat.zero_le _, Nat.zero_le _⟩ (Nat.le_of_ble_eq_true rfl) dX8_settles_71 (fun rv w1 H L hp hW => ?_) rfl
                obtain ⟨rfl, rfl⟩ := hp
                replace hW : Wd X k A [(ad 0, .inr (8, [.ref (ad 1), .ref (ad 2), .int v_taped, .int v_fault, .int v_broken, .int v_brokenAt, .int v_spot, .int v_here, .int v_token, .int v_number, .ref (ad 3), .ref (ad 4), .ref (ad 5), .ref (ad 6), .ref (ad 7), .ref (ad 8), .ref (ad 9), .ref (ad 10), .int v_isStarted, .ref (ad 11), .ref (ad 12), .ref (ad 13), .int v_evaluated, .int v_moved, .int v_isChanged, .ref (ad 14), .int v_undoMany, .ref (ad 15), .ref (ad 16), .ref (ad 17), .ref (ad 18), .ref (ad 19), .ref (ad 20), .int v_torn, .int v_isAsideChanged])), (ad 1, .inl (eI X, 720, .inl v_state)), (ad 2, .inl (eI X, 320, .inl v_tape)), (ad 3, .inl (eI X, 9, .inl v_ends)), (ad 4, .inl (eI X, 27, .inl v_letters)), (ad 5, .inl (eI X, 30, .inl c63_values)), (ad 6, .inl (eZ X, 30, .inl c63_isTold)), (ad 7, .inl (eI X, 30, .inl c63_waits)), (ad 8, .inl (eI X, 900, .inl c63_readsOf)), (ad 9, .inl (eI X, 30, .inl c63_readMany)), (ad 10, .inl (eI X, 30, .inl c71_heights)), (ad 11, .inl (eI X, 30, .inl v_oldValues)), (ad 12, .inl (eZ X, 30, .inl v_isOldTold)), (ad 13, .inl (eI X, 30, .inl v_oldReads)), (ad 14, .inl (eI X, 100, .inl v_undos)), (ad 15, .inl (eI X, 103, .inl v_undoAside)), (ad 16, .inl (eI X, 4, .inl v_formula)), (ad 17, .inl (eZ X, 2, .inl v_isKept)), (ad 18, .inl (eI X, 4, .inl v_lanes)), (ad 19, .inl (eI X, 4, .inl v_lengths)), (ad 20, .inl (eI X, 160, .inl v_items))] H L := hW.sub [0, 1, 2, 3, 4, 5, 6, 7, 8, 9, 10, 11, 12, 13, 14, 15, 16, 17, 18, 19, 20] rfl rfl
                show Wx X k 0 0 H L 74 ls []
                refine r_iconst (v := 1) C dX8_settles_74 (by decide) ?_
                refine r_istore_n (lv' := [(1, .int (1 : Int32)), (0, .ref (ad 0)), (2, .int l2)]) C hl dX8_settles_75 rfl (by decide) rfl (fun ls hl => ?_)
                exact K76 c63_values c63_isTold c63_waits c63_readsOf c63_readMany c71_heights (1 : Int32) l2 H L ls hW (lv_sub hl [1, 0, 2] rfl) h
      intro v_values v_isTold v_waits v_readsOf v_readMany v_heights l1 H L ls hW hl h
      rw [lq7_s] at h
      unfold fX8_settles_b38 at h
      refine r_iload_n C hl 1 dX8_settles_38 rfl rfl ?_
      refine r_if_eq (tgt := 85) C dX8_settles_39 (by decide) (fun c39 => ?_) (fun c39 => ?_)
      · replace h := iT c39 h
        exact r_vret C hq hW (by obtain rfl := Option.some.inj h; exact ⟨rfl, rfl⟩) dX8_settles_85
      · replace h := iF c39 h
        refine r_iconst (v := 0) C dX8_settles_42 (by decide) ?_
        refine r_istore_n (lv' := [(1, .int (0 : Int32)), (0, .ref (ad 0))]) C hl dX8_settles_43 rfl (by decide) rfl (fun ls hl => ?_)
        refine r_iconst (v := 0) C dX8_settles_44 (by decide) ?_
        refine r_istore_n (lv' := [(2, .int (0 : Int32)), (1, .int (0 : Int32)), (0, .ref (ad 0))]) C hl dX8_settles_45 rfl (by decide) rfl (fun ls hl => ?_)
        exact K46  fu v_values v_isTold v_waits v_readsOf v_readMany v_heights (0 : Int32) (0 : Int32) H L ls hW (lv_sub hl [2, 1, 0] rfl) h
  have K2 : ∀ (v_waits : (Nat → Int32)), ∀ (v_readsOf : (Nat → Int32)), ∀ (v_readMany : (Nat → Int32)), ∀ (n2 : Nat), ∀ (v_values : (Nat → Int32)), ∀ (v_isTold : (Nat → Int32)), ∀ (v_heights : (Nat → Int32)), ∀ (l1 : Int32), ∀ (H : Heap) (L : List Loc) (ls : Array Slot), Wd X k A [(ad 0, .inr (8, [.ref (ad 1), .ref (ad 2), .int v_taped, .int v_fault, .int v_broken, .int v_brokenAt, .int v_spot, .int v_here, .int v_token, .int v_number, .ref (ad 3), .ref (ad 4), .ref (ad 5), .ref (ad 6), .ref (ad 7), .ref (ad 8), .ref (ad 9), .ref (ad 10), .int v_isStarted, .ref (ad 11), .ref (ad 12), .ref (ad 13), .int v_evaluated, .int v_moved, .int v_isChanged, .ref (ad 14), .int v_undoMany, .ref (ad 15), .ref (ad 16), .ref (ad 17), .ref (ad 18), .ref (ad 19), .ref (ad 20), .int v_torn, .int v_isAsideChanged])), (ad 1, .inl (eI X, 720, .inl v_state)), (ad 2, .inl (eI X, 320, .inl v_tape)), (ad 3, .inl (eI X, 9, .inl v_ends)), (ad 4, .inl (eI X, 27, .inl v_letters)), (ad 5, .inl (eI X, 30, .inl v_values)), (ad 6, .inl (eZ X, 30, .inl v_isTold)), (ad 7, .inl (eI X, 30, .inl v_waits)), (ad 8, .inl (eI X, 900, .inl v_readsOf)), (ad 9, .inl (eI X, 30, .inl v_readMany)), (ad 10, .inl (eI X, 30, .inl v_heights)), (ad 11, .inl (eI X, 30, .inl v_oldValues)), (ad 12, .inl (eZ X, 30, .inl v_isOldTold)), (ad 13, .inl (eI X, 30, .inl v_oldReads)), (ad 14, .inl (eI X, 100, .inl v_undos)), (ad 15, .inl (eI X, 103, .inl v_undoAside)), (ad 16, .inl (eI X, 4, .inl v_formula)), (ad 17, .inl (eZ X, 2, .inl v_isKept)), (ad 18, .inl (eI X, 4, .inl v_lanes)), (ad 19, .inl (eI X, 4, .inl v_lengths)), (ad 20, .inl (eI X, 160, .inl v_items))] H L → lv_has ls 3 [(0, .ref (ad 0)), (1, .int l1)] → lq4 (fX8_settles_b2 v_state  v_waits v_readsOf v_readMany) n2 v_values v_isTold v_heights l1 = some o → Wx X k 0 0 H L 2 ls [] := by
    intro v_waits v_readsOf v_readMany
    intro n2
    induction n2 with
    | zero => intro v_values v_isTold v_heights l1 H L ls hW hl h; exact lq4_0 h
    | succ n2 ih2 =>
      intro v_values v_isTold v_heights l1 H L ls hW hl h
      rw [lq4_s] at h
      unfold fX8_settles_b2 at h
      refine r_iload_n C hl 1 dX8_settles_2 rfl rfl ?_
      refine r_bipush (v := 30) C dX8_settles_3 (by decide) ?_
      refine r_icmp_ge (tgt := 36) C dX8_settles_5 (by decide) (fun c5 => ?_) (fun c5 => ?_)
      · replace h := iT c5 h
        refine r_iconst (v := 1) C dX8_settles_36 (by decide) ?_
        refine r_istore_n (lv' := [(1, .int (1 : Int32)), (0, .ref (ad 0))]) C hl dX8_settles_37 rfl (by decide) rfl (fun ls hl => ?_)
        exact K38  fu v_values v_isTold v_waits v_readsOf v_readMany v_heights (1 : Int32) H L ls hW (lv_sub hl [1, 0] rfl) h
      · replace h := iF c5 h
        refine r_aload_n C hl 0 dX8_settles_8 rfl rfl ?_
        refine r_get C hW 0 rfl rfl iwX8 13 (by decide) w_fl_X8_25 rfl dX8_settles_9 ?_
        refine r_iload_n C hl 1 dX8_settles_12 rfl rfl ?_
        refine r_iconst (v := 0) C dX8_settles_13 (by decide) ?_
        obtain ⟨w14, e14, g14, h⟩ := wr_some h
        refine r_zast (ws' := [(ad 0, .inr (8, [.ref (ad 1), .ref (ad 2), .int v_taped, .int v_fault, .int v_broken, .int v_brokenAt, .int v_spot, .int v_here, .int v_token, .int v_number, .ref (ad 3), .ref (ad 4), .ref (ad 5), .ref (ad 6), .ref (ad 7), .ref (ad 8), .ref (ad 9), .ref (ad 10), .int v_isStarted, .ref (ad 11), .ref (ad 12), .ref (ad 13), .int v_evaluated, .int v_moved, .int v_isChanged, .ref (ad 14), .int v_undoMany, .ref (ad 15), .ref (ad 16), .ref (ad 17), .ref (ad 18), .ref (ad 19), .ref (ad 20), .int v_torn, .int v_isAsideChanged])), (ad 1, .inl (eI X, 720, .inl v_state)), (ad 2, .inl (eI X, 320, .inl v_tape)), (ad 3, .inl (eI X, 9, .inl v_ends)), (ad 4, .inl (eI X, 27, .inl v_letters)), (ad 5, .inl (eI X, 30, .inl v_values)), (ad 6, .inl (eZ X, 30, .inl w14)), (ad 7, .inl (eI X, 30, .inl v_waits)), (ad 8, .inl (eI X, 900, .inl v_readsOf)), (ad 9, .inl (eI X, 30, .inl v_readMany)), (ad 10, .inl (eI X, 30, .inl v_heights)), (ad 11, .inl (eI X, 30, .inl v_oldValues)), (ad 12, .inl (eZ X, 30, .inl v_isOldTold)), (ad 13, .inl (eI X, 30, .inl v_oldReads)), (ad 14, .inl (eI X, 100, .inl v_undos)), (ad 15, .inl (eI X, 103, .inl v_undoAside)), (ad 16, .inl (eI X, 4, .inl v_formula)), (ad 17, .inl (eZ X, 2, .inl v_isKept)), (ad 18, .inl (eI X, 4, .inl v_lanes)), (ad 19, .inl (eI X, 4, .inl v_lengths)), (ad 20, .inl (eI X, 160, .inl v_items))]) C hW 6 rfl g14 e14 rfl dX8_settles_14 (fun H L hW => ?_)
        refine r_aload_n C hl 0 dX8_settles_15 rfl rfl ?_
        refine r_get C hW 0 rfl rfl iwX8 12 (by decide) w_fl_X8_22 rfl dX8_settles_16 ?_
        refine r_iload_n C hl 1 dX8_settles_19 rfl rfl ?_
        refine r_iconst (v := 0) C dX8_settles_20 (by decide) ?_
        obtain ⟨w21, e21, g21, h⟩ := wr_some h
        refine r_iast (ws' := [(ad 0, .inr (8, [.ref (ad 1), .ref (ad 2), .int v_taped, .int v_fault, .int v_broken, .int v_brokenAt, .int v_spot, .int v_here, .int v_token, .int v_number, .ref (ad 3), .ref (ad 4), .ref (ad 5), .ref (ad 6), .ref (ad 7), .ref (ad 8), .ref (ad 9), .ref (ad 10), .int v_isStarted, .ref (ad 11), .ref (ad 12), .ref (ad 13), .int v_evaluated, .int v_moved, .int v_isChanged, .ref (ad 14), .int v_undoMany, .ref (ad 15), .ref (ad 16), .ref (ad 17), .ref (ad 18), .ref (ad 19), .ref (ad 20), .int v_torn, .int v_isAsideChanged])), (ad 1, .inl (eI X, 720, .inl v_state)), (ad 2, .inl (eI X, 320, .inl v_tape)), (ad 3, .inl (eI X, 9, .inl v_ends)), (ad 4, .inl (eI X, 27, .inl v_letters)), (ad 5, .inl (eI X, 30, .inl w21)), (ad 6, .inl (eZ X, 30, .inl w14)), (ad 7, .inl (eI X, 30, .inl v_waits)), (ad 8, .inl (eI X, 900, .inl v_readsOf)), (ad 9, .inl (eI X, 30, .inl v_readMany)), (ad 10, .inl (eI X, 30, .inl v_heights)), (ad 11, .inl (eI X, 30, .inl v_oldValues)), (ad 12, .inl (eZ X, 30, .inl v_isOldTold)), (ad 13, .inl (eI X, 30, .inl v_oldReads)), (ad 14, .inl (eI X, 100, .inl v_undos)), (ad 15, .inl (eI X, 103, .inl v_undoAside)), (ad 16, .inl (eI X, 4, .inl v_formula)), (ad 17, .inl (eZ X, 2, .inl v_isKept)), (ad 18, .inl (eI X, 4, .inl v_lanes)), (ad 19, .inl (eI X, 4, .inl v_lengths)), (ad 20, .inl (eI X, 160, .inl v_items))]) C hW 5 rfl g21 e21 rfl dX8_settles_21 (fun H L hW => ?_)
        refine r_aload_n C hl 0 dX8_settles_22 rfl rfl ?_
        refine r_get C hW 0 rfl rfl iwX8 17 (by decide) w_fl_X8_38 rfl dX8_settles_23 ?_
        refine r_iload_n C hl 1 dX8_settles_26 rfl rfl ?_
        refine r_bipush (v := -4) C dX8_settles_27 (by decide) ?_
        obtain ⟨w29, e29, g29, h⟩ := wr_some h
        refine r_iast (ws' := [(ad 0, .inr (8, [.ref (ad 1), .ref (ad 2), .int v_taped, .int v_fault, .int v_broken, .int v_brokenAt, .int v_spot, .int v_here, .int v_token, .int v_number, .ref (ad 3), .ref (ad 4), .ref (ad 5), .ref (ad 6), .ref (ad 7), .ref (ad 8), .ref (ad 9), .ref (ad 10), .int v_isStarted, .ref (ad 11), .ref (ad 12), .ref (ad 13), .int v_evaluated, .int v_moved, .int v_isChanged, .ref (ad 14), .int v_undoMany, .ref (ad 15), .ref (ad 16), .ref (ad 17), .ref (ad 18), .ref (ad 19), .ref (ad 20), .int v_torn, .int v_isAsideChanged])), (ad 1, .inl (eI X, 720, .inl v_state)), (ad 2, .inl (eI X, 320, .inl v_tape)), (ad 3, .inl (eI X, 9, .inl v_ends)), (ad 4, .inl (eI X, 27, .inl v_letters)), (ad 5, .inl (eI X, 30, .inl w21)), (ad 6, .inl (eZ X, 30, .inl w14)), (ad 7, .inl (eI X, 30, .inl v_waits)), (ad 8, .inl (eI X, 900, .inl v_readsOf)), (ad 9, .inl (eI X, 30, .inl v_readMany)), (ad 10, .inl (eI X, 30, .inl w29)), (ad 11, .inl (eI X, 30, .inl v_oldValues)), (ad 12, .inl (eZ X, 30, .inl v_isOldTold)), (ad 13, .inl (eI X, 30, .inl v_oldReads)), (ad 14, .inl (eI X, 100, .inl v_undos)), (ad 15, .inl (eI X, 103, .inl v_undoAside)), (ad 16, .inl (eI X, 4, .inl v_formula)), (ad 17, .inl (eZ X, 2, .inl v_isKept)), (ad 18, .inl (eI X, 4, .inl v_lanes)), (ad 19, .inl (eI X, 4, .inl v_lengths)), (ad 20, .inl (eI X, 160, .inl v_items))]) C hW 10 rfl g29 e29 rfl dX8_settles_29 (fun H L hW => ?_)
        refine r_iinc (j := 1) (v := l1 + (1 : Int32)) (lv' := [(1, .int (l1 + (1 : Int32))), (0, .ref (ad 0))]) C hl dX8_settles_30 rfl rfl (by decide) rfl (fun ls hl => ?_)
        refine r_goto (tgt := 2) C dX8_settles_33 (by decide) ?_
        exact ih2 w21 w14 w29 (l1 + (1 : Int32)) H L ls hW (lv_sub hl [1, 0] rfl) h
  unfold fX8_settles at h
  refine r_iconst (v := 0) C dX8_settles_0 (by decide) ?_
  refine r_istore_n (lv' := [(1, .int (0 : Int32)), (0, .ref (ad 0))]) C hl dX8_settles_1 rfl (by decide) rfl (fun ls hl => ?_)
  exact K2 v_waits v_readsOf v_readMany fu v_values v_isTold v_heights (0 : Int32) H L ls hW (lv_sub hl [1, 0] rfl) h
def fX8_text_j65 (v_tape : (Nat → Int32)) (v_ends : (Nat → Int32)) (v_letters : (Nat → Int32))  (v_state : (Nat → Int32)) (v_taped : Int32) (v_fault : Int32) (v_broken : Int32) (v_brokenAt : Int32) (v_spot : Int32) (v_here : Int32) (v_token : Int32) (v_number : Int32) (v_values : (Nat → Int32)) (v_isTold : (Nat → Int32)) (v_waits : (Nat → Int32)) (v_readsOf : (Nat → Int32)) (v_readMany : (Nat → Int32)) (v_heights : (Nat → Int32)) (v_isChanged : Int32) (v_undoMany : Int32) (v_isKept : (Nat → Int32)) (l1 : Int32) : Option (Int32 × (Nat → Int32) × Int32 × Int32 × Int32 × Int32 × Int32 × Int32 × Int32 × Int32 × (Nat → Int32) × (Nat → Int32) × (Nat → Int32) × (Nat → Int32) × (Nat → Int32) × (Nat → Int32) × Int32 × Int32 × (Nat → Int32)) :=
  if v_broken ≤ (0 : Int32) then
    bd1 (fX8_copies v_state (360 : Int32) (0 : Int32)) fun c98_state =>
    bd6 (fX8_settles c98_state v_values v_isTold v_waits v_readsOf v_readMany v_heights) fun c102_values c102_isTold c102_waits c102_readsOf c102_readMany c102_heights =>
    wr v_isKept 2 (0 : Int32) (vp_nar .boolean (0 : Int32)) fun w121 =>
    wr w121 2 (1 : Int32) (vp_nar .boolean (0 : Int32)) fun w128 =>
    some (l1, c98_state, (0 : Int32), v_broken, v_broken, v_brokenAt, v_spot, v_here, v_token, v_number, c102_values, c102_isTold, c102_waits, c102_readsOf, c102_readMany, c102_heights, (0 : Int32), (0 : Int32), w128)
  else
    some ((-10 : Int32) - v_brokenAt, v_state, (0 : Int32), v_broken, v_broken, v_brokenAt, v_spot, v_here, v_token, v_number, v_values, v_isTold, v_waits, v_readsOf, v_readMany, v_heights, v_isChanged, v_undoMany, v_isKept)
def fX8_text_b41 (v_tape : (Nat → Int32)) (v_ends : (Nat → Int32)) (v_letters : (Nat → Int32))  (v_taped : Int32) (v_fault : Int32) (v_values : (Nat → Int32)) (v_isTold : (Nat → Int32)) (v_waits : (Nat → Int32)) (v_readsOf : (Nat → Int32)) (v_readMany : (Nat → Int32)) (v_heights : (Nat → Int32)) (v_isChanged : Int32) (v_undoMany : Int32) (v_isKept : (Nat → Int32)) (self41 : (Nat → Int32) → Int32 → Int32 → Int32 → Int32 → Int32 → Int32 → Int32 → Option (Int32 × (Nat → Int32) × Int32 × Int32 × Int32 × Int32 × Int32 × Int32 × Int32 × Int32 × (Nat → Int32) × (Nat → Int32) × (Nat → Int32) × (Nat → Int32) × (Nat → Int32) × (Nat → Int32) × Int32 × Int32 × (Nat → Int32))) (v_state : (Nat → Int32)) (v_broken : Int32) (v_brokenAt : Int32) (v_spot : Int32) (v_here : Int32) (v_token : Int32) (v_number : Int32) (l1 : Int32) : Option (Int32 × (Nat → Int32) × Int32 × Int32 × Int32 × Int32 × Int32 × Int32 × Int32 × Int32 × (Nat → Int32) × (Nat → Int32) × (Nat → Int32) × (Nat → Int32) × (Nat → Int32) × (Nat → Int32) × Int32 × Int32 × (Nat → Int32)) :=
  if v_broken = (0 : Int32) then
    if v_token = (0 : Int32) then
      fX8_text_j65 v_tape v_ends v_letters  v_state v_taped v_fault v_broken v_brokenAt v_spot v_here v_token v_number v_values v_isTold v_waits v_readsOf v_readMany v_heights v_isChanged v_undoMany v_isKept l1
    else
      bd7 (fX8_readLine v_state v_tape v_taped v_broken v_brokenAt v_spot v_here v_token v_number v_ends v_letters) fun c56_state c56_broken c56_brokenAt c56_spot c56_here c56_token c56_number =>
      self41 c56_state c56_broken c56_brokenAt c56_spot c56_here c56_token c56_number (l1 + (1 : Int32))
  else
    fX8_text_j65 v_tape v_ends v_letters  v_state v_taped v_fault v_broken v_brokenAt v_spot v_here v_token v_number v_values v_isTold v_waits v_readsOf v_readMany v_heights v_isChanged v_undoMany v_isKept l1
def fX8_text_b14 (v_tape : (Nat → Int32)) (v_ends : (Nat → Int32)) (v_letters : (Nat → Int32))  (v_taped : Int32) (v_fault : Int32) (v_broken : Int32) (v_brokenAt : Int32) (v_spot : Int32) (v_here : Int32) (v_token : Int32) (v_number : Int32) (v_values : (Nat → Int32)) (v_isTold : (Nat → Int32)) (v_waits : (Nat → Int32)) (v_readsOf : (Nat → Int32)) (v_readMany : (Nat → Int32)) (v_heights : (Nat → Int32)) (v_isChanged : Int32) (v_undoMany : Int32) (v_isKept : (Nat → Int32)) (l1 : Int32) (self14 : (Nat → Int32) → Int32 → Option (Int32 × (Nat → Int32) × Int32 × Int32 × Int32 × Int32 × Int32 × Int32 × Int32 × Int32 × (Nat → Int32) × (Nat → Int32) × (Nat → Int32) × (Nat → Int32) × (Nat → Int32) × (Nat → Int32) × Int32 × Int32 × (Nat → Int32))) (v_state : (Nat → Int32)) (l2 : Int32) : Option (Int32 × (Nat → Int32) × Int32 × Int32 × Int32 × Int32 × Int32 × Int32 × Int32 × Int32 × (Nat → Int32) × (Nat → Int32) × (Nat → Int32) × (Nat → Int32) × (Nat → Int32) × (Nat → Int32) × Int32 × Int32 × (Nat → Int32)) :=
  if (120 : Int32) ≤ l2 then
    bd6 (fX8_readsOn v_tape v_taped v_broken v_brokenAt v_spot v_here v_token v_number) fun c38_broken c38_brokenAt c38_spot c38_here c38_token c38_number =>
    lq8 (fX8_text_b41 v_tape v_ends v_letters  v_taped v_fault v_values v_isTold v_waits v_readsOf v_readMany v_heights v_isChanged v_undoMany v_isKept) fu v_state c38_broken c38_brokenAt c38_spot c38_here c38_token c38_number l1
  else
    wr v_state 720 ((360 : Int32) + l2) (0 : Int32) fun w30 =>
    self14 w30 (l2 + (1 : Int32))
def fX8_text (v_state : (Nat → Int32)) (v_tape : (Nat → Int32)) (v_taped : Int32) (v_fault : Int32) (v_broken : Int32) (v_brokenAt : Int32) (v_spot : Int32) (v_here : Int32) (v_token : Int32) (v_number : Int32) (v_ends : (Nat → Int32)) (v_letters : (Nat → Int32)) (v_values : (Nat → Int32)) (v_isTold : (Nat → Int32)) (v_waits : (Nat → Int32)) (v_readsOf : (Nat → Int32)) (v_readMany : (Nat → Int32)) (v_heights : (Nat → Int32)) (v_isChanged : Int32) (v_undoMany : Int32) (v_isKept : (Nat → Int32)) : Option (Int32 × (Nat → Int32) × Int32 × Int32 × Int32 × Int32 × Int32 × Int32 × Int32 × Int32 × (Nat → Int32) × (Nat → Int32) × (Nat → Int32) × (Nat → Int32) × (Nat → Int32) × (Nat → Int32) × Int32 × Int32 × (Nat → Int32)) :=
  lq2 (fX8_text_b14 v_tape v_ends v_letters  v_taped v_fault (0 : Int32) v_brokenAt (0 : Int32) v_here v_token v_number v_values v_isTold v_waits v_readsOf v_readMany v_heights v_isChanged v_undoMany v_isKept (0 : Int32)) fu v_state (0 : Int32)
set_option maxRecDepth 100000 in
set_option maxHeartbeats 8000000 in
theorem mX8_text (X : Ev) (ad : Nat → Nat) (v_state : (Nat → Int32)) (v_tape : (Nat → Int32)) (v_taped : Int32) (v_fault : Int32) (v_broken : Int32) (v_brokenAt : Int32) (v_spot : Int32) (v_here : Int32) (v_token : Int32) (v_number : Int32) (v_ends : (Nat → Int32)) (v_letters : (Nat → Int32)) (v_values : (Nat → Int32)) (v_isTold : (Nat → Int32)) (v_waits : (Nat → Int32)) (v_readsOf : (Nat → Int32)) (v_readMany : (Nat → Int32)) (v_heights : (Nat → Int32)) (v_isStarted : Int32) (v_oldValues : (Nat → Int32)) (v_isOldTold : (Nat → Int32)) (v_oldReads : (Nat → Int32)) (v_evaluated : Int32) (v_moved : Int32) (v_isChanged : Int32) (v_undos : (Nat → Int32)) (v_undoMany : Int32) (v_undoAside : (Nat → Int32)) (v_formula : (Nat → Int32)) (v_isKept : (Nat → Int32)) (v_lanes : (Nat → Int32)) (v_lengths : (Nat → Int32)) (v_items : (Nat → Int32)) (v_torn : Int32) (v_isAsideChanged : Int32)  (o : Int32 × (Nat → Int32) × Int32 × Int32 × Int32 × Int32 × Int32 × Int32 × Int32 × Int32 × (Nat → Int32) × (Nat → Int32) × (Nat → Int32) × (Nat → Int32) × (Nat → Int32) × (Nat → Int32) × Int32 × Int32 × (Nat → Int32)) (h : fX8_text v_state v_tape v_taped v_fault v_broken v_brokenAt v_spot v_here v_token v_number v_ends v_letters v_values v_isTold v_waits v_readsOf v_readMany v_heights v_isChanged v_undoMany v_isKept = some o) : Ctr X yX8_text cX8_text 3 (some .int) 5 116 0 0 [.ref (ad 0)] [(ad 0, .inr (8, [.ref (ad 1), .ref (ad 2), .int v_taped, .int v_fault, .int v_broken, .int v_brokenAt, .int v_spot, .int v_here, .int v_token, .int v_number, .ref (ad 3), .ref (ad 4), .ref (ad 5), .ref (ad 6), .ref (ad 7), .ref (ad 8), .ref (ad 9), .ref (ad 10), .int v_isStarted, .ref (ad 11), .ref (ad 12), .ref (ad 13), .int v_evaluated, .int v_moved, .int v_isChanged, .ref (ad 14), .int v_undoMany, .ref (ad 15), .ref (ad 16), .ref (ad 17), .ref (ad 18), .ref (ad 19), .ref (ad 20), .int v_torn, .int v_isAsideChanged])), (ad 1, .inl (eI X, 720, .inl v_state)), (ad 2, .inl (eI X, 320, .inl v_tape)), (ad 3, .inl (eI X, 9, .inl v_ends)), (ad 4, .inl (eI X, 27, .inl v_letters)), (ad 5, .inl (eI X, 30, .inl v_values)), (ad 6, .inl (eZ X, 30, .inl v_isTold)), (ad 7, .inl (eI X, 30, .inl v_waits)), (ad 8, .inl (eI X, 900, .inl v_readsOf)), (ad 9, .inl (eI X, 30, .inl v_readMany)), (ad 10, .inl (eI X, 30, .inl v_heights)), (ad 11, .inl (eI X, 30, .inl v_oldValues)), (ad 12, .inl (eZ X, 30, .inl v_isOldTold)), (ad 13, .inl (eI X, 30, .inl v_oldReads)), (ad 14, .inl (eI X, 100, .inl v_undos)), (ad 15, .inl (eI X, 103, .inl v_undoAside)), (ad 16, .inl (eI X, 4, .inl v_formula)), (ad 17, .inl (eZ X, 2, .inl v_isKept)), (ad 18, .inl (eI X, 4, .inl v_lanes)), (ad 19, .inl (eI X, 4, .inl v_lengths)), (ad 20, .inl (eI X, 160, .inl v_items))] (De (some (.int o.1)) [(ad 0, .inr (8, [.ref (ad 1), .ref (ad 2), .int (o.2.2.1), .int (o.2.2.2.1), .int (o.2.2.2.2.1), .int (o.2.2.2.2.2.1), .int (o.2.2.2.2.2.2.1), .int (o.2.2.2.2.2.2.2.1), .int (o.2.2.2.2.2.2.2.2.1), .int (o.2.2.2.2.2.2.2.2.2.1), .ref (ad 3), .ref (ad 4), .ref (ad 5), .ref (ad 6), .ref (ad 7), .ref (ad 8), .ref (ad 9), .ref (ad 10), .int v_isStarted, .ref (ad 11), .ref (ad 12), .ref (ad 13), .int v_evaluated, .int v_moved, .int (o.2.2.2.2.2.2.2.2.2.2.2.2.2.2.2.2.1), .ref (ad 14), .int (o.2.2.2.2.2.2.2.2.2.2.2.2.2.2.2.2.2.1), .ref (ad 15), .ref (ad 16), .ref (ad 17), .ref (ad 18), .ref (ad 19), .ref (ad 20), .int v_torn, .int v_isAsideChanged])), (ad 1, .inl (eI X, 720, .inl (o.2.1))), (ad 2, .inl (eI X, 320, .inl v_tape)), (ad 3, .inl (eI X, 9, .inl v_ends)), (ad 4, .inl (eI X, 27, .inl v_letters)), (ad 5, .inl (eI X, 30, .inl (o.2.2.2.2.2.2.2.2.2.2.1))), (ad 6, .inl (eZ X, 30, .inl (o.2.2.2.2.2.2.2.2.2.2.2.1))), (ad 7, .inl (eI X, 30, .inl (o.2.2.2.2.2.2.2.2.2.2.2.2.1))), (ad 8, .inl (eI X, 900, .inl (o.2.2.2.2.2.2.2.2.2.2.2.2.2.1))), (ad 9, .inl (eI X, 30, .inl (o.2.2.2.2.2.2.2.2.2.2.2.2.2.2.1))), (ad 10, .inl (eI X, 30, .inl (o.2.2.2.2.2.2.2.2.2.2.2.2.2.2.2.1))), (ad 11, .inl (eI X, 30, .inl v_oldValues)), (ad 12, .inl (eZ X, 30, .inl v_isOldTold)), (ad 13, .inl (eI X, 30, .inl v_oldReads)), (ad 14, .inl (eI X, 100, .inl v_undos)), (ad 15, .inl (eI X, 103, .inl v_undoAside)), (ad 16, .inl (eI X, 4, .inl v_formula)), (ad 17, .inl (eZ X, 2, .inl (o.2.2.2.2.2.2.2.2.2.2.2.2.2.2.2.2.2.2))), (ad 18, .inl (eI X, 4, .inl v_lanes)), (ad 19, .inl (eI X, 4, .inl v_lengths)), (ad 20, .inl (eI X, 160, .inl v_items))]) := by
  refine Ctr.start (by decide) (Nat.le_of_ble_eq_true rfl) (fun k A ls C hq hin hW hl => ?_)
  replace C : Cx X k cX8_text 3 (some .int) RX8 A 5 116 0 0 := C
  replace hl : lv_has ls 3 [(0, .ref (ad 0))] := hl
  suffices hh : ∀ (H : Heap) (L : List Loc), Wd X k A [(ad 0, .inr (8, [.ref (ad 1), .ref (ad 2), .int v_taped, .int v_fault, .int v_broken, .int v_brokenAt, .int v_spot, .int v_here, .int v_token, .int v_number, .ref (ad 3), .ref (ad 4), .ref (ad 5), .ref (ad 6), .ref (ad 7), .ref (ad 8), .ref (ad 9), .ref (ad 10), .int v_isStarted, .ref (ad 11), .ref (ad 12), .ref (ad 13), .int v_evaluated, .int v_moved, .int v_isChanged, .ref (ad 14), .int v_undoMany, .ref (ad 15), .ref (ad 16), .ref (ad 17), .ref (ad 18), .ref (ad 19), .ref (ad 20), .int v_torn, .int v_isAsideChanged])), (ad 1, .inl (eI X, 720, .inl v_state)), (ad 2, .inl (eI X, 320, .inl v_tape)), (ad 3, .inl (eI X, 9, .inl v_ends)), (ad 4, .inl (eI X, 27, .inl v_letters)), (ad 5, .inl (eI X, 30, .inl v_values)), (ad 6, .inl (eZ X, 30, .inl v_isTold)), (ad 7, .inl (eI X, 30, .inl v_waits)), (ad 8, .inl (eI X, 900, .inl v_readsOf)), (ad 9, .inl (eI X, 30, .inl v_readMany)), (ad 10, .inl (eI X, 30, .inl v_heights)), (ad 11, .inl (eI X, 30, .inl v_oldValues)), (ad 12, .inl (eZ X, 30, .inl v_isOldTold)), (ad 13, .inl (eI X, 30, .inl v_oldReads)), (ad 14, .inl (eI X, 100, .inl v_undos)), (ad 15, .inl (eI X, 103, .inl v_undoAside)), (ad 16, .inl (eI X, 4, .inl v_formula)), (ad 17, .inl (eZ X, 2, .inl v_isKept)), (ad 18, .inl (eI X, 4, .inl v_lanes)), (ad 19, .inl (eI X, 4, .inl v_lengths)), (ad 20, .inl (eI X, 160, .inl v_items))] H L → Wx X k 0 0 H L 0 ls [] from hh _ _ hW
  clear hW
  intro H L hW
  have K65 : ∀ (v_state : (Nat → Int32)), ∀ (v_taped : Int32), ∀ (v_fault : Int32), ∀ (v_broken : Int32), ∀ (v_brokenAt : Int32), ∀ (v_spot : Int32), ∀ (v_here : Int32), ∀ (v_token : Int32), ∀ (v_number : Int32), ∀ (v_values : (Nat → Int32)), ∀ (v_isTold : (Nat → Int32)), ∀ (v_waits : (Nat → Int32)), ∀ (v_readsOf : (Nat → Int32)), ∀ (v_readMany : (Nat → Int32)), ∀ (v_heights : (Nat → Int32)), ∀ (v_isChanged : Int32), ∀ (v_undoMany : Int32), ∀ (v_isKept : (Nat → Int32)), ∀ (l1 : Int32), ∀ (H : Heap) (L : List Loc) (ls : Array Slot), Wd X k A [(ad 0, .inr (8, [.ref (ad 1), .ref (ad 2), .int v_taped, .int v_fault, .int v_broken, .int v_brokenAt, .int v_spot, .int v_here, .int v_token, .int v_number, .ref (ad 3), .ref (ad 4), .ref (ad 5), .ref (ad 6), .ref (ad 7), .ref (ad 8), .ref (ad 9), .ref (ad 10), .int v_isStarted, .ref (ad 11), .ref (ad 12), .ref (ad 13), .int v_evaluated, .int v_moved, .int v_isChanged, .ref (ad 14), .int v_undoMany, .ref (ad 15), .ref (ad 16), .ref (ad 17), .ref (ad 18), .ref (ad 19), .ref (ad 20), .int v_torn, .int v_isAsideChanged])), (ad 1, .inl (eI X, 720, .inl v_state)), (ad 2, .inl (eI X, 320, .inl v_tape)), (ad 3, .inl (eI X, 9, .inl v_ends)), (ad 4, .inl (eI X, 27, .inl v_letters)), (ad 5, .inl (eI X, 30, .inl v_values)), (ad 6, .inl (eZ X, 30, .inl v_isTold)), (ad 7, .inl (eI X, 30, .inl v_waits)), (ad 8, .inl (eI X, 900, .inl v_readsOf)), (ad 9, .inl (eI X, 30, .inl v_readMany)), (ad 10, .inl (eI X, 30, .inl v_heights)), (ad 11, .inl (eI X, 30, .inl v_oldValues)), (ad 12, .inl (eZ X, 30, .inl v_isOldTold)), (ad 13, .inl (eI X, 30, .inl v_oldReads)), (ad 14, .inl (eI X, 100, .inl v_undos)), (ad 15, .inl (eI X, 103, .inl v_undoAside)), (ad 16, .inl (eI X, 4, .inl v_formula)), (ad 17, .inl (eZ X, 2, .inl v_isKept)), (ad 18, .inl (eI X, 4, .inl v_lanes)), (ad 19, .inl (eI X, 4, .inl v_lengths)), (ad 20, .inl (eI X, 160, .inl v_items))] H L → lv_has ls 3 [(0, .ref (ad 0)), (1, .int l1)] → fX8_text_j65 v_tape v_ends v_letters  v_state v_taped v_fault v_broken v_brokenAt v_spot v_here v_token v_number v_values v_isTold v_waits v_readsOf v_readMany v_heights v_isChanged v_undoMany v_isKept l1 = some o → Wx X k 0 0 H L 65 ls [] := by
    intro v_state v_taped v_fault v_broken v_brokenAt v_spot v_here v_token v_number v_values v_isTold v_waits v_readsOf v_readMany v_heights v_isChanged v_undoMany v_isKept l1 H L ls hW hl h
    unfold fX8_text_j65 at h
    refine r_aload_n C hl 0 dX8_text_65 rfl rfl ?_
    refine r_iconst (v := 0) C dX8_text_66 (by decide) ?_
    refine r_put (ws' := [(ad 0, .inr (8, [.ref (ad 1), .ref (ad 2), .int (0 : Int32), .int v_fault, .int v_broken, .int v_brokenAt, .int v_spot, .int v_here, .int v_token, .int v_number, .ref (ad 3), .ref (ad 4), .ref (ad 5), .ref (ad 6), .ref (ad 7), .ref (ad 8), .ref (ad 9), .ref (ad 10), .int v_isStarted, .ref (ad 11), .ref (ad 12), .ref (ad 13), .int v_evaluated, .int v_moved, .int v_isChanged, .ref (ad 14), .int v_undoMany, .ref (ad 15), .ref (ad 16), .ref (ad 17), .ref (ad 18), .ref (ad 19), .ref (ad 20), .int v_torn, .int v_isAsideChanged])), (ad 1, .inl (eI X, 720, .inl v_state)), (ad 2, .inl (eI X, 320, .inl v_tape)), (ad 3, .inl (eI X, 9, .inl v_ends)), (ad 4, .inl (eI X, 27, .inl v_letters)), (ad 5, .inl (eI X, 30, .inl v_values)), (ad 6, .inl (eZ X, 30, .inl v_isTold)), (ad 7, .inl (eI X, 30, .inl v_waits)), (ad 8, .inl (eI X, 900, .inl v_readsOf)), (ad 9, .inl (eI X, 30, .inl v_readMany)), (ad 10, .inl (eI X, 30, .inl v_heights)), (ad 11, .inl (eI X, 30, .inl v_oldValues)), (ad 12, .inl (eZ X, 30, .inl v_isOldTold)), (ad 13, .inl (eI X, 30, .inl v_oldReads)), (ad 14, .inl (eI X, 100, .inl v_undos)), (ad 15, .inl (eI X, 103, .inl v_undoAside)), (ad 16, .inl (eI X, 4, .inl v_formula)), (ad 17, .inl (eZ X, 2, .inl v_isKept)), (ad 18, .inl (eI X, 4, .inl v_lanes)), (ad 19, .inl (eI X, 4, .inl v_lengths)), (ad 20, .inl (eI X, 160, .inl v_items))]) C hW 0 rfl rfl iwX8 tyX8_ok nmX8 2 (by decide) w_fl_X8_77 rfl (tyX8_ok 2 (by decide)) rfl rfl (Nat.le_of_ble_eq_true rfl) rfl dX8_text_67 (fun H L hW => ?_)
    refine r_aload_n C hl 0 dX8_text_70 rfl rfl ?_
    refine r_aload_n C hl 0 dX8_text_71 rfl rfl ?_
    refine r_get C hW 0 rfl rfl iwX8 4 (by decide) w_fl_X8_81 rfl dX8_text_72 ?_
    refine r_put (ws' := [(ad 0, .inr (8, [.ref (ad 1), .ref (ad 2), .int (0 : Int32), .int v_broken, .int v_broken, .int v_brokenAt, .int v_spot, .int v_here, .int v_token, .int v_number, .ref (ad 3), .ref (ad 4), .ref (ad 5), .ref (ad 6), .ref (ad 7), .ref (ad 8), .ref (ad 9), .ref (ad 10), .int v_isStarted, .ref (ad 11), .ref (ad 12), .ref (ad 13), .int v_evaluated, .int v_moved, .int v_isChanged, .ref (ad 14), .int v_undoMany, .ref (ad 15), .ref (ad 16), .ref (ad 17), .ref (ad 18), .ref (ad 19), .ref (ad 20), .int v_torn, .int v_isAsideChanged])), (ad 1, .inl (eI X, 720, .inl v_state)), (ad 2, .inl (eI X, 320, .inl v_tape)), (ad 3, .inl (eI X, 9, .inl v_ends)), (ad 4, .inl (eI X, 27, .inl v_letters)), (ad 5, .inl (eI X, 30, .inl v_values)), (ad 6, .inl (eZ X, 30, .inl v_isTold)), (ad 7, .inl (eI X, 30, .inl v_waits)), (ad 8, .inl (eI X, 900, .inl v_readsOf)), (ad 9, .inl (eI X, 30, .inl v_readMany)), (ad 10, .inl (eI X, 30, .inl v_heights)), (ad 11, .inl (eI X, 30, .inl v_oldValues)), (ad 12, .inl (eZ X, 30, .inl v_isOldTold)), (ad 13, .inl (eI X, 30, .inl v_oldReads)), (ad 14, .inl (eI X, 100, .inl v_undos)), (ad 15, .inl (eI X, 103, .inl v_undoAside)), (ad 16, .inl (eI X, 4, .inl v_formula)), (ad 17, .inl (eZ X, 2, .inl v_isKept)), (ad 18, .inl (eI X, 4, .inl v_lanes)), (ad 19, .inl (eI X, 4, .inl v_lengths)), (ad 20, .inl (eI X, 160, .inl v_items))]) C hW 0 rfl rfl iwX8 tyX8_ok nmX8 3 (by decide) w_fl_X8_132 rfl (tyX8_ok 3 (by decide)) rfl rfl (Nat.le_of_ble_eq_true rfl) rfl dX8_text_75 (fun H L hW => ?_)
    refine r_aload_n C hl 0 dX8_text_78 rfl rfl ?_
    refine r_get C hW 0 rfl rfl iwX8 4 (by decide) w_fl_X8_81 rfl dX8_text_79 ?_
    refine r_if_le (tgt := 93) C dX8_text_82 (by decide) (fun c82 => ?_) (fun c82 => ?_)
    · replace h := iT c82 h
      refine r_aload_n C hl 0 dX8_text_93 rfl rfl ?_
      refine r_sipush (v := 360) C dX8_text_94 (by decide) ?_
      refine r_iconst (v := 0) C dX8_text_97 (by decide) ?_
      obtain ⟨c98_state, h98, h⟩ := bd1_some h
      refine r_V (wr := []) (np := 2) C hl (mX8_copies X ad  v_state v_tape (0 : Int32) v_broken v_broken v_brokenAt v_spot v_here v_token v_number v_ends v_letters v_values v_isTold v_waits v_readsOf v_readMany v_heights v_isStarted v_oldValues v_isOldTold v_oldReads v_evaluated v_moved v_isChanged v_undos v_undoMany v_undoAside v_formula v_isKept v_lanes v_lengths v_items v_torn v_isAsideChanged (360 : Int32) (0 : Int32) c98_state h98) hW [0, 1, 2, 3, 4, 5, 6, 7, 8, 9, 10, 11, 12, 13, 14, 15, 16, 17, 18, 19, 20] [] rfl rfl rfl rfl (by decide) 0 rfl rfl w_cd_X8_copies w_ml_X8_135 w_im_X8_copies w_sel_X8_copies w_in_HeightSheetModel (by decide +kernel) rfl ⟨Nat.le_of_ble_eq_true rfl, Nat.le_of_ble_eq_true rfl⟩ ⟨Nat.zero_le _, Nat.zero_le _⟩ (Nat.le_of_ble_eq_true rfl) dX8_text_98 (fun rv w1 H L hp hW => ?_) rfl
      obtain ⟨rfl, rfl⟩ := hp
      replace hW : Wd X k A [(ad 0, .inr (8, [.ref (ad 1), .ref (ad 2), .int (0 : Int32), .int v_broken, .int v_broken, .int v_brokenAt, .int v_spot, .int v_here, .int v_token, .int v_number, .ref (ad 3), .ref (ad 4), .ref (ad 5), .ref (ad 6), .ref (ad 7), .ref (ad 8), .ref (ad 9), .ref (ad 10), .int v_isStarted, .ref (ad 11), .ref (ad 12), .ref (ad 13), .int v_evaluated, .int v_moved, .int v_isChanged, .ref (ad 14), .int v_undoMany, .ref (ad 15), .ref (ad 16), .ref (ad 17), .ref (ad 18), .ref (ad 19), .ref (ad 20), .int v_torn, .int v_isAsideChanged])), (ad 1, .inl (eI X, 720, .inl c98_state)), (ad 2, .inl (eI X, 320, .inl v_tape)), (ad 3, .inl (eI X, 9, .inl v_ends)), (ad 4, .inl (eI X, 27, .inl v_letters)), (ad 5, .inl (eI X, 30, .inl v_values)), (ad 6, .inl (eZ X, 30, .inl v_isTold)), (ad 7, .inl (eI X, 30, .inl v_waits)), (ad 8, .inl (eI X, 900, .inl v_readsOf)), (ad 9, .inl (eI X, 30, .inl v_readMany)), (ad 10, .inl (eI X, 30, .inl v_heights)), (ad 11, .inl (eI X, 30, .inl v_oldValues)), (ad 12, .inl (eZ X, 30, .inl v_isOldTold)), (ad 13, .inl (eI X, 30, .inl v_oldReads)), (ad 14, .inl (eI X, 100, .inl v_undos)), (ad 15, .inl (eI X, 103, .inl v_undoAside)), (ad 16, .inl (eI X, 4, .inl v_formula)), (ad 17, .inl (eZ X, 2, .inl v_isKept)), (ad 18, .inl (eI X, 4, .inl v_lanes)), (ad 19, .inl (eI X, 4, .inl v_lengths)), (ad 20, .inl (eI X, 160, .inl v_items))] H L := hW.sub [0, 1, 2, 3, 4, 5, 6, 7, 8, 9, 10, 11, 12, 13, 14, 15, 16, 17, 18, 19, 20] rfl rfl
      show Wx X k 0 0 H L 101 ls []
      refine r_aload_n C hl 0 dX8_text_101 rfl rfl ?_
      obtain ⟨c102_values, c102_isTold, c102_waits, c102_readsOf, c102_readMany, c102_heights, h102, h⟩ := bd6_some h
      refine r_V (wr := []) (np := 0) C hl (mX8_settles X ad  c98_state v_tape (0 : Int32) v_broken v_broken v_brokenAt v_spot v_here v_token v_number v_ends v_letters v_values v_isTold v_waits v_readsOf v_readMany v_heights v_isStarted v_oldValues v_isOldTold v_oldReads v_evaluated v_moved v_isChanged v_undos v_undoMany v_undoAside v_formula v_isKept v_lanes v_lengths v_items v_torn v_isAsideChanged  (c102_values, c102_isTold, c102_waits, c102_readsOf, c102_readMany, c102_heights) h102) hW [0, 1, 2, 3, 4, 5, 6, 7, 8, 9, 10, 11, 12, 13, 14, 15, 16, 17, 18, 19, 20] [] rfl rfl rfl rfl (by decide) 0 rfl rfl w_cd_X8_settles w_ml_X8_139 w_im_X8_settles w_sel_X8_settles w_in_HeightSheetModel (by decide +kernel) rfl ⟨Nat.le_of_ble_eq_true rfl, Nat.le_of_ble_eq_true rfl⟩ ⟨Nat.zero_le _, Nat.zero_le _⟩ (Nat.le_of_ble_eq_true rfl) dX8_text_102 (fun rv w1 H L hp hW => ?_) rfl
      obtain ⟨rfl, rfl⟩ := hp
      replace hW : Wd X k A [(ad 0, .inr (8, [.ref (ad 1), .ref (ad 2), .int (0 : Int32), .int v_broken, .int v_broken, .int v_brokenAt, .int v_spot, .int v_here, .int v_token, .int v_number, .ref (ad 3), .ref (ad 4), .ref (ad 5), .ref (ad 6), .ref (ad 7), .ref (ad 8), .ref (ad 9), .ref (ad 10), .int v_isStarted, .ref (ad 11), .ref (ad 12), .ref (ad 13), .int v_evaluated, .int v_moved, .int v_isChanged, .ref (ad 14), .int v_undoMany, .ref (ad 15), .ref (ad 16), .ref (ad 17), .ref (ad 18), .ref (ad 19), .ref (ad 20), .int v_torn, .int v_isAsideChanged])), (ad 1, .inl (eI X, 720, .inl c98_state)), (ad 2, .inl (eI X, 320, .inl v_tape)), (ad 3, .inl (eI X, 9, .inl v_ends)), (ad 4, .inl (eI X, 27, .inl v_letters)), (ad 5, .inl (eI X, 30, .inl c102_values)), (ad 6, .inl (eZ X, 30, .inl c102_isTold)), (ad 7, .inl (eI X, 30, .inl c102_waits)), (ad 8, .inl (eI X, 900, .inl c102_readsOf)), (ad 9, .inl (eI X, 30, .inl c102_readMany)), (ad 10, .inl (eI X, 30, .inl c102_heights)), (ad 11, .inl (eI X, 30, .inl v_oldValues)), (ad 12, .inl (eZ X, 30, .inl v_isOldTold)), (ad 13, .inl (eI X, 30, .inl v_oldReads)), (ad 14, .inl (eI X, 100, .inl v_undos)), (ad 15, .inl (eI X, 103, .inl v_undoAside)), (ad 16, .inl (eI X, 4, .inl v_formula)), (ad 17, .inl (eZ X, 2, .inl v_isKept)), (ad 18, .inl (eI X, 4, .inl v_lanes)), (ad 19, .inl (eI X, 4, .inl v_lengths)), (ad 20, .inl (eI X, 160, .inl v_items))] H L := hW.sub [0, 1, 2, 3, 4, 5, 6, 7, 8, 9, 10, 11, 12, 13, 14, 15, 16, 17, 18, 19, 20] rfl rfl
      show Wx X k 0 0 H L 105 ls []
      refine r_aload_n C hl 0 dX8_text_105 rfl rfl ?_
      refine r_iconst (v := 0) C dX8_text_106 (by decide) ?_
      refine r_put (ws' := [(ad 0, .inr (8, [.ref (ad 1), .ref (ad 2), .int (0 : Int32), .int v_broken, .int v_broken, .int v_brokenAt, .int v_spot, .int v_here, .int v_token, .int v_number, .ref (ad 3), .ref (ad 4), .ref (ad 5), .ref (ad 6), .ref (ad 7), .ref (ad 8), .ref (ad 9), .ref (ad 10), .int v_isStarted, .ref (ad 11), .ref (ad 12), .ref (ad 13), .int v_evaluated, .int v_moved, .int (0 : Int32), .ref (ad 14), .int v_undoMany, .ref (ad 15), .ref (ad 16), .ref (ad 17), .ref (ad 18), .ref (ad 19), .ref (ad 20), .int v_torn, .int v_isAsideChanged])), (ad 1, .inl (eI X, 720, .inl c98_state)), (ad 2, .inl (eI X, 320, .inl v_tape)), (ad 3, .inl (eI X, 9, .inl v_ends)), (ad 4, .inl (eI X, 27, .inl v_letters)), (ad 5, .inl (eI X, 30, .inl c102_values)), (ad 6, .inl (eZ X, 30, .inl c102_isTold)), (ad 7, .inl (eI X, 30, .inl c102_waits)), (ad 8, .inl (eI X, 900, .inl c102_readsOf)), (ad 9, .inl (eI X, 30, .inl c102_readMany)), (ad 10, .inl (eI X, 30, .inl c102_heights)), (ad 11, .inl (eI X, 30, .inl v_oldValues)), (ad 12, .inl (eZ X, 30, .inl v_isOldTold)), (ad 13, .inl (eI X, 30, .inl v_oldReads)), (ad 14, .inl (eI X, 100, .inl v_undos)), (ad 15, .inl (eI X, 103, .inl v_undoAside)), (ad 16, .inl (eI X, 4, .inl v_formula)), (ad 17, .inl (eZ X, 2, .inl v_isKept)), (ad 18, .inl (eI X, 4, .inl v_lanes)), (ad 19, .inl (eI X, 4, .inl v_lengths)), (ad 20, .inl (eI X, 160, .inl v_items))]) C hW 0 rfl rfl iwX8 tyX8_ok nmX8 24 (by decide) w_fl_X8_142 rfl (tyX8_ok 24 (by decide)) rfl rfl (Nat.le_of_ble_eq_true rfl) rfl dX8_text_107 (fun H L hW => ?_)
      refine r_aload_n C hl 0 dX8_text_110 rfl rfl ?_
      refine r_iconst (v := 0) C dX8_text_111 (by decide) ?_
      refine r_put (ws' := [(ad 0, .inr (8, [.ref (ad 1), .ref (ad 2), .int (0 : Int32), .int v_broken, .int v_broken, .int v_brokenAt, .int v_spot, .int v_here, .int v_token, .int v_number, .ref (ad 3), .ref (ad 4), .ref (ad 5), .ref (ad 6), .ref (ad 7), .ref (ad 8), .ref (ad 9), .ref (ad 10), .int v_isStarted, .ref (ad 11), .ref (ad 12), .ref (ad 13), .int v_evaluated, .int v_moved, .int (0 : Int32), .ref (ad 14), .int (0 : Int32), .ref (ad 15), .ref (ad 16), .ref (ad 17), .ref (ad 18), .ref (ad 19), .ref (ad 20), .int v_torn, .int v_isAsideChanged])), (ad 1, .inl (eI X, 720, .inl c98_state)), (ad 2, .inl (eI X, 320, .inl v_tape)), (ad 3, .inl (eI X, 9, .inl v_ends)), (ad 4, .inl (eI X, 27, .inl v_letters)), (ad 5, .inl (eI X, 30, .inl c102_values)), (ad 6, .inl (eZ X, 30, .inl c102_isTold)), (ad 7, .inl (eI X, 30, .inl c102_waits)), (ad 8, .inl (eI X, 900, .inl c102_readsOf)), (ad 9, .inl (eI X, 30, .inl c102_readMany)), (ad 10, .inl (eI X, 30, .inl c102_heights)), (ad 11, .inl (eI X, 30, .inl v_oldValues)), (ad 12, .inl (eZ X, 30, .inl v_isOldTold)), (ad 13, .inl (eI X, 30, .inl v_oldReads)), (ad 14, .inl (eI X, 100, .inl v_undos)), (ad 15, .inl (eI X, 103, .inl v_undoAside)), (ad 16, .inl (eI X, 4, .inl v_formula)), (ad 17, .inl (eZ X, 2, .inl v_isKept)), (ad 18, .inl (eI X, 4, .inl v_lanes)), (ad 19, .inl (eI X, 4, .inl v_lengths)), (ad 20, .inl (eI X, 160, .inl v_items))]) C hW 0 rfl rfl iwX8 tyX8_ok nmX8 26 (by decide) w_fl_X8_146 rfl (tyX8_ok 26 (by decide)) rfl rfl (Nat.le_of_ble_eq_true rfl) rfl dX8_text_112 (fun H L hW => ?_)
      refine r_aload_n C hl 0 dX8_text_115 rfl rfl ?_
      refine r_get C hW 0 rfl rfl iwX8 29 (by decide) w_fl_X8_59 rfl dX8_text_116 ?_
      refine r_iconst (v := 0) C dX8_text_119 (by decide) ?_
      refine r_iconst (v := 0) C dX8_text_120 (by decide) ?_
      obtain ⟨w121, e121, g121, h⟩ := wr_some h
      refine r_zast (ws' := [(ad 0, .inr (8, [.ref (ad 1), .ref (ad 2), .int (0 : Int32), .int v_broken, .int v_broken, .int v_brokenAt, .int v_spot, .int v_here, .int v_token, .int v_number, .ref (ad 3), .ref (ad 4), .ref (ad 5), .ref (ad 6), .ref (ad 7), .ref (ad 8), .ref (ad 9), .ref (ad 10), .int v_isStarted, .ref (ad 11), .ref (ad 12), .ref (ad 13), .int v_evaluated, .int v_moved, .int (0 : Int32), .ref (ad 14), .int (0 : Int32), .ref (ad 15), .ref (ad 16), .ref (ad 17), .ref (ad 18), .ref (ad 19), .ref (ad 20), .int v_torn, .int v_isAsideChanged])), (ad 1, .inl (eI X, 720, .inl c98_state)), (ad 2, .inl (eI X, 320, .inl v_tape)), (ad 3, .inl (eI X, 9, .inl v_ends)), (ad 4, .inl (eI X, 27, .inl v_letters)), (ad 5, .inl (eI X, 30, .inl c102_values)), (ad 6, .inl (eZ X, 30, .inl c102_isTold)), (ad 7, .inl (eI X, 30, .inl c102_waits)), (ad 8, .inl (eI X, 900, .inl c102_readsOf)), (ad 9, .inl (eI X, 30, .inl c102_readMany)), (ad 10, .inl (eI X, 30, .inl c102_heights)), (ad 11, .inl (eI X, 30, .inl v_oldValues)), (ad 12, .inl (eZ X, 30, .inl v_isOldTold)), (ad 13, .inl (eI X, 30, .inl v_oldReads)), (ad 14, .inl (eI X, 100, .inl v_undos)), (ad 15, .inl (eI X, 103, .inl v_undoAside)), (ad 16, .inl (eI X, 4, .inl v_formula)), (ad 17, .inl (eZ X, 2, .inl w121)), (ad 18, .inl (eI X, 4, .inl v_lanes)), (ad 19, .inl (eI X, 4, .inl v_lengths)), (ad 20, .inl (eI X, 160, .inl v_items))]) C hW 17 rfl g121 e121 rfl dX8_text_121 (fun H L hW => ?_)
      refine r_aload_n C hl 0 dX8_text_122 rfl rfl ?_
      refine r_get C hW 0 rfl rfl iwX8 29 (by decide) w_fl_X8_59 rfl dX8_text_123 ?_
      refine r_iconst (v := 1) C dX8_text_126 (by decide) ?_
      refine r_iconst (v := 0) C dX8_text_127 (by decide) ?_
      obtain ⟨w128, e128, g128, h⟩ := wr_some h
      refine r_zast (ws' := [(ad 0, .inr (8, [.ref (ad 1), .ref (ad 2), .int (0 : Int32), .int v_broken, .int v_broken, .int v_brokenAt, .int v_spot, .int v_here, .int v_token, .int v_number, .ref (ad 3), .ref (ad 4), .ref (ad 5), .ref (ad 6), .ref (ad 7), .ref (ad 8), .ref (ad 9), .ref (ad 10), .int v_isStarted, .ref (ad 11), .ref (ad 12), .ref (ad 13), .int v_evaluated, .int v_moved, .int (0 : Int32), .ref (ad 14), .int (0 : Int32), .ref (ad 15), .ref (ad 16), .ref (ad 17), .ref (ad 18), .ref (ad 19), .ref (ad 20), .int v_torn, .int v_isAsideChanged])), (ad 1, .inl (eI X, 720, .inl c98_state)), (ad 2, .inl (eI X, 320, .inl v_tape)), (ad 3, .inl (eI X, 9, .inl v_ends)), (ad 4, .inl (eI X, 27, .inl v_letters)), (ad 5, .inl (eI X, 30, .inl c102_values)), (ad 6, .inl (eZ X, 30, .inl c102_isTold)), (ad 7, .inl (eI X, 30, .inl c102_waits)), (ad 8, .inl (eI X, 900, .inl c102_readsOf)), (ad 9, .inl (eI X, 30, .inl c102_readMany)), (ad 10, .inl (eI X, 30, .inl c102_heights)), (ad 11, .inl (eI X, 30, .inl v_oldValues)), (ad 12, .inl (eZ X, 30, .inl v_isOldTold)), (ad 13, .inl (eI X, 30, .inl v_oldReads)), (ad 14, .inl (eI X, 100, .inl v_undos)), (ad 15, .inl (eI X, 103, .inl v_undoAside)), (ad 16, .inl (eI X, 4, .inl v_formula)), (ad 17, .inl (eZ X, 2, .inl w128)), (ad 18, .inl (eI X, 4, .inl v_lanes)), (ad 19, .inl (eI X, 4, .inl v_lengths)), (ad 20, .inl (eI X, 160, .inl v_items))]) C hW 17 rfl g128 e128 rfl dX8_text_128 (fun H L hW => ?_)
      refine r_iload_n C hl 1 dX8_text_129 rfl rfl ?_
      exact r_iret C hq hW (by obtain rfl := Option.some.inj h; exact ⟨rfl, rfl⟩) dX8_text_130
    · replace h := iF c82 h
      refine r_bipush (v := -10) C dX8_text_85 (by decide) ?_
      refine r_aload_n C hl 0 dX8_text_87 rfl rfl ?_
      refine r_get C hW 0 rfl rfl iwX8 5 (by decide) w_fl_X8_87 rfl dX8_text_88 ?_
      refine r_isub C dX8_text_91 ?_
      exact r_iret C hq hW (by obtain rfl := Option.some.inj h; exact ⟨rfl, rfl⟩) dX8_text_92
  have K41 : ∀ (v_taped : Int32), ∀ (v_fault : Int32), ∀ (v_values : (Nat → Int32)), ∀ (v_isTold : (Nat → Int32)), ∀ (v_waits : (Nat → Int32)), ∀ (v_readsOf : (Nat → Int32)), ∀ (v_readMany : (Nat → Int32)), ∀ (v_heights : (Nat → Int32)), ∀ (v_isChanged : Int32), ∀ (v_undoMany : Int32), ∀ (v_isKept : (Nat → Int32)), ∀ (n41 : Nat), ∀ (v_state : (Nat → Int32)), ∀ (v_broken : Int32), ∀ (v_brokenAt : Int32), ∀ (v_spot : Int32), ∀ (v_here : Int32), ∀ (v_token : Int32), ∀ (v_number : Int32), ∀ (l1 : Int32), ∀ (H : Heap) (L : List Loc) (ls : Array Slot), Wd X k A [(ad 0, .inr (8, [.ref (ad 1), .ref (ad 2), .int v_taped, .int v_fault, .int v_broken, .int v_brokenAt, .int v_spot, .int v_here, .int v_token, .int v_number, .ref (ad 3), .ref (ad 4), .ref (ad 5), .ref (ad 6), .ref (ad 7), .ref (ad 8), .ref (ad 9), .ref (ad 10), .int v_isStarted, .ref (ad 11), .ref (ad 12), .ref (ad 13), .int v_evaluated, .int v_moved, .int v_isChanged, .ref (ad 14), .int v_undoMany, .ref (ad 15), .ref (ad 16), .ref (ad 17), .ref (ad 18), .ref (ad 19), .ref (ad 20), .int v_torn, .int v_isAsideChanged])), (ad 1, .inl (eI X, 720, .inl v_state)), (ad 2, .inl (eI X, 320, .inl v_tape)), (ad 3, .inl (eI X, 9, .inl v_ends)), (ad 4, .inl (eI X, 27, .inl v_letters)), (ad 5, .inl (eI X, 30, .inl v_values)), (ad 6, .inl (eZ X, 30, .inl v_isTold)), (ad 7, .inl (eI X, 30, .inl v_waits)), (ad 8, .inl (eI X, 900, .inl v_readsOf)), (ad 9, .inl (eI X, 30, .inl v_readMany)), (ad 10, .inl (eI X, 30, .inl v_heights)), (ad 11, .inl (eI X, 30, .inl v_oldValues)), (ad 12, .inl (eZ X, 30, .inl v_isOldTold)), (ad 13, .inl (eI X, 30, .inl v_oldReads)), (ad 14, .inl (eI X, 100, .inl v_undos)), (ad 15, .inl (eI X, 103, .inl v_undoAside)), (ad 16, .inl (eI X, 4, .inl v_formula)), (ad 17, .inl (eZ X, 2, .inl v_isKept)), (ad 18, .inl (eI X, 4, .inl v_lanes)), (ad 19, .inl (eI X, 4, .inl v_lengths)), (ad 20, .inl (eI X, 160, .inl v_items))] H L → lv_has ls 3 [(0, .ref (ad 0)), (1, .int l1)] → lq8 (fX8_text_b41 v_tape v_ends v_letters  v_taped v_fault v_values v_isTold v_waits v_readsOf v_readMany v_heights v_isChanged v_undoMany v_isKept) n41 v_state v_broken v_brokenAt v_spot v_here v_token v_number l1 = some o → Wx X k 0 0 H L 41 ls [] := by
    intro v_taped v_fault v_values v_isTold v_waits v_readsOf v_readMany v_heights v_isChanged v_undoMany v_isKept
    intro n41
    induction n41 with
    | zero => intro v_state v_broken v_brokenAt v_spot v_here v_token v_number l1 H L ls hW hl h; exact lq8_0 h
    | succ n41 ih41 =>
      intro v_state v_broken v_brokenAt v_spot v_here v_token v_number l1 H L ls hW hl h
      rw [lq8_s] at h
      unfold fX8_text_b41 at h
      refine r_aload_n C hl 0 dX8_text_41 rfl rfl ?_
      refine r_get C hW 0 rfl rfl iwX8 4 (by decide) w_fl_X8_81 rfl dX8_text_42 ?_
      refine r_if_ne (tgt := 65) C dX8_text_45 (by decide) (fun c45 => ?_) (fun c45 => ?_)
      · replace h := iF c45 h
        exact K65 v_state v_taped v_fault v_broken v_brokenAt v_spot v_here v_token v_number v_values v_isTold v_waits v_readsOf v_readMany v_heights v_isChanged v_undoMany v_isKept l1 H L ls hW hl h
      · replace h := iT c45 h
        refine r_aload_n C hl 0 dX8_text_48 rfl rfl ?_
        refine r_get C hW 0 rfl rfl iwX8 8 (by decide) w_fl_X8_90 rfl dX8_text_49 ?_
        refine r_if_eq (tgt := 65) C dX8_text_52 (by decide) (fun c52 => ?_) (fun c52 => ?_)
        · replace h := iT c52 h
          exact K65 v_state v_taped v_fault v_broken v_brokenAt v_spot v_here v_token v_number v_values v_isTold v_waits v_readsOf v_readMany v_heights v_isChanged v_undoMany v_isKept l1 H L ls hW hl h
        · replace h := iF c52 h
          refine r_aload_n C hl 0 dX8_text_55 rfl rfl ?_
          obtain ⟨c56_state, c56_broken, c56_brokenAt, c56_spot, c56_here, c56_token, c56_number, h56, h⟩ := bd7_some h
          refine r_V (wr := []) (np := 0) C hl (mX8_readLine X ad  v_state v_tape v_taped v_fault v_broken v_brokenAt v_spot v_here v_token v_number v_ends v_letters v_values v_isTold v_waits v_readsOf v_readMany v_heights v_isStarted v_oldValues v_isOldTold v_oldReads v_evaluated v_moved v_isChanged v_undos v_undoMany v_undoAside v_formula v_isKept v_lanes v_lengths v_items v_torn v_isAsideChanged  (c56_state, c56_broken, c56_brokenAt, c56_spot, c56_here, c56_token, c56_number) h56) hW [0, 1, 2, 3, 4, 5, 6, 7, 8, 9, 10, 11, 12, 13, 14, 15, 16, 17, 18, 19, 20] [] rfl rfl rfl rfl (by decide) 0 rfl rfl w_cd_X8_readLine w_ml_X8_129 w_im_X8_readLine w_sel_X8_readLine w_in_HeightSheetModel (by decide +kernel) rfl ⟨Nat.le_of_ble_eq_true rfl, Nat.le_of_ble_eq_true rfl⟩ ⟨Nat.zero_le _, Nat.zero_le _⟩ (Nat.le_of_ble_eq_true rfl) dX8_text_56 (fun rv w1 H L hp hW => ?_) rfl
          obtain ⟨rfl, rfl⟩ := hp
          replace hW : Wd X k A [(ad 0, .inr (8, [.ref (ad 1), .ref (ad 2), .int v_taped, .int v_fault, .int c56_broken, .int c56_brokenAt, .int c56_spot, .int c56_here, .int c56_token, .int c56_number, .ref (ad 3), .ref (ad 4), .ref (ad 5), .ref (ad 6), .ref (ad 7), .ref (ad 8), .ref (ad 9), .ref (ad 10), .int v_isStarted, .ref (ad 11), .ref (ad 12), .ref (ad 13), .int v_evaluated, .int v_moved, .int v_isChanged, .ref (ad 14), .int v_undoMany, .ref (ad 15), .ref (ad 16), .ref (ad 17), .ref (ad 18), .ref (ad 19), .ref (ad 20), .int v_torn, .int v_isAsideChanged])), (ad 1, .inl (eI X, 720, .inl c56_state)), (ad 2, .inl (eI X, 320, .inl v_tape)), (ad 3, .inl (eI X, 9, .inl v_ends)), (ad 4, .inl (eI X, 27, .inl v_letters)), (ad 5, .inl (eI X, 30, .inl v_values)), (ad 6, .inl (eZ X, 30, .inl v_isTold)), (ad 7, .inl (eI X, 30, .inl v_waits)), (ad 8, .inl (eI X, 900, .inl v_readsOf)), (ad 9, .inl (eI X, 30, .inl v_readMany)), (ad 10, .inl (eI X, 30, .inl v_heights)), (ad 11, .inl (eI X, 30, .inl v_oldValues)), (ad 12, .inl (eZ X, 30, .inl v_isOldTold)), (ad 13, .inl (eI X, 30, .inl v_oldReads)), (ad 14, .inl (eI X, 100, .inl v_undos)), (ad 15, .inl (eI X, 103, .inl v_undoAside)), (ad 16, .inl (eI X, 4, .inl v_formula)), (ad 17, .inl (eZ X, 2, .inl v_isKept)), (ad 18, .inl (eI X, 4, .inl v_lanes)), (ad 19, .inl (eI X, 4, .inl v_lengths)), (ad 20, .inl (eI X, 160, .inl v_items))] H L := hW.sub [0, 1, 2, 3, 4, 5, 6, 7, 8, 9, 10, 11, 12, 13, 14, 15, 16, 17, 18, 19, 20] rfl rfl
          show Wx X k 0 0 H L 59 ls []
          refine r_iinc (j := 1) (v := l1 + (1 : Int32)) (lv' := [(1, .int (l1 + (1 : Int32))), (0, .ref (ad 0))]) C hl dX8_text_59 rfl rfl (by decide) rfl (fun ls hl => ?_)
          refine r_goto (tgt := 41) C dX8_text_62 (by decide) ?_
          exact ih41 c56_state c56_broken c56_brokenAt c56_spot c56_here c56_token c56_number (l1 + (1 : Int32)) H L ls hW (lv_sub hl [1, 0] rfl) h
  have K14 : ∀ (v_taped : Int32), ∀ (v_fault : Int32), ∀ (v_broken : Int32), ∀ (v_brokenAt : Int32), ∀ (v_spot : Int32), ∀ (v_here : Int32), ∀ (v_token : Int32), ∀ (v_number : Int32), ∀ (v_values : (Nat → Int32)), ∀ (v_isTold : (Nat → Int32)), ∀ (v_waits : (Nat → Int32)), ∀ (v_readsOf : (Nat → Int32)), ∀ (v_readMany : (Nat → Int32)), ∀ (v_heights : (Nat → Int32)), ∀ (v_isChanged : Int32), ∀ (v_undoMany : Int32), ∀ (v_isKept : (Nat → Int32)), ∀ (l1 : Int32), ∀ (n14 : Nat), ∀ (v_state : (Nat → Int32)), ∀ (l2 : Int32), ∀ (H : Heap) (L : List Loc) (ls : Array Slot), Wd X k A [(ad 0, .inr (8, [.ref (ad 1), .ref (ad 2), .int v_taped, .int v_fault, .int v_broken, .int v_brokenAt, .int v_spot, .int v_here, .int v_token, .int v_number, .ref (ad 3), .ref (ad 4), .ref (ad 5), .ref (ad 6), .ref (ad 7), .ref (ad 8), .ref (ad 9), .ref (ad 10), .int v_isStarted, .ref (ad 11), .ref (ad 12), .ref (ad 13), .int v_evaluated, .int v_moved, .int v_isChanged, .ref (ad 14), .int v_undoMany, .ref (ad 15), .ref (ad 16), .ref (ad 17), .ref (ad 18), .ref (ad 19), .ref (ad 20), .int v_torn, .int v_isAsideChanged])), (ad 1, .inl (eI X, 720, .inl v_state)), (ad 2, .inl (eI X, 320, .inl v_tape)), (ad 3, .inl (eI X, 9, .inl v_ends)), (ad 4, .inl (eI X, 27, .inl v_letters)), (ad 5, .inl (eI X, 30, .inl v_values)), (ad 6, .inl (eZ X, 30, .inl v_isTold)), (ad 7, .inl (eI X, 30, .inl v_waits)), (ad 8, .inl (eI X, 900, .inl v_readsOf)), (ad 9, .inl (eI X, 30, .inl v_readMany)), (ad 10, .inl (eI X, 30, .inl v_heights)), (ad 11, .inl (eI X, 30, .inl v_oldValues)), (ad 12, .inl (eZ X, 30, .inl v_isOldTold)), (ad 13, .inl (eI X, 30, .inl v_oldReads)), (ad 14, .inl (eI X, 100, .inl v_undos)), (ad 15, .inl (eI X, 103, .inl v_undoAside)), (ad 16, .inl (eI X, 4, .inl v_formula)), (ad 17, .inl (eZ X, 2, .inl v_isKept)), (ad 18, .inl (eI X, 4, .inl v_lanes)), (ad 19, .inl (eI X, 4, .inl v_lengths)), (ad 20, .inl (eI X, 160, .inl v_items))] H L → lv_has ls 3 [(0, .ref (ad 0)), (1, .int l1), (2, .int l2)] → lq2 (fX8_text_b14 v_tape v_ends v_letters  v_taped v_fault v_broken v_brokenAt v_spot v_here v_token v_number v_values v_isTold v_waits v_readsOf v_readMany v_heights v_isChanged v_undoMany v_isKept l1) n14 v_state l2 = some o → Wx X k 0 0 H L 14 ls [] := by
    intro v_taped v_fault v_broken v_brokenAt v_spot v_here v_token v_number v_values v_isTold v_waits v_readsOf v_readMany v_heights v_isChanged v_undoMany v_isKept l1
    intro n14
    induction n14 with
    | zero => intro v_state l2 H L ls hW hl h; exact lq2_0 h
    | succ n14 ih14 =>
      intro v_state l2 H L ls hW hl h
      rw [lq2_s] at h
      unfold fX8_text_b14 at h
      refine r_iload_n C hl 2 dX8_text_14 rfl rfl ?_
      refine r_bipush (v := 120) C dX8_text_15 (by decide) ?_
      refine r_icmp_ge (tgt := 37) C dX8_text_17 (by decide) (fun c17 => ?_) (fun c17 => ?_)
      · replace h := iT c17 h
        refine r_aload_n C hl 0 dX8_text_37 rfl rfl ?_
        obtain ⟨c38_broken, c38_brokenAt, c38_spot, c38_here, c38_token, c38_number, h38, h⟩ := bd6_some h
        refine r_V (wr := []) (np := 0) C hl (mX8_readsOn X ad  v_state v_tape v_taped v_fault v_broken v_brokenAt v_spot v_here v_token v_number v_ends v_letters v_values v_isTold v_waits v_readsOf v_readMany v_heights v_isStarted v_oldValues v_isOldTold v_oldReads v_evaluated v_moved v_isChanged v_undos v_undoMany v_undoAside v_formula v_isKept v_lanes v_lengths v_items v_torn v_isAsideChanged  (c38_broken, c38_brokenAt, c38_spot, c38_here, c38_token, c38_number) h38) hW [0, 1, 2, 3, 4, 5, 6, 7, 8, 9, 10, 11, 12, 13, 14, 15, 16, 17, 18, 19, 20] [] rfl rfl rfl rfl (by decide) 0 rfl rfl w_cd_X8_readsOn w_ml_X8_115 w_im_X8_readsOn w_sel_X8_readsOn w_in_HeightSheetModel (by decide +kernel) rfl ⟨Nat.le_of_ble_eq_true rfl, Nat.le_of_ble_eq_true rfl⟩ ⟨Nat.zero_le _, Nat.zero_le _⟩ (Nat.le_of_ble_eq_true rfl) dX8_text_38 (fun rv w1 H L hp hW => ?_) rfl
        obtain ⟨rfl, rfl⟩ := hp
        replace hW : Wd X k A [(ad 0, .inr (8, [.ref (ad 1), .ref (ad 2), .int v_taped, .int v_fault, .int c38_broken, .int c38_brokenAt, .int c38_spot, .int c38_here, .int c38_token, .int c38_number, .ref (ad 3), .ref (ad 4), .ref (ad 5), .ref (ad 6), .ref (ad 7), .ref (ad 8), .ref (ad 9), .ref (ad 10), .int v_isStarted, .ref (ad 11), .ref (ad 12), .ref (ad 13), .int v_evaluated, .int v_moved, .int v_isChanged, .ref (ad 14), .int v_undoMany, .ref (ad 15), .ref (ad 16), .ref (ad 17), .ref (ad 18), .ref (ad 19), .ref (ad 20), .int v_torn, .int v_isAsideChanged])), (ad 1, .inl (eI X, 720, .inl v_state)), (ad 2, .inl (eI X, 320, .inl v_tape)), (ad 3, .inl (eI X, 9, .inl v_ends)), (ad 4, .inl (eI X, 27, .inl v_letters)), (ad 5, .inl (eI X, 30, .inl v_values)), (ad 6, .inl (eZ X, 30, .inl v_isTold)), (ad 7, .inl (eI X, 30, .inl v_waits)), (ad 8, .inl (eI X, 900, .inl v_readsOf)), (ad 9, .inl (eI X, 30, .inl v_readMany)), (ad 10, .inl (eI X, 30, .inl v_heights)), (ad 11, .inl (eI X, 30, .inl v_oldValues)), (ad 12, .inl (eZ X, 30, .inl v_isOldTold)), (ad 13, .inl (eI X, 30, .inl v_oldReads)), (ad 14, .inl (eI X, 100, .inl v_undos)), (ad 15, .inl (eI X, 103, .inl v_undoAside)), (ad 16, .inl (eI X, 4, .inl v_formula)), (ad 17, .inl (eZ X, 2, .inl v_isKept)), (ad 18, .inl (eI X, 4, .inl v_lanes)), (ad 19, .inl (eI X, 4, .inl v_lengths)), (ad 20, .inl (eI X, 160, .inl v_items))] H L := hW.sub [0, 1, 2, 3, 4, 5, 6, 7, 8, 9, 10, 11, 12, 13, 14, 15, 16, 17, 18, 19, 20] rfl rfl
        show Wx X k 0 0 H L 41 ls []
        exact K41 v_taped v_fault v_values v_isTold v_waits v_readsOf v_readMany v_heights v_isChanged v_undoMany v_isKept fu v_state c38_broken c38_brokenAt c38_spot c38_here c38_token c38_number l1 H L ls hW (lv_sub hl [0, 1] rfl) h
      · replace h := iF c17 h
        refine r_aload_n C hl 0 dX8_text_20 rfl rfl ?_
        refine r_get C hW 0 rfl rfl iwX8 0 (by decide) w_fl_X8_7 rfl dX8_text_21 ?_
        refine r_sipush (v := 360) C dX8_text_24 (by decide) ?_
        refine r_iload_n C hl 2 dX8_text_27 rfl rfl ?_
        refine r_iadd C dX8_text_28 ?_
        refine r_iconst (v := 0) C dX8_text_29 (by decide) ?_
        obtain ⟨w30, e30, g30, h⟩ := wr_some h
        refine r_iast (ws' := [(ad 0, .inr (8, [.ref (ad 1), .ref (ad 2), .int v_taped, .int v_fault, .int v_broken, .int v_brokenAt, .int v_spot, .int v_here, .int v_token, .int v_number, .ref (ad 3), .ref (ad 4), .ref (ad 5), .ref (ad 6), .ref (ad 7), .ref (ad 8), .ref (ad 9), .ref (ad 10), .int v_isStarted, .ref (ad 11), .ref (ad 12), .ref (ad 13), .int v_evaluated, .int v_moved, .int v_isChanged, .ref (ad 14), .int v_undoMany, .ref (ad 15), .ref (ad 16), .ref (ad 17), .ref (ad 18), .ref (ad 19), .ref (ad 20), .int v_torn, .int v_isAsideChanged])), (ad 1, .inl (eI X, 720, .inl w30)), (ad 2, .inl (eI X, 320, .inl v_tape)), (ad 3, .inl (eI X, 9, .inl v_ends)), (ad 4, .inl (eI X, 27, .inl v_letters)), (ad 5, .inl (eI X, 30, .inl v_values)), (ad 6, .inl (eZ X, 30, .inl v_isTold)), (ad 7, .inl (eI X, 30, .inl v_waits)), (ad 8, .inl (eI X, 900, .inl v_readsOf)), (ad 9, .inl (eI X, 30, .inl v_readMany)), (ad 10, .inl (eI X, 30, .inl v_heights)), (ad 11, .inl (eI X, 30, .inl v_oldValues)), (ad 12, .inl (eZ X, 30, .inl v_isOldTold)), (ad 13, .inl (eI X, 30, .inl v_oldReads)), (ad 14, .inl (eI X, 100, .inl v_undos)), (ad 15, .inl (eI X, 103, .inl v_undoAside)), (ad 16, .inl (eI X, 4, .inl v_formula)), (ad 17, .inl (eZ X, 2, .inl v_isKept)), (ad 18, .inl (eI X, 4, .inl v_lanes)), (ad 19, .inl (eI X, 4, .inl v_lengths)), (ad 20, .inl (eI X, 160, .inl v_items))]) C hW 1 rfl g30 e30 rfl dX8_text_30 (fun H L hW => ?_)
        refine r_iinc (j := 2) (v := l2 + (1 : Int32)) (lv' := [(2, .int (l2 + (1 : Int32))), (0, .ref (ad 0)), (1, .int l1)]) C hl dX8_text_31 rfl rfl (by decide) rfl (fun ls hl => ?_)
        refine r_goto (tgt := 14) C dX8_text_34 (by decide) ?_
        exact ih14 w30 (l2 + (1 : Int32)) H L ls hW (lv_sub hl [1, 2, 0] rfl) h
  unfold fX8_text at h
  refine r_aload_n C hl 0 dX8_text_0 rfl rfl ?_
  refine r_iconst (v := 0) C dX8_text_1 (by decide) ?_
  refine r_put (ws' := [(ad 0, .inr (8, [.ref (ad 1), .ref (ad 2), .int v_taped, .int v_fault, .int (0 : Int32), .int v_brokenAt, .int v_spot, .int v_here, .int v_token, .int v_number, .ref (ad 3), .ref (ad 4), .ref (ad 5), .ref (ad 6), .ref (ad 7), .ref (ad 8), .ref (ad 9), .ref (ad 10), .int v_isStarted, .ref (ad 11), .ref (ad 12), .ref (ad 13), .int v_evaluated, .int v_moved, .int v_isChanged, .ref (ad 14), .int v_undoMany, .ref (ad 15), .ref (ad 16), .ref (ad 17), .ref (ad 18), .ref (ad 19), .ref (ad 20), .int v_torn, .int v_isAsideChanged])), (ad 1, .inl (eI X, 720, .inl v_state)), (ad 2, .inl (eI X, 320, .inl v_tape)), (ad 3, .inl (eI X, 9, .inl v_ends)), (ad 4, .inl (eI X, 27, .inl v_letters)), (ad 5, .inl (eI X, 30, .inl v_values)), (ad 6, .inl (eZ X, 30, .inl v_isTold)), (ad 7, .inl (eI X, 30, .inl v_waits)), (ad 8, .inl (eI X, 900, .inl v_readsOf)), (ad 9, .inl (eI X, 30, .inl v_readMany)), (ad 10, .inl (eI X, 30, .inl v_heights)), (ad 11, .inl (eI X, 30, .inl v_oldValues)), (ad 12, .inl (eZ X, 30, .inl v_isOldTold)), (ad 13, .inl (eI X, 30, .inl v_oldReads)), (ad 14, .inl (eI X, 100, .inl v_undos)), (ad 15, .inl (eI X, 103, .inl v_undoAside)), (ad 16, .inl (eI X, 4, .inl v_formula)), (ad 17, .inl (eZ X, 2, .inl v_isKept)), (ad 18, .inl (eI X, 4, .inl v_lanes)), (ad 19, .inl (eI X, 4, .inl v_lengths)), (ad 20, .inl (eI X, 160, .inl v_items))]) C hW 0 rfl rfl iwX8 tyX8_ok nmX8 4 (by decide) w_fl_X8_81 rfl (tyX8_ok 4 (by decide)) rfl rfl (Nat.le_of_ble_eq_true rfl) rfl dX8_text_2 (fun H L hW => ?_)
  refine r_aload_n C hl 0 dX8_text_5 rfl rfl ?_
  refine r_iconst (v := 0) C dX8_text_6 (by decide) ?_
  refine r_put (ws' := [(ad 0, .inr (8, [.ref (ad 1), .ref (ad 2), .int v_taped, .int v_fault, .int (0 : Int32), .int v_brokenAt, .int (0 : Int32), .int v_here, .int v_token, .int v_number, .ref (ad 3), .ref (ad 4), .ref (ad 5), .ref (ad 6), .ref (ad 7), .ref (ad 8), .ref (ad 9), .ref (ad 10), .int v_isStarted, .ref (ad 11), .ref (ad 12), .ref (ad 13), .int v_evaluated, .int v_moved, .int v_isChanged, .ref (ad 14), .int v_undoMany, .ref (ad 15), .ref (ad 16), .ref (ad 17), .ref (ad 18), .ref (ad 19), .ref (ad 20), .int v_torn, .int v_isAsideChanged])), (ad 1, .inl (eI X, 720, .inl v_state)), (ad 2, .inl (eI X, 320, .inl v_tape)), (ad 3, .inl (eI X, 9, .inl v_ends)), (ad 4, .inl (eI X, 27, .inl v_letters)), (ad 5, .inl (eI X, 30, .inl v_values)), (ad 6, .inl (eZ X, 30, .inl v_isTold)), (ad 7, .inl (eI X, 30, .inl v_waits)), (ad 8, .inl (eI X, 900, .inl v_readsOf)), (ad 9, .inl (eI X, 30, .inl v_readMany)), (ad 10, .inl (eI X, 30, .inl v_heights)), (ad 11, .inl (eI X, 30, .inl v_oldValues)), (ad 12, .inl (eZ X, 30, .inl v_isOldTold)), (ad 13, .inl (eI X, 30, .inl v_oldReads)), (ad 14, .inl (eI X, 100, .inl v_undos)), (ad 15, .inl (eI X, 103, .inl v_undoAside)), (ad 16, .inl (eI X, 4, .inl v_formula)), (ad 17, .inl (eZ X, 2, .inl v_isKept)), (ad 18, .inl (eI X, 4, .inl v_lanes)), (ad 19, .inl (eI X, 4, .inl v_lengths)), (ad 20, .inl (eI X, 160, .inl v_items))]) C hW 0 rfl rfl iwX8 tyX8_ok nmX8 6 (by decide) w_fl_X8_93 rfl (tyX8_ok 6 (by decide)) rfl rfl (Nat.le_of_ble_eq_true rfl) rfl dX8_text_7 (fun H L hW => ?_)
  refine r_iconst (v := 0) C dX8_text_10 (by decide) ?_
  refine r_istore_n (lv' := [(1, .int (0 : Int32)), (0, .ref (ad 0))]) C hl dX8_text_11 rfl (by decide) rfl (fun ls hl => ?_)
  refine r_iconst (v := 0) C dX8_text_12 (by decide) ?_
  refine r_istore_n (lv' := [(2, .int (0 : Int32)), (1, .int (0 : Int32)), (0, .ref (ad 0))]) C hl dX8_text_13 rfl (by decide) rfl (fun ls hl => ?_)
  exact K14 v_taped v_fault (0 : Int32) v_brokenAt (0 : Int32) v_here v_token v_number v_values v_isTold v_waits v_readsOf v_readMany v_heights v_isChanged v_undoMany v_isKept (0 : Int32) fu v_state (0 : Int32) H L ls hW (lv_sub hl [2, 1, 0] rfl) h
def fX8_fault (v_fault : Int32) : Option (Int32) :=
  some v_fault
set_option maxRecDepth 100000 in
set_option maxHeartbeats 8000000 in
theorem mX8_fault (X : Ev) (ad : Nat → Nat) (v_state : (Nat → Int32)) (v_tape : (Nat → Int32)) (v_taped : Int32) (v_fault : Int32) (v_broken : Int32) (v_brokenAt : Int32) (v_spot : Int32) (v_here : Int32) (v_token : Int32) (v_number : Int32) (v_ends : (Nat → Int32)) (v_letters : (Nat → Int32)) (v_values : (Nat → Int32)) (v_isTold : (Nat → Int32)) (v_waits : (Nat → Int32)) (v_readsOf : (Nat → Int32)) (v_readMany : (Nat → Int32)) (v_heights : (Nat → Int32)) (v_isStarted : Int32) (v_oldValues : (Nat → Int32)) (v_isOldTold : (Nat → Int32)) (v_oldReads : (Nat → Int32)) (v_evaluated : Int32) (v_moved : Int32) (v_isChanged : Int32) (v_undos : (Nat → Int32)) (v_undoMany : Int32) (v_undoAside : (Nat → Int32)) (v_formula : (Nat → Int32)) (v_isKept : (Nat → Int32)) (v_lanes : (Nat → Int32)) (v_lengths : (Nat → Int32)) (v_items : (Nat → Int32)) (v_torn : Int32) (v_isAsideChanged : Int32)  (o : Int32) (h : fX8_fault v_fault = some o) : Ctr X yX8_fault cX8_fault 1 (some .int) 0 0 0 0 [.ref (ad 0)] [(ad 0, .inr (8, [.ref (ad 1), .ref (ad 2), .int v_taped, .int v_fault, .int v_broken, .int v_brokenAt, .int v_spot, .int v_here, .int v_token, .int v_number, .ref (ad 3), .ref (ad 4), .ref (ad 5), .ref (ad 6), .ref (ad 7), .ref (ad 8), .ref (ad 9), .ref (ad 10), .int v_isStarted, .ref (ad 11), .ref (ad 12), .ref (ad 13), .int v_evaluated, .int v_moved, .int v_isChanged, .ref (ad 14), .int v_undoMany, .ref (ad 15), .ref (ad 16), .ref (ad 17), .ref (ad 18), .ref (ad 19), .ref (ad 20), .int v_torn, .int v_isAsideChanged])), (ad 1, .inl (eI X, 720, .inl v_state)), (ad 2, .inl (eI X, 320, .inl v_tape)), (ad 3, .inl (eI X, 9, .inl v_ends)), (ad 4, .inl (eI X, 27, .inl v_letters)), (ad 5, .inl (eI X, 30, .inl v_values)), (ad 6, .inl (eZ X, 30, .inl v_isTold)), (ad 7, .inl (eI X, 30, .inl v_waits)), (ad 8, .inl (eI X, 900, .inl v_readsOf)), (ad 9, .inl (eI X, 30, .inl v_readMany)), (ad 10, .inl (eI X, 30, .inl v_heights)), (ad 11, .inl (eI X, 30, .inl v_oldValues)), (ad 12, .inl (eZ X, 30, .inl v_isOldTold)), (ad 13, .inl (eI X, 30, .inl v_oldReads)), (ad 14, .inl (eI X, 100, .inl v_undos)), (ad 15, .inl (eI X, 103, .inl v_undoAside)), (ad 16, .inl (eI X, 4, .inl v_formula)), (ad 17, .inl (eZ X, 2, .inl v_isKept)), (ad 18, .inl (eI X, 4, .inl v_lanes)), (ad 19, .inl (eI X, 4, .inl v_lengths)), (ad 20, .inl (eI X, 160, .inl v_items))] (De (some (.int o)) [(ad 0, .inr (8, [.ref (ad 1), .ref (ad 2), .int v_taped, .int v_fault, .int v_broken, .int v_brokenAt, .int v_spot, .int v_here, .int v_token, .int v_number, .ref (ad 3), .ref (ad 4), .ref (ad 5), .ref (ad 6), .ref (ad 7), .ref (ad 8), .ref (ad 9), .ref (ad 10), .int v_isStarted, .ref (ad 11), .ref (ad 12), .ref (ad 13), .int v_evaluated, .int v_moved, .int v_isChanged, .ref (ad 14), .int v_undoMany, .ref (ad 15), .ref (ad 16), .ref (ad 17), .ref (ad 18), .ref (ad 19), .ref (ad 20), .int v_torn, .int v_isAsideChanged])), (ad 1, .inl (eI X, 720, .inl v_state)), (ad 2, .inl (eI X, 320, .inl v_tape)), (ad 3, .inl (eI X, 9, .inl v_ends)), (ad 4, .inl (eI X, 27, .inl v_letters)), (ad 5, .inl (eI X, 30, .inl v_values)), (ad 6, .inl (eZ X, 30, .inl v_isTold)), (ad 7, .inl (eI X, 30, .inl v_waits)), (ad 8, .inl (eI X, 900, .inl v_readsOf)), (ad 9, .inl (eI X, 30, .inl v_readMany)), (ad 10, .inl (eI X, 30, .inl v_heights)), (ad 11, .inl (eI X, 30, .inl v_oldValues)), (ad 12, .inl (eZ X, 30, .inl v_isOldTold)), (ad 13, .inl (eI X, 30, .inl v_oldReads)), (ad 14, .inl (eI X, 100, .inl v_undos)), (ad 15, .inl (eI X, 103, .inl v_undoAside)), (ad 16, .inl (eI X, 4, .inl v_formula)), (ad 17, .inl (eZ X, 2, .inl v_isKept)), (ad 18, .inl (eI X, 4, .inl v_lanes)), (ad 19, .inl (eI X, 4, .inl v_lengths)), (ad 20, .inl (eI X, 160, .inl v_items))]) := by
  refine Ctr.start (by decide) (Nat.le_of_ble_eq_true rfl) (fun k A ls C hq hin hW hl => ?_)
  replace C : Cx X k cX8_fault 1 (some .int) RX8 A 0 0 0 0 := C
  replace hl : lv_has ls 1 [(0, .ref (ad 0))] := hl
  suffices hh : ∀ (H : Heap) (L : List Loc), Wd X k A [(ad 0, .inr (8, [.ref (ad 1), .ref (ad 2), .int v_taped, .int v_fault, .int v_broken, .int v_brokenAt, .int v_spot, .int v_here, .int v_token, .int v_number, .ref (ad 3), .ref (ad 4), .ref (ad 5), .ref (ad 6), .ref (ad 7), .ref (ad 8), .ref (ad 9), .ref (ad 10), .int v_isStarted, .ref (ad 11), .ref (ad 12), .ref (ad 13), .int v_evaluated, .int v_moved, .int v_isChanged, .ref (ad 14), .int v_undoMany, .ref (ad 15), .ref (ad 16), .ref (ad 17), .ref (ad 18), .ref (ad 19), .ref (ad 20), .int v_torn, .int v_isAsideChanged])), (ad 1, .inl (eI X, 720, .inl v_state)), (ad 2, .inl (eI X, 320, .inl v_tape)), (ad 3, .inl (eI X, 9, .inl v_ends)), (ad 4, .inl (eI X, 27, .inl v_letters)), (ad 5, .inl (eI X, 30, .inl v_values)), (ad 6, .inl (eZ X, 30, .inl v_isTold)), (ad 7, .inl (eI X, 30, .inl v_waits)), (ad 8, .inl (eI X, 900, .inl v_readsOf)), (ad 9, .inl (eI X, 30, .inl v_readMany)), (ad 10, .inl (eI X, 30, .inl v_heights)), (ad 11, .inl (eI X, 30, .inl v_oldValues)), (ad 12, .inl (eZ X, 30, .inl v_isOldTold)), (ad 13, .inl (eI X, 30, .inl v_oldReads)), (ad 14, .inl (eI X, 100, .inl v_undos)), (ad 15, .inl (eI X, 103, .inl v_undoAside)), (ad 16, .inl (eI X, 4, .inl v_formula)), (ad 17, .inl (eZ X, 2, .inl v_isKept)), (ad 18, .inl (eI X, 4, .inl v_lanes)), (ad 19, .inl (eI X, 4, .inl v_lengths)), (ad 20, .inl (eI X, 160, .inl v_items))] H L → Wx X k 0 0 H L 0 ls [] from hh _ _ hW
  clear hW
  intro H L hW
  unfold fX8_fault at h
  refine r_aload_n C hl 0 dX8_fault_0 rfl rfl ?_
  refine r_get C hW 0 rfl rfl iwX8 3 (by decide) w_fl_X8_132 rfl dX8_fault_1 ?_
  exact r_iret C hq hW (by obtain rfl := Option.some.inj h; exact ⟨rfl, rfl⟩) dX8_fault_4
def fX8_isCell (p0 : Int32) : Option (Int32) :=
  bd1 (fX8_in (p0.toInt64) (0 : Int64) (29 : Int64)) fun r6 =>
  ck (r6 = 0 ∨ r6 = 1) <|
  some r6
set_option maxRecDepth 100000 in
set_option maxHeartbeats 8000000 in
theorem mX8_isCell (X : Ev)   (p0 : Int32) (o : Int32) (h : fX8_isCell p0 = some o) : Ctr X yX8_isCell cX8_isCell 1 (some .boolean) 1 25 0 0 [.int p0] [] (De (some (.int o)) []) := by
  refine Ctr.start (by decide) (Nat.le_of_ble_eq_true rfl) (fun k A ls C hq hin hW hl => ?_)
  replace C : Cx X k cX8_isCell 1 (some .boolean) RX8 A 1 25 0 0 := C
  replace hl : lv_has ls 1 [(0, .int p0)] := hl
  suffices hh : ∀ (H : Heap) (L : List Loc), Wd X k A [] H L → Wx X k 0 0 H L 0 ls [] from hh _ _ hW
  clear hW
  intro H L hW
  unfold fX8_isCell at h
  refine r_iload_n C hl 0 dX8_isCell_0 rfl rfl ?_
  refine r_i2l C dX8_isCell_1 ?_
  refine r_lconst (v := 0) C dX8_isCell_2 (by decide) ?_
  refine r_ldc2 C w_cL_X8_172 dX8_isCell_3 ?_
  obtain ⟨r6, h6, h⟩ := bd1_some h
  refine r_S (wr := []) (np := 3) C hl (mX8_in X    (p0.toInt64) (0 : Int64) (29 : Int64) r6 h6) hW [] [] rfl rfl rfl rfl (by decide) w_cd_X8_in w_ml_X8_73 w_st_X8_in w_in_HeightSheetModel (by decide +kernel) rfl ⟨Nat.le_of_ble_eq_true rfl, Nat.le_of_ble_eq_true rfl⟩ ⟨Nat.zero_le _, Nat.zero_le _⟩ (Nat.le_of_ble_eq_true rfl) dX8_isCell_6 (fun rv w1 H L hp hW => ?_) rfl
  obtain ⟨rfl, rfl⟩ := hp
  replace hW : Wd X k A [] H L := hW.sub [] rfl rfl
  show Wx X k 0 0 H L 9 ls [.int r6]
  obtain ⟨z9, h⟩ := ck_some h
  exact r_zret C hq hW (zb_n z9) (by obtain rfl := Option.some.inj h; exact ⟨rfl, rfl⟩) dX8_isCell_9
def fX8_circleOf_b4 (v_isTold : (Nat → Int32)) (v_waits : (Nat → Int32)) (p1 : Int32)   (self4 : Int32 → Int32 → Option (Int32)) (l2 : Int32) (l3 : Int32) : Option (Int32) :=
  if (30 : Int32) < l3 then
    some (0 : Int32)
  else
    rd v_isTold 30 l2 fun x15 =>
    if x15 = (0 : Int32) then
      rd v_waits 30 l2 fun x26 =>
      if x26 = p1 then
        some l3
      else
        self4 x26 (l3 + (1 : Int32))
    else
      some (0 : Int32)
def fX8_circleOf (v_isTold : (Nat → Int32)) (v_waits : (Nat → Int32)) (p1 : Int32) : Option (Int32) :=
  lq2 (fX8_circleOf_b4 v_isTold v_waits p1  ) fu p1 (1 : Int32)
set_option maxRecDepth 100000 in
set_option maxHeartbeats 8000000 in
theorem mX8_circleOf (X : Ev) (ad : Nat → Nat) (v_state : (Nat → Int32)) (v_tape : (Nat → Int32)) (v_taped : Int32) (v_fault : Int32) (v_broken : Int32) (v_brokenAt : Int32) (v_spot : Int32) (v_here : Int32) (v_token : Int32) (v_number : Int32) (v_ends : (Nat → Int32)) (v_letters : (Nat → Int32)) (v_values : (Nat → Int32)) (v_isTold : (Nat → Int32)) (v_waits : (Nat → Int32)) (v_readsOf : (Nat → Int32)) (v_readMany : (Nat → Int32)) (v_heights : (Nat → Int32)) (v_isStarted : Int32) (v_oldValues : (Nat → Int32)) (v_isOldTold : (Nat → Int32)) (v_oldReads : (Nat → Int32)) (v_evaluated : Int32) (v_moved : Int32) (v_isChanged : Int32) (v_undos : (Nat → Int32)) (v_undoMany : Int32) (v_undoAside : (Nat → Int32)) (v_formula : (Nat → Int32)) (v_isKept : (Nat → Int32)) (v_lanes : (Nat → Int32)) (v_lengths : (Nat → Int32)) (v_items : (Nat → Int32)) (v_torn : Int32) (v_isAsideChanged : Int32) (p1 : Int32) (o : Int32) (h : fX8_circleOf v_isTold v_waits p1 = some o) : Ctr X yX8_circleOf cX8_circleOf 4 (some .int) 0 0 0 0 [.ref (ad 0), .int p1] [(ad 0, .inr (8, [.ref (ad 1), .ref (ad 2), .int v_taped, .int v_fault, .int v_broken, .int v_brokenAt, .int v_spot, .int v_here, .int v_token, .int v_number, .ref (ad 3), .ref (ad 4), .ref (ad 5), .ref (ad 6), .ref (ad 7), .ref (ad 8), .ref (ad 9), .ref (ad 10), .int v_isStarted, .ref (ad 11), .ref (ad 12), .ref (ad 13), .int v_evaluated, .int v_moved, .int v_isChanged, .ref (ad 14), .int v_undoMany, .ref (ad 15), .ref (ad 16), .ref (ad 17), .ref (ad 18), .ref (ad 19), .ref (ad 20), .int v_torn, .int v_isAsideChanged])), (ad 1, .inl (eI X, 720, .inl v_state)), (ad 2, .inl (eI X, 320, .inl v_tape)), (ad 3, .inl (eI X, 9, .inl v_ends)), (ad 4, .inl (eI X, 27, .inl v_letters)), (ad 5, .inl (eI X, 30, .inl v_values)), (ad 6, .inl (eZ X, 30, .inl v_isTold)), (ad 7, .inl (eI X, 30, .inl v_waits)), (ad 8, .inl (eI X, 900, .inl v_readsOf)), (ad 9, .inl (eI X, 30, .inl v_readMany)), (ad 10, .inl (eI X, 30, .inl v_heights)), (ad 11, .inl (eI X, 30, .inl v_oldValues)), (ad 12, .inl (eZ X, 30, .inl v_isOldTold)), (ad 13, .inl (eI X, 30, .inl v_oldReads)), (ad 14, .inl (eI X, 100, .inl v_undos)), (ad 15, .inl (eI X, 103, .inl v_undoAside)), (ad 16, .inl (eI X, 4, .inl v_formula)), (ad 17, .inl (eZ X, 2, .inl v_isKept)), (ad 18, .inl (eI X, 4, .inl v_lanes)), (ad 19, .inl (eI X, 4, .inl v_lengths)), (ad 20, .inl (eI X, 160, .inl v_items))] (De (some (.int o)) [(ad 0, .inr (8, [.ref (ad 1), .ref (ad 2), .int v_taped, .int v_fault, .int v_broken, .int v_brokenAt, .int v_spot, .int v_here, .int v_token, .int v_number, .ref (ad 3), .ref (ad 4), .ref (ad 5), .ref (ad 6), .ref (ad 7), .ref (ad 8), .ref (ad 9), .ref (ad 10), .int v_isStarted, .ref (ad 11), .ref (ad 12), .ref (ad 13), .int v_evaluated, .int v_moved, .int v_isChanged, .ref (ad 14), .int v_undoMany, .ref (ad 15), .ref (ad 16), .ref (ad 17), .ref (ad 18), .ref (ad 19), .ref (ad 20), .int v_torn, .int v_isAsideChanged])), (ad 1, .inl (eI X, 720, .inl v_state)), (ad 2, .inl (eI X, 320, .inl v_tape)), (ad 3, .inl (eI X, 9, .inl v_ends)), (ad 4, .inl (eI X, 27, .inl v_letters)), (ad 5, .inl (eI X, 30, .inl v_values)), (ad 6, .inl (eZ X, 30, .inl v_isTold)), (ad 7, .inl (eI X, 30, .inl v_waits)), (ad 8, .inl (eI X, 900, .inl v_readsOf)), (ad 9, .inl (eI X, 30, .inl v_readMany)), (ad 10, .inl (eI X, 30, .inl v_heights)), (ad 11, .inl (eI X, 30, .inl v_oldValues)), (ad 12, .inl (eZ X, 30, .inl v_isOldTold)), (ad 13, .inl (eI X, 30, .inl v_oldReads)), (ad 14, .inl (eI X, 100, .inl v_undos)), (ad 15, .inl (eI X, 103, .inl v_undoAside)), (ad 16, .inl (eI X, 4, .inl v_formula)), (ad 17, .inl (eZ X, 2, .inl v_isKept)), (ad 18, .inl (eI X, 4, .inl v_lanes)), (ad 19, .inl (eI X, 4, .inl v_lengths)), (ad 20, .inl (eI X, 160, .inl v_items))]) := by
  refine Ctr.start (by decide) (Nat.le_of_ble_eq_true rfl) (fun k A ls C hq hin hW hl => ?_)
  replace C : Cx X k cX8_circleOf 4 (some .int) RX8 A 0 0 0 0 := C
  replace hl : lv_has ls 4 [(0, .ref (ad 0)), (1, .int p1)] := hl
  suffices hh : ∀ (H : Heap) (L : List Loc), Wd X k A [(ad 0, .inr (8, [.ref (ad 1), .ref (ad 2), .int v_taped, .int v_fault, .int v_broken, .int v_brokenAt, .int v_spot, .int v_here, .int v_token, .int v_number, .ref (ad 3), .ref (ad 4), .ref (ad 5), .ref (ad 6), .ref (ad 7), .ref (ad 8), .ref (ad 9), .ref (ad 10), .int v_isStarted, .ref (ad 11), .ref (ad 12), .ref (ad 13), .int v_evaluated, .int v_moved, .int v_isChanged, .ref (ad 14), .int v_undoMany, .ref (ad 15), .ref (ad 16), .ref (ad 17), .ref (ad 18), .ref (ad 19), .ref (ad 20), .int v_torn, .int v_isAsideChanged])), (ad 1, .inl (eI X, 720, .inl v_state)), (ad 2, .inl (eI X, 320, .inl v_tape)), (ad 3, .inl (eI X, 9, .inl v_ends)), (ad 4, .inl (eI X, 27, .inl v_letters)), (ad 5, .inl (eI X, 30, .inl v_values)), (ad 6, .inl (eZ X, 30, .inl v_isTold)), (ad 7, .inl (eI X, 30, .inl v_waits)), (ad 8, .inl (eI X, 900, .inl v_readsOf)), (ad 9, .inl (eI X, 30, .inl v_readMany)), (ad 10, .inl (eI X, 30, .inl v_heights)), (ad 11, .inl (eI X, 30, .inl v_oldValues)), (ad 12, .inl (eZ X, 30, .inl v_isOldTold)), (ad 13, .inl (eI X, 30, .inl v_oldReads)), (ad 14, .inl (eI X, 100, .inl v_undos)), (ad 15, .inl (eI X, 103, .inl v_undoAside)), (ad 16, .inl (eI X, 4, .inl v_formula)), (ad 17, .inl (eZ X, 2, .inl v_isKept)), (ad 18, .inl (eI X, 4, .inl v_lanes)), (ad 19, .inl (eI X, 4, .inl v_lengths)), (ad 20, .inl (eI X, 160, .inl v_items))] H L → Wx X k 0 0 H L 0 ls [] from hh _ _ hW
  clear hW
  intro H L hW
  have K4 : ∀ (n4 : Nat), ∀ (l2 : Int32), ∀ (l3 : Int32), ∀ (H : Heap) (L : List Loc) (ls : Array Slot), Wd X k A [(ad 0, .inr (8, [.ref (ad 1), .ref (ad 2), .int v_taped, .int v_fault, .int v_broken, .int v_brokenAt, .int v_spot, .int v_here, .int v_token, .int v_number, .ref (ad 3), .ref (ad 4), .ref (ad 5), .ref (ad 6), .ref (ad 7), .ref (ad 8), .ref (ad 9), .ref (ad 10), .int v_isStarted, .ref (ad 11), .ref (ad 12), .ref (ad 13), .int v_evaluated, .int v_moved, .int v_isChanged, .ref (ad 14), .int v_undoMany, .ref (ad 15), .ref (ad 16), .ref (ad 17), .ref (ad 18), .ref (ad 19), .ref (ad 20), .int v_torn, .int v_isAsideChanged])), (ad 1, .inl (eI X, 720, .inl v_state)), (ad 2, .inl (eI X, 320, .inl v_tape)), (ad 3, .inl (eI X, 9, .inl v_ends)), (ad 4, .inl (eI X, 27, .inl v_letters)), (ad 5, .inl (eI X, 30, .inl v_values)), (ad 6, .inl (eZ X, 30, .inl v_isTold)), (ad 7, .inl (eI X, 30, .inl v_waits)), (ad 8, .inl (eI X, 900, .inl v_readsOf)), (ad 9, .inl (eI X, 30, .inl v_readMany)), (ad 10, .inl (eI X, 30, .inl v_heights)), (ad 11, .inl (eI X, 30, .inl v_oldValues)), (ad 12, .inl (eZ X, 30, .inl v_isOldTold)), (ad 13, .inl (eI X, 30, .inl v_oldReads)), (ad 14, .inl (eI X, 100, .inl v_undos)), (ad 15, .inl (eI X, 103, .inl v_undoAside)), (ad 16, .inl (eI X, 4, .inl v_formula)), (ad 17, .inl (eZ X, 2, .inl v_isKept)), (ad 18, .inl (eI X, 4, .inl v_lanes)), (ad 19, .inl (eI X, 4, .inl v_lengths)), (ad 20, .inl (eI X, 160, .inl v_items))] H L → lv_has ls 4 [(0, .ref (ad 0)), (1, .int p1), (2, .int l2), (3, .int l3)] → lq2 (fX8_circleOf_b4 v_isTold v_waits p1  ) n4 l2 l3 = some o → Wx X k 0 0 H L 4 ls [] := by
    intro n4
    induction n4 with
    | zero => intro l2 l3 H L ls hW hl h; exact lq2_0 h
    | succ n4 ih4 =>
      intro l2 l3 H L ls hW hl h
      rw [lq2_s] at h
      unfold fX8_circleOf_b4 at h
      refine r_iload_n C hl 3 dX8_circleOf_4 rfl rfl ?_
      refine r_bipush (v := 30) C dX8_circleOf_5 (by decide) ?_
      refine r_icmp_gt (tgt := 41) C dX8_circleOf_7 (by decide) (fun c7 => ?_) (fun c7 => ?_)
      · replace h := iT c7 h
        refine r_iconst (v := 0) C dX8_circleOf_41 (by decide) ?_
        exact r_iret C hq hW (by obtain rfl := Option.some.inj h; exact ⟨rfl, rfl⟩) dX8_circleOf_42
      · replace h := iF c7 h
        refine r_aload_n C hl 0 dX8_circleOf_10 rfl rfl ?_
        refine r_get C hW 0 rfl rfl iwX8 13 (by decide) w_fl_X8_25 rfl dX8_circleOf_11 ?_
        refine r_iload_n C hl 2 dX8_circleOf_14 rfl rfl ?_
        obtain ⟨x15, e15, g15, h⟩ := rd_some h
        refine r_zald C hW 6 rfl g15 e15 dX8_circleOf_15 ?_
        refine r_if_eq (tgt := 21) C dX8_circleOf_16 (by decide) (fun c16 => ?_) (fun c16 => ?_)
        · replace h := iT c16 h
          refine r_aload_n C hl 0 dX8_circleOf_21 rfl rfl ?_
          refine r_get C hW 0 rfl rfl iwX8 14 (by decide) w_fl_X8_29 rfl dX8_circleOf_22 ?_
          refine r_iload_n C hl 2 dX8_circleOf_25 rfl rfl ?_
          obtain ⟨x26, e26, g26, h⟩ := rd_some h
          refine r_iald C hW 7 rfl g26 e26 dX8_circleOf_26 ?_
          refine r_istore_n (lv' := [(2, .int x26), (0, .ref (ad 0)), (1, .int p1), (3, .int l3)]) C hl dX8_circleOf_27 rfl (by decide) rfl (fun ls hl => ?_)
          refine r_iload_n C hl 0 dX8_circleOf_28 rfl rfl ?_
          refine r_iload_n C hl 2 dX8_circleOf_29 rfl rfl ?_
          refine r_icmp_ne (tgt := 35) C dX8_circleOf_30 (by decide) (fun c30 => ?_) (fun c30 => ?_)
          · replace h := iF c30 h
            refine r_iinc (j := 3) (v := l3 + (1 : Int32)) (lv' := [(3, .int (l3 + (1 : Int32))), (2, .int x26), (0, .ref (ad 0)), (1, .int p1)]) C hl dX8_circleOf_35 rfl rfl (by decide) rfl (fun ls hl => ?_)
            refine r_goto (tgt := 4) C dX8_circleOf_38 (by decide) ?_
            exact ih4 x26 (l3 + (1 : Int32)) H L ls hW (lv_sub hl [2, 3, 1, 0] rfl) h
          · replace h := iT c30 h
            refine r_iload_n C hl 3 dX8_circleOf_33 rfl rfl ?_
            exact r_iret C hq hW (by obtain rfl := Option.some.inj h; exact ⟨rfl, rfl⟩) dX8_circleOf_34
        · replace h := iF c16 h
          refine r_iconst (v := 0) C dX8_circleOf_19 (by decide) ?_
          exact r_iret C hq hW (by obtain rfl := Option.some.inj h; exact ⟨rfl, rfl⟩) dX8_circleOf_20
  unfold fX8_circleOf at h
  refine r_iload_n C hl 1 dX8_circleOf_0 rfl rfl ?_
  refine r_istore_n (lv' := [(2, .int p1), (0, .ref (ad 0)), (1, .int p1)]) C hl dX8_circleOf_1 rfl (by decide) rfl (fun ls hl => ?_)
  refine r_iconst (v := 1) C dX8_circleOf_2 (by decide) ?_
  refine r_istore_n (lv' := [(3, .int (1 : Int32)), (2, .int p1), (0, .ref (ad 0)), (1, .int p1)]) C hl dX8_circleOf_3 rfl (by decide) rfl (fun ls hl => ?_)
  exact K4  fu p1 (1 : Int32) H L ls hW (lv_sub hl [2, 3, 1, 0] rfl) h
def fX8_isFirst_j43 (v_isTold : (Nat → Int32)) (v_waits : (Nat → Int32)) (p1 : Int32) (self22 : Int32 → Int32 → Int32 → Option (Int32)) (l2 : Int32) (l3 : Int32) (l5 : Int32) (s0 : Int32) : Option (Int32) :=
  rd v_waits 30 l3 fun x50 =>
  self22 x50 s0 (l5 + (1 : Int32))
def fX8_isFirst_j42 (v_isTold : (Nat → Int32)) (v_waits : (Nat → Int32)) (p1 : Int32) (self22 : Int32 → Int32 → Int32 → Option (Int32)) (l2 : Int32) (l3 : Int32) (l5 : Int32) : Option (Int32) :=
  fX8_isFirst_j43 v_isTold v_waits p1 self22 l2 l3 l5 (0 : Int32)
def fX8_isFirst_b22 (v_isTold : (Nat → Int32)) (v_waits : (Nat → Int32)) (p1 : Int32)  (l2 : Int32) (self22 : Int32 → Int32 → Int32 → Option (Int32)) (l3 : Int32) (l4 : Int32) (l5 : Int32) : Option (Int32) :=
  if l2 ≤ l5 then
    ck (l4 = 0 ∨ l4 = 1) <|
    some l4
  else
    if l4 = (0 : Int32) then
      fX8_isFirst_j42 v_isTold v_waits p1 self22 l2 l3 l5
    else
      if l3 < p1 then
        fX8_isFirst_j42 v_isTold v_waits p1 self22 l2 l3 l5
      else
        fX8_isFirst_j43 v_isTold v_waits p1 self22 l2 l3 l5 (1 : Int32)
def fX8_isFirst_j17 (v_isTold : (Nat → Int32)) (v_waits : (Nat → Int32)) (p1 : Int32)  (l2 : Int32) (l3 : Int32) (s0 : Int32) : Option (Int32) :=
  lq3 (fX8_isFirst_b22 v_isTold v_waits p1  l2) fu l3 s0 (0 : Int32)
def fX8_isFirst (v_isTold : (Nat → Int32)) (v_waits : (Nat → Int32)) (p1 : Int32) : Option (Int32) :=
  bd1 (fX8_circleOf v_isTold v_waits p1) fun r2 =>
  if r2 ≤ (0 : Int32) then
    fX8_isFirst_j17 v_isTold v_waits p1  r2 p1 (0 : Int32)
  else
    fX8_isFirst_j17 v_isTold v_waits p1  r2 p1 (1 : Int32)
set_option maxRecDepth 100000 in
set_option maxHeartbeats 8000000 in
theorem mX8_isFirst (X : Ev) (ad : Nat → Nat) (v_state : (Nat → Int32)) (v_tape : (Nat → Int32)) (v_taped : Int32) (v_fault : Int32) (v_broken : Int32) (v_brokenAt : Int32) (v_spot : Int32) (v_here : Int32) (v_token : Int32) (v_number : Int32) (v_ends : (Nat → Int32)) (v_letters : (Nat → Int32)) (v_values : (Nat → Int32)) (v_isTold : (Nat → Int32)) (v_waits : (Nat → Int32)) (v_readsOf : (Nat → Int32)) (v_readMany : (Nat → Int32)) (v_heights : (Nat → Int32)) (v_isStarted : Int32) (v_oldValues : (Nat → Int32)) (v_isOldTold : (Nat → Int32)) (v_oldReads : (Nat → Int32)) (v_evaluated : Int32) (v_moved : Int32) (v_isChanged : Int32) (v_undos : (Nat → Int32)) (v_undoMany : Int32) (v_undoAside : (Nat → Int32)) (v_formula : (Nat → Int32)) (v_isKept : (Nat → Int32)) (v_lanes : (Nat → Int32)) (v_lengths : (Nat → Int32)) (v_items : (Nat → Int32)) (v_torn : Int32) (v_isAsideChanged : Int32) (p1 : Int32) (o : Int32) (h : fX8_isFirst v_isTold v_waits p1 = some o) : Ctr X yX8_isFirst cX8_isFirst 6 (some .boolean) 1 23 0 0 [.ref (ad 0), .int p1] [(ad 0, .inr (8, [.ref (ad 1), .ref (ad 2), .int v_taped, .int v_fault, .int v_broken, .int v_brokenAt, .int v_spot, .int v_here, .int v_token, .int v_number, .ref (ad 3), .ref (ad 4), .ref (ad 5), .ref (ad 6), .ref (ad 7), .ref (ad 8), .ref (ad 9), .ref (ad 10), .int v_isStarted, .ref (ad 11), .ref (ad 12), .ref (ad 13), .int v_evaluated, .int v_moved, .int v_isChanged, .ref (ad 14), .int v_undoMany, .ref (ad 15), .ref (ad 16), .ref (ad 17), .ref (ad 18), .ref (ad 19), .ref (ad 20), .int v_torn, .int v_isAsideChanged])), (ad 1, .inl (eI X, 720, .inl v_state)), (ad 2, .inl (eI X, 320, .inl v_tape)), (ad 3, .inl (eI X, 9, .inl v_ends)), (ad 4, .inl (eI X, 27, .inl v_letters)), (ad 5, .inl (eI X, 30, .inl v_values)), (ad 6, .inl (eZ X, 30, .inl v_isTold)), (ad 7, .inl (eI X, 30, .inl v_waits)), (ad 8, .inl (eI X, 900, .inl v_readsOf)), (ad 9, .inl (eI X, 30, .inl v_readMany)), (ad 10, .inl (eI X, 30, .inl v_heights)), (ad 11, .inl (eI X, 30, .inl v_oldValues)), (ad 12, .inl (eZ X, 30, .inl v_isOldTold)), (ad 13, .inl (eI X, 30, .inl v_oldReads)), (ad 14, .inl (eI X, 100, .inl v_undos)), (ad 15, .inl (eI X, 103, .inl v_undoAside)), (ad 16, .inl (eI X, 4, .inl v_formula)), (ad 17, .inl (eZ X, 2, .inl v_isKept)), (ad 18, .inl (eI X, 4, .inl v_lanes)), (ad 19, .inl (eI X, 4, .inl v_lengths)), (ad 20, .inl (eI X, 160, .inl v_items))] (De (some (.int o)) [(ad 0, .inr (8, [.ref (ad 1), .ref (ad 2), .int v_taped, .int v_fault, .int v_broken, .int v_brokenAt, .int v_spot, .int v_here, .int v_token, .int v_number, .ref (ad 3), .ref (ad 4), .ref (ad 5), .ref (ad 6), .ref (ad 7), .ref (ad 8), .ref (ad 9), .ref (ad 10), .int v_isStarted, .ref (ad 11), .ref (ad 12), .ref (ad 13), .int v_evaluated, .int v_moved, .int v_isChanged, .ref (ad 14), .int v_undoMany, .ref (ad 15), .ref (ad 16), .ref (ad 17), .ref (ad 18), .ref (ad 19), .ref (ad 20), .int v_torn, .int v_isAsideChanged])), (ad 1, .inl (eI X, 720, .inl v_state)), (ad 2, .inl (eI X, 320, .inl v_tape)), (ad 3, .inl (eI X, 9, .inl v_ends)), (ad 4, .inl (eI X, 27, .inl v_letters)), (ad 5, .inl (eI X, 30, .inl v_values)), (ad 6, .inl (eZ X, 30, .inl v_isTold)), (ad 7, .inl (eI X, 30, .inl v_waits)), (ad 8, .inl (eI X, 900, .inl v_readsOf)), (ad 9, .inl (eI X, 30, .inl v_readMany)), (ad 10, .inl (eI X, 30, .inl v_heights)), (ad 11, .inl (eI X, 30, .inl v_oldValues)), (ad 12, .inl (eZ X, 30, .inl v_isOldTold)), (ad 13, .inl (eI X, 30, .inl v_oldReads)), (ad 14, .inl (eI X, 100, .inl v_undos)), (ad 15, .inl (eI X, 103, .inl v_undoAside)), (ad 16, .inl (eI X, 4, .inl v_formula)), (ad 17, .inl (eZ X, 2, .inl v_isKept)), (ad 18, .inl (eI X, 4, .inl v_lanes)), (ad 19, .inl (eI X, 4, .inl v_lengths)), (ad 20, .inl (eI X, 160, .inl v_items))]) := by
  refine Ctr.start (by decide) (Nat.le_of_ble_eq_true rfl) (fun k A ls C hq hin hW hl => ?_)
  replace C : Cx X k cX8_isFirst 6 (some .boolean) RX8 A 1 23 0 0 := C
  replace hl : lv_has ls 6 [(0, .ref (ad 0)), (1, .int p1)] := hl
  suffices hh : ∀ (H : Heap) (L : List Loc), Wd X k A [(ad 0, .inr (8, [.ref (ad 1), .ref (ad 2), .int v_taped, .int v_fault, .int v_broken, .int v_brokenAt, .int v_spot, .int v_here, .int v_token, .int v_number, .ref (ad 3), .ref (ad 4), .ref (ad 5), .ref (ad 6), .ref (ad 7), .ref (ad 8), .ref (ad 9), .ref (ad 10), .int v_isStarted, .ref (ad 11), .ref (ad 12), .ref (ad 13), .int v_evaluated, .int v_moved, .int v_isChanged, .ref (ad 14), .int v_undoMany, .ref (ad 15), .ref (ad 16), .ref (ad 17), .ref (ad 18), .ref (ad 19), .ref (ad 20), .int v_torn, .int v_isAsideChanged])), (ad 1, .inl (eI X, 720, .inl v_state)), (ad 2, .inl (eI X, 320, .inl v_tape)), (ad 3, .inl (eI X, 9, .inl v_ends)), (ad 4, .inl (eI X, 27, .inl v_letters)), (ad 5, .inl (eI X, 30, .inl v_values)), (ad 6, .inl (eZ X, 30, .inl v_isTold)), (ad 7, .inl (eI X, 30, .inl v_waits)), (ad 8, .inl (eI X, 900, .inl v_readsOf)), (ad 9, .inl (eI X, 30, .inl v_readMany)), (ad 10, .inl (eI X, 30, .inl v_heights)), (ad 11, .inl (eI X, 30, .inl v_oldValues)), (ad 12, .inl (eZ X, 30, .inl v_isOldTold)), (ad 13, .inl (eI X, 30, .inl v_oldReads)), (ad 14, .inl (eI X, 100, .inl v_undos)), (ad 15, .inl (eI X, 103, .inl v_undoAside)), (ad 16, .inl (eI X, 4, .inl v_formula)), (ad 17, .inl (eZ X, 2, .inl v_isKept)), (ad 18, .inl (eI X, 4, .inl v_lanes)), (ad 19, .inl (eI X, 4, .inl v_lengths)), (ad 20, .inl (eI X, 160, .inl v_items))] H L → Wx X k 0 0 H L 0 ls [] from hh _ _ hW
  clear hW
  intro H L hW
  have K22 : ∀ (l2 : Int32), ∀ (n22 : Nat), ∀ (l3 : Int32), ∀ (l4 : Int32), ∀ (l5 : Int32), ∀ (H : Heap) (L : List Loc) (ls : Array Slot), Wd X k A [(ad 0, .inr (8, [.ref (ad 1), .ref (ad 2), .int v_taped, .int v_fault, .int v_broken, .int v_brokenAt, .int v_spot, .int v_here, .int v_token, .int v_number, .ref (ad 3), .ref (ad 4), .ref (ad 5), .ref (ad 6), .ref (ad 7), .ref (ad 8), .ref (ad 9), .ref (ad 10), .int v_isStarted, .ref (ad 11), .ref (ad 12), .ref (ad 13), .int v_evaluated, .int v_moved, .int v_isChanged, .ref (ad 14), .int v_undoMany, .ref (ad 15), .ref (ad 16), .ref (ad 17), .ref (ad 18), .ref (ad 19), .ref (ad 20), .int v_torn, .int v_isAsideChanged])), (ad 1, .inl (eI X, 720, .inl v_state)), (ad 2, .inl (eI X, 320, .inl v_tape)), (ad 3, .inl (eI X, 9, .inl v_ends)), (ad 4, .inl (eI X, 27, .inl v_letters)), (ad 5, .inl (eI X, 30, .inl v_values)), (ad 6, .inl (eZ X, 30, .inl v_isTold)), (ad 7, .inl (eI X, 30, .inl v_waits)), (ad 8, .inl (eI X, 900, .inl v_readsOf)), (ad 9, .inl (eI X, 30, .inl v_readMany)), (ad 10, .inl (eI X, 30, .inl v_heights)), (ad 11, .inl (eI X, 30, .inl v_oldValues)), (ad 12, .inl (eZ X, 30, .inl v_isOldTold)), (ad 13, .inl (eI X, 30, .inl v_oldReads)), (ad 14, .inl (eI X, 100, .inl v_undos)), (ad 15, .inl (eI X, 103, .inl v_undoAside)), (ad 16, .inl (eI X, 4, .inl v_formula)), (ad 17, .inl (eZ X, 2, .inl v_isKept)), (ad 18, .inl (eI X, 4, .inl v_lanes)), (ad 19, .inl (eI X, 4, .inl v_lengths)), (ad 20, .inl (eI X, 160, .inl v_items))] H L → lv_has ls 6 [(0, .ref (ad 0)), (1, .int p1), (2, .int l2), (3, .int l3), (4, .int l4), (5, .int l5)] → lq3 (fX8_isFirst_b22 v_isTold v_waits p1  l2) n22 l3 l4 l5 = some o → Wx X k 0 0 H L 22 ls [] := by
    intro l2
    intro n22
    induction n22 with
    | zero => intro l3 l4 l5 H L ls hW hl h; exact lq3_0 h
    | succ n22 ih22 =>
      have K43 : ∀ (l3 : Int32), ∀ (l5 : Int32), ∀ (s0 : Int32), ∀ (H : Heap) (L : List Loc) (ls : Array Slot), Wd X k A [(ad 0, .inr (8, [.ref (ad 1), .ref (ad 2), .int v_taped, .int v_fault, .int v_broken, .int v_brokenAt, .int v_spot, .int v_here, .int v_token, .int v_number, .ref (ad 3), .ref (ad 4), .ref (ad 5), .ref (ad 6), .ref (ad 7), .ref (ad 8), .ref (ad 9), .ref (ad 10), .int v_isStarted, .ref (ad 11), .ref (ad 12), .ref (ad 13), .int v_evaluated, .int v_moved, .int v_isChanged, .ref (ad 14), .int v_undoMany, .ref (ad 15), .ref (ad 16), .ref (ad 17), .ref (ad 18), .ref (ad 19), .ref (ad 20), .int v_torn, .int v_isAsideChanged])), (ad 1, .inl (eI X, 720, .inl v_state)), (ad 2, .inl (eI X, 320, .inl v_tape)), (ad 3, .inl (eI X, 9, .inl v_ends)), (ad 4, .inl (eI X, 27, .inl v_letters)), (ad 5, .inl (eI X, 30, .inl v_values)), (ad 6, .inl (eZ X, 30, .inl v_isTold)), (ad 7, .inl (eI X, 30, .inl v_waits)), (ad 8, .inl (eI X, 900, .inl v_readsOf)), (ad 9, .inl (eI X, 30, .inl v_readMany)), (ad 10, .inl (eI X, 30, .inl v_heights)), (ad 11, .inl (eI X, 30, .inl v_oldValues)), (ad 12, .inl (eZ X, 30, .inl v_isOldTold)), (ad 13, .inl (eI X, 30, .inl v_oldReads)), (ad 14, .inl (eI X, 100, .inl v_undos)), (ad 15, .inl (eI X, 103, .inl v_undoAside)), (ad 16, .inl (eI X, 4, .inl v_formula)), (ad 17, .inl (eZ X, 2, .inl v_isKept)), (ad 18, .inl (eI X, 4, .inl v_lanes)), (ad 19, .inl (eI X, 4, .inl v_lengths)), (ad 20, .inl (eI X, 160, .inl v_items))] H L → lv_has ls 6 [(0, .ref (ad 0)), (1, .int p1), (2, .int l2), (3, .int l3), (5, .int l5)] → fX8_isFirst_j43 v_isTold v_waits p1 (lq3 (fX8_isFirst_b22 v_isTold v_waits p1  l2) n22) l2 l3 l5 s0 = some o → Wx X k 0 0 H L 43 ls [.int s0] := by
        intro l3 l5 s0 H L ls hW hl h
        unfold fX8_isFirst_j43 at h
        refine r_istore (lv' := [(4, .int s0), (0, .ref (ad 0)), (1, .int p1), (2, .int l2), (3, .int l3), (5, .int l5)]) C hl dX8_isFirst_43 (by decide) rfl (fun ls hl => ?_)
        refine r_aload_n C hl 1 dX8_isFirst_45 rfl rfl ?_
        refine r_get C hW 0 rfl rfl iwX8 14 (by decide) w_fl_X8_29 rfl dX8_isFirst_46 ?_
        refine r_iload_n C hl 4 dX8_isFirst_49 rfl rfl ?_
        obtain ⟨x50, e50, g50, h⟩ := rd_some h
        refine r_iald C hW 7 rfl g50 e50 dX8_isFirst_50 ?_
        refine r_istore_n (lv' := [(3, .int x50), (4, .int s0), (0, .ref (ad 0)), (1, .int p1), (2, .int l2), (5, .int l5)]) C hl dX8_isFirst_51 rfl (by decide) rfl (fun ls hl => ?_)
        refine r_iinc (j := 5) (v := l5 + (1 : Int32)) (lv' := [(5, .int (l5 + (1 : Int32))), (3, .int x50), (4, .int s0), (0, .ref (ad 0)), (1, .int p1), (2, .int l2)]) C hl dX8_isFirst_52 rfl rfl (by decide) rfl (fun ls hl => ?_)
        refine r_goto (tgt := 22) C dX8_isFirst_55 (by decide) ?_
        exact ih22 x50 s0 (l5 + (1 : Int32)) H L ls hW (lv_sub hl [3, 4, 5, 1, 2, 0] rfl) h
      have K42 : ∀ (l3 : Int32), ∀ (l5 : Int32), ∀ (H : Heap) (L : List Loc) (ls : Array Slot), Wd X k A [(ad 0, .inr (8, [.ref (ad 1), .ref (ad 2), .int v_taped, .int v_fault, .int v_broken, .int v_brokenAt, .int v_spot, .int v_here, .int v_token, .int v_number, .ref (ad 3), .ref (ad 4), .ref (ad 5), .ref (ad 6), .ref (ad 7), .ref (ad 8), .ref (ad 9), .ref (ad 10), .int v_isStarted, .ref (ad 11), .ref (ad 12), .ref (ad 13), .int v_evaluated, .int v_moved, .int v_isChanged, .ref (ad 14), .int v_undoMany, .ref (ad 15), .ref (ad 16), .ref (ad 17), .ref (ad 18), .ref (ad 19), .ref (ad 20), .int v_torn, .int v_isAsideChanged])), (ad 1, .inl (eI X, 720, .inl v_state)), (ad 2, .inl (eI X, 320, .inl v_tape)), (ad 3, .inl (eI X, 9, .inl v_ends)), (ad 4, .inl (eI X, 27, .inl v_letters)), (ad 5, .inl (eI X, 30, .inl v_values)), (ad 6, .inl (eZ X, 30, .inl v_isTold)), (ad 7, .inl (eI X, 30, .inl v_waits)), (ad 8, .inl (eI X, 900, .inl v_readsOf)), (ad 9, .inl (eI X, 30, .inl v_readMany)), (ad 10, .inl (eI X, 30, .inl v_heights)), (ad 11, .inl (eI X, 30, .inl v_oldValues)), (ad 12, .inl (eZ X, 30, .inl v_isOldTold)), (ad 13, .inl (eI X, 30, .inl v_oldReads)), (ad 14, .inl (eI X, 100, .inl v_undos)), (ad 15, .inl (eI X, 103, .inl v_undoAside)), (ad 16, .inl (eI X, 4, .inl v_formula)), (ad 17, .inl (eZ X, 2, .inl v_isKept)), (ad 18, .inl (eI X, 4, .inl v_lanes)), (ad 19, .inl (eI X, 4, .inl v_lengths)), (ad 20, .inl (eI X, 160, .inl v_items))] H L → lv_has ls 6 [(0, .ref (ad 0)), (1, .int p1), (2, .int l2), (3, .int l3), (5, .int l5)] → fX8_isFirst_j42 v_isTold v_waits p1 (lq3 (fX8_isFirst_b22 v_isTold v_waits p1  l2) n22) l2 l3 l5 = some o → Wx X k 0 0 H L 42 ls [] := by
        intro l3 l5 H L ls hW hl h
        unfold fX8_isFirst_j42 at h
        refine r_iconst (v := 0) C dX8_isFirst_42 (by decide) ?_
        exact K43 l3 l5 (0 : Int32) H L ls hW hl h
      intro l3 l4 l5 H L ls hW hl h
      rw [lq3_s] at h
      unfold fX8_isFirst_b22 at h
      refine r_iload C hl 5 dX8_isFirst_22 rfl ?_
      refine r_iload_n C hl 2 dX8_isFirst_24 rfl rfl ?_
      refine r_icmp_ge (tgt := 58) C dX8_isFirst_25 (by decide) (fun c25 => ?_) (fun c25 => ?_)
      · replace h := iT c25 h
        refine r_iload C hl 4 dX8_isFirst_58 rfl ?_
        obtain ⟨z60, h⟩ := ck_some h
        exact r_zret C hq hW (zb_n z60) (by obtain rfl := Option.some.inj h; exact ⟨rfl, rfl⟩) dX8_isFirst_60
      · replace h := iF c25 h
        refine r_iload C hl 4 dX8_isFirst_28 rfl ?_
        refine r_if_eq (tgt := 42) C dX8_isFirst_30 (by decide) (fun c30 => ?_) (fun c30 => ?_)
        · replace h := iT c30 h
          exact K42 l3 l5 H L ls hW (lv_sub hl [0, 1, 2, 3, 5] rfl) h
        · replace h := iF c30 h
          refine r_iload_n C hl 3 dX8_isFirst_33 rfl rfl ?_
          refine r_iload_n C hl 1 dX8_isFirst_34 rfl rfl ?_
          refine r_icmp_lt (tgt := 42) C dX8_isFirst_35 (by decide) (fun c35 => ?_) (fun c35 => ?_)
          · replace h := iT c35 h
            exact K42 l3 l5 H L ls hW (lv_sub hl [0, 1, 2, 3, 5] rfl) h
          · replace h := iF c35 h
            refine r_iconst (v := 1) C dX8_isFirst_38 (by decide) ?_
            refine r_goto (tgt := 43) C dX8_isFirst_39 (by decide) ?_
            exact K43 l3 l5 (1 : Int32) H L ls hW (lv_sub hl [0, 1, 2, 3, 5] rfl) h
  have K17 : ∀ (l2 : Int32), ∀ (l3 : Int32), ∀ (s0 : Int32), ∀ (H : Heap) (L : List Loc) (ls : Array Slot), Wd X k A [(ad 0, .inr (8, [.ref (ad 1), .ref (ad 2), .int v_taped, .int v_fault, .int v_broken, .int v_brokenAt, .int v_spot, .int v_here, .int v_token, .int v_number, .ref (ad 3), .ref (ad 4), .ref (ad 5), .ref (ad 6), .ref (ad 7), .ref (ad 8), .ref (ad 9), .ref (ad 10), .int v_isStarted, .ref (ad 11), .ref (ad 12), .ref (ad 13), .int v_evaluated, .int v_moved, .int v_isChanged, .ref (ad 14), .int v_undoMany, .ref (ad 15), .ref (ad 16), .ref (ad 17), .ref (ad 18), .ref (ad 19), .ref (ad 20), .int v_torn, .int v_isAsideChanged])), (ad 1, .inl (eI X, 720, .inl v_state)), (ad 2, .inl (eI X, 320, .inl v_tape)), (ad 3, .inl (eI X, 9, .inl v_ends)), (ad 4, .inl (eI X, 27, .inl v_letters)), (ad 5, .inl (eI X, 30, .inl v_values)), (ad 6, .inl (eZ X, 30, .inl v_isTold)), (ad 7, .inl (eI X, 30, .inl v_waits)), (ad 8, .inl (eI X, 900, .inl v_readsOf)), (ad 9, .inl (eI X, 30, .inl v_readMany)), (ad 10, .inl (eI X, 30, .inl v_heights)), (ad 11, .inl (eI X, 30, .inl v_oldValues)), (ad 12, .inl (eZ X, 30, .inl v_isOldTold)), (ad 13, .inl (eI X, 30, .inl v_oldReads)), (ad 14, .inl (eI X, 100, .inl v_undos)), (ad 15, .inl (eI X, 103, .inl v_undoAside)), (ad 16, .inl (eI X, 4, .inl v_formula)), (ad 17, .inl (eZ X, 2, .inl v_isKept)), (ad 18, .inl (eI X, 4, .inl v_lanes)), (ad 19, .inl (eI X, 4, .inl v_lengths)), (ad 20, .inl (eI X, 160, .inl v_items))] H L → lv_has ls 6 [(0, .ref (ad 0)), (1, .int p1), (2, .int l2), (3, .int l3)] → fX8_isFirst_j17 v_isTold v_waits p1  l2 l3 s0 = some o → Wx X k 0 0 H L 17 ls [.int s0] := by
    intro l2 l3 s0 H L ls hW hl h
    unfold fX8_isFirst_j17 at h
    refine r_istore (lv' := [(4, .int s0), (0, .ref (ad 0)), (1, .int p1), (2, .int l2), (3, .int l3)]) C hl dX8_isFirst_17 (by decide) rfl (fun ls hl => ?_)
    refine r_iconst (v := 0) C dX8_isFirst_19 (by decide) ?_
    refine r_istore (lv' := [(5, .int (0 : Int32)), (4, .int s0), (0, .ref (ad 0)), (1, .int p1), (2, .int l2), (3, .int l3)]) C hl dX8_isFirst_20 (by decide) rfl (fun ls hl => ?_)
    exact K22 l2 fu l3 s0 (0 : Int32) H L ls hW (lv_sub hl [2, 3, 4, 5, 1, 0] rfl) h
  unfold fX8_isFirst at h
  refine r_aload_n C hl 0 dX8_isFirst_0 rfl rfl ?_
  refine r_iload_n C hl 1 dX8_isFirst_1 rfl rfl ?_
  obtain ⟨r2, h2, h⟩ := bd1_some h
  refine r_V (wr := []) (np := 1) C hl (mX8_circleOf X ad  v_state v_tape v_taped v_fault v_broken v_brokenAt v_spot v_here v_token v_number v_ends v_letters v_values v_isTold v_waits v_readsOf v_readMany v_heights v_isStarted v_oldValues v_isOldTold v_oldReads v_evaluated v_moved v_isChanged v_undos v_undoMany v_undoAside v_formula v_isKept v_lanes v_lengths v_items v_torn v_isAsideChanged p1 r2 h2) hW [0, 1, 2, 3, 4, 5, 6, 7, 8, 9, 10, 11, 12, 13, 14, 15, 16, 17, 18, 19, 20] [] rfl rfl rfl rfl (by decide) 0 rfl rfl w_cd_X8_circleOf w_ml_X8_174 w_im_X8_circleOf w_sel_X8_circleOf w_in_HeightSheetModel (by decide +kernel) rfl ⟨Nat.le_of_ble_eq_true rfl, Nat.le_of_ble_eq_true rfl⟩ ⟨Nat.zero_le _, Nat.zero_le _⟩ (Nat.le_of_ble_eq_true rfl) dX8_isFirst_2 (fun rv w1 H L hp hW => ?_) rfl
  obtain ⟨rfl, rfl⟩ := hp
  replace hW : Wd X k A [(ad 0, .inr (8, [.ref (ad 1), .ref (ad 2), .int v_taped, .int v_fault, .int v_broken, .int v_brokenAt, .int v_spot, .int v_here, .int v_token, .int v_number, .ref (ad 3), .ref (ad 4), .ref (ad 5), .ref (ad 6), .ref (ad 7), .ref (ad 8), .ref (ad 9), .ref (ad 10), .int v_isStarted, .ref (ad 11), .ref (ad 12), .ref (ad 13), .int v_evaluated, .int v_moved, .int v_isChanged, .ref (ad 14), .int v_undoMany, .ref (ad 15), .ref (ad 16), .ref (ad 17), .ref (ad 18), .ref (ad 19), .ref (ad 20), .int v_torn, .int v_isAsideChanged])), (ad 1, .inl (eI X, 720, .inl v_state)), (ad 2, .inl (eI X, 320, .inl v_tape)), (ad 3, .inl (eI X, 9, .inl v_ends)), (ad 4, .inl (eI X, 27, .inl v_letters)), (ad 5, .inl (eI X, 30, .inl v_values)), (ad 6, .inl (eZ X, 30, .inl v_isTold)), (ad 7, .inl (eI X, 30, .inl v_waits)), (ad 8, .inl (eI X, 900, .inl v_readsOf)), (ad 9, .inl (eI X, 30, .inl v_readMany)), (ad 10, .inl (eI X, 30, .inl v_heights)), (ad 11, .inl (eI X, 30, .inl v_oldValues)), (ad 12, .inl (eZ X, 30, .inl v_isOldTold)), (ad 13, .inl (eI X, 30, .inl v_oldReads)), (ad 14, .inl (eI X, 100, .inl v_undos)), (ad 15, .inl (eI X, 103, .inl v_undoAside)), (ad 16, .inl (eI X, 4, .inl v_formula)), (ad 17, .inl (eZ X, 2, .inl v_isKept)), (ad 18, .inl (eI X, 4, .inl v_lanes)), (ad 19, .inl (eI X, 4, .inl v_lengths)), (ad 20, .inl (eI X, 160, .inl v_items))] H L := hW.sub [0, 1, 2, 3, 4, 5, 6, 7, 8, 9, 10, 11, 12, 13, 14, 15, 16, 17, 18, 19, 20] rfl rfl
  show Wx X k 0 0 H L 5 ls [.int r2]
  refine r_istore_n (lv' := [(2, .int r2), (0, .ref (ad 0)), (1, .int p1)]) C hl dX8_isFirst_5 rfl (by decide) rfl (fun ls hl => ?_)
  refine r_iload_n C hl 2 dX8_isFirst_6 rfl rfl ?_
  refine r_istore_n (lv' := [(3, .int p1), (2, .int r2), (0, .ref (ad 0)), (1, .int p1)]) C hl dX8_isFirst_7 rfl (by decide) rfl (fun ls hl => ?_)
  refine r_iload_n C hl 1 dX8_isFirst_8 rfl rfl ?_
  refine r_if_le (tgt := 16) C dX8_isFirst_9 (by decide) (fun c9 => ?_) (fun c9 => ?_)
  · replace h := iT c9 h
    refine r_iconst (v := 0) C dX8_isFirst_16 (by decide) ?_
    exact K17 r2 p1 (0 : Int32) H L ls hW (lv_sub hl [2, 3, 1, 0] rfl) h
  · replace h := iF c9 h
    refine r_iconst (v := 1) C dX8_isFirst_12 (by decide) ?_
    refine r_goto (tgt := 17) C dX8_isFirst_13 (by decide) ?_
    exact K17 r2 p1 (1 : Int32) H L ls hW (lv_sub hl [2, 3, 1, 0] rfl) h
def fX8_formulas_j25 (v_state : (Nat → Int32)) (self4 : Int32 → Int32 → Option (Int32)) (l2 : Int32) (s0 : Int32) (s1 : Int32) : Option (Int32) :=
  self4 (s0 + s1) (l2 + (1 : Int32))
def fX8_formulas_b4 (v_state : (Nat → Int32))   (self4 : Int32 → Int32 → Option (Int32)) (l1 : Int32) (l2 : Int32) : Option (Int32) :=
  if (30 : Int32) ≤ l2 then
    some l1
  else
    rd v_state 720 l2 fun x16 =>
    if x16 = (0 : Int32) then
      fX8_formulas_j25 v_state self4 l2 l1 (0 : Int32)
    else
      fX8_formulas_j25 v_state self4 l2 l1 (1 : Int32)
def fX8_formulas (v_state : (Nat → Int32)) : Option (Int32) :=
  lq2 (fX8_formulas_b4 v_state  ) fu (0 : Int32) (0 : Int32)
set_option maxRecDepth 100000 in
set_option maxHeartbeats 8000000 in
theorem mX8_formulas (X : Ev) (ad : Nat → Nat) (v_state : (Nat → Int32)) (v_tape : (Nat → Int32)) (v_taped : Int32) (v_fault : Int32) (v_broken : Int32) (v_brokenAt : Int32) (v_spot : Int32) (v_here : Int32) (v_token : Int32) (v_number : Int32) (v_ends : (Nat → Int32)) (v_letters : (Nat → Int32)) (v_values : (Nat → Int32)) (v_isTold : (Nat → Int32)) (v_waits : (Nat → Int32)) (v_readsOf : (Nat → Int32)) (v_readMany : (Nat → Int32)) (v_heights : (Nat → Int32)) (v_isStarted : Int32) (v_oldValues : (Nat → Int32)) (v_isOldTold : (Nat → Int32)) (v_oldReads : (Nat → Int32)) (v_evaluated : Int32) (v_moved : Int32) (v_isChanged : Int32) (v_undos : (Nat → Int32)) (v_undoMany : Int32) (v_undoAside : (Nat → Int32)) (v_formula : (Nat → Int32)) (v_isKept : (Nat → Int32)) (v_lanes : (Nat → Int32)) (v_lengths : (Nat → Int32)) (v_items : (Nat → Int32)) (v_torn : Int32) (v_isAsideChanged : Int32)  (o : Int32) (h : fX8_formulas v_state = some o) : Ctr X yX8_formulas cX8_formulas 3 (some .int) 0 0 0 0 [.ref (ad 0)] [(ad 0, .inr (8, [.ref (ad 1), .ref (ad 2), .int v_taped, .int v_fault, .int v_broken, .int v_brokenAt, .int v_spot, .int v_here, .int v_token, .int v_number, .ref (ad 3), .ref (ad 4), .ref (ad 5), .ref (ad 6), .ref (ad 7), .ref (ad 8), .ref (ad 9), .ref (ad 10), .int v_isStarted, .ref (ad 11), .ref (ad 12), .ref (ad 13), .int v_evaluated, .int v_moved, .int v_isChanged, .ref (ad 14), .int v_undoMany, .ref (ad 15), .ref (ad 16), .ref (ad 17), .ref (ad 18), .ref (ad 19), .ref (ad 20), .int v_torn, .int v_isAsideChanged])), (ad 1, .inl (eI X, 720, .inl v_state)), (ad 2, .inl (eI X, 320, .inl v_tape)), (ad 3, .inl (eI X, 9, .inl v_ends)), (ad 4, .inl (eI X, 27, .inl v_letters)), (ad 5, .inl (eI X, 30, .inl v_values)), (ad 6, .inl (eZ X, 30, .inl v_isTold)), (ad 7, .inl (eI X, 30, .inl v_waits)), (ad 8, .inl (eI X, 900, .inl v_readsOf)), (ad 9, .inl (eI X, 30, .inl v_readMany)), (ad 10, .inl (eI X, 30, .inl v_heights)), (ad 11, .inl (eI X, 30, .inl v_oldValues)), (ad 12, .inl (eZ X, 30, .inl v_isOldTold)), (ad 13, .inl (eI X, 30, .inl v_oldReads)), (ad 14, .inl (eI X, 100, .inl v_undos)), (ad 15, .inl (eI X, 103, .inl v_undoAside)), (ad 16, .inl (eI X, 4, .inl v_formula)), (ad 17, .inl (eZ X, 2, .inl v_isKept)), (ad 18, .inl (eI X, 4, .inl v_lanes)), (ad 19, .inl (eI X, 4, .inl v_lengths)), (ad 20, .inl (eI X, 160, .inl v_items))] (De (some (.int o)) [(ad 0, .inr (8, [.ref (ad 1), .ref (ad 2), .int v_taped, .int v_fault, .int v_broken, .int v_brokenAt, .int v_spot, .int v_here, .int v_token, .int v_number, .ref (ad 3), .ref (ad 4), .ref (ad 5), .ref (ad 6), .ref (ad 7), .ref (ad 8), .ref (ad 9), .ref (ad 10), .int v_isStarted, .ref (ad 11), .ref (ad 12), .ref (ad 13), .int v_evaluated, .int v_moved, .int v_isChanged, .ref (ad 14), .int v_undoMany, .ref (ad 15), .ref (ad 16), .ref (ad 17), .ref (ad 18), .ref (ad 19), .ref (ad 20), .int v_torn, .int v_isAsideChanged])), (ad 1, .inl (eI X, 720, .inl v_state)), (ad 2, .inl (eI X, 320, .inl v_tape)), (ad 3, .inl (eI X, 9, .inl v_ends)), (ad 4, .inl (eI X, 27, .inl v_letters)), (ad 5, .inl (eI X, 30, .inl v_values)), (ad 6, .inl (eZ X, 30, .inl v_isTold)), (ad 7, .inl (eI X, 30, .inl v_waits)), (ad 8, .inl (eI X, 900, .inl v_readsOf)), (ad 9, .inl (eI X, 30, .inl v_readMany)), (ad 10, .inl (eI X, 30, .inl v_heights)), (ad 11, .inl (eI X, 30, .inl v_oldValues)), (ad 12, .inl (eZ X, 30, .inl v_isOldTold)), (ad 13, .inl (eI X, 30, .inl v_oldReads)), (ad 14, .inl (eI X, 100, .inl v_undos)), (ad 15, .inl (eI X, 103, .inl v_undoAside)), (ad 16, .inl (eI X, 4, .inl v_formula)), (ad 17, .inl (eZ X, 2, .inl v_isKept)), (ad 18, .inl (eI X, 4, .inl v_lanes)), (ad 19, .inl (eI X, 4, .inl v_lengths)), (ad 20, .inl (eI X, 160, .inl v_items))]) := by
  refine Ctr.start (by decide) (Nat.le_of_ble_eq_true rfl) (fun k A ls C hq hin hW hl => ?_)
  replace C : Cx X k cX8_formulas 3 (some .int) RX8 A 0 0 0 0 := C
  replace hl : lv_has ls 3 [(0, .ref (ad 0))] := hl
  suffices hh : ∀ (H : Heap) (L : List Loc), Wd X k A [(ad 0, .inr (8, [.ref (ad 1), .ref (ad 2), .int v_taped, .int v_fault, .int v_broken, .int v_brokenAt, .int v_spot, .int v_here, .int v_token, .int v_number, .ref (ad 3), .ref (ad 4), .ref (ad 5), .ref (ad 6), .ref (ad 7), .ref (ad 8), .ref (ad 9), .ref (ad 10), .int v_isStarted, .ref (ad 11), .ref (ad 12), .ref (ad 13), .int v_evaluated, .int v_moved, .int v_isChanged, .ref (ad 14), .int v_undoMany, .ref (ad 15), .ref (ad 16), .ref (ad 17), .ref (ad 18), .ref (ad 19), .ref (ad 20), .int v_torn, .int v_isAsideChanged])), (ad 1, .inl (eI X, 720, .inl v_state)), (ad 2, .inl (eI X, 320, .inl v_tape)), (ad 3, .inl (eI X, 9, .inl v_ends)), (ad 4, .inl (eI X, 27, .inl v_letters)), (ad 5, .inl (eI X, 30, .inl v_values)), (ad 6, .inl (eZ X, 30, .inl v_isTold)), (ad 7, .inl (eI X, 30, .inl v_waits)), (ad 8, .inl (eI X, 900, .inl v_readsOf)), (ad 9, .inl (eI X, 30, .inl v_readMany)), (ad 10, .inl (eI X, 30, .inl v_heights)), (ad 11, .inl (eI X, 30, .inl v_oldValues)), (ad 12, .inl (eZ X, 30, .inl v_isOldTold)), (ad 13, .inl (eI X, 30, .inl v_oldReads)), (ad 14, .inl (eI X, 100, .inl v_undos)), (ad 15, .inl (eI X, 103, .inl v_undoAside)), (ad 16, .inl (eI X, 4, .inl v_formula)), (ad 17, .inl (eZ X, 2, .inl v_isKept)), (ad 18, .inl (eI X, 4, .inl v_lanes)), (ad 19, .inl (eI X, 4, .inl v_lengths)), (ad 20, .inl (eI X, 160, .inl v_items))] H L → Wx X k 0 0 H L 0 ls [] from hh _ _ hW
  clear hW
  intro H L hW
  have K4 : ∀ (n4 : Nat), ∀ (l1 : Int32), ∀ (l2 : Int32), ∀ (H : Heap) (L : List Loc) (ls : Array Slot), Wd X k A [(ad 0, .inr (8, [.ref (ad 1), .ref (ad 2), .int v_taped, .int v_fault, .int v_broken, .int v_brokenAt, .int v_spot, .int v_here, .int v_token, .int v_number, .ref (ad 3), .ref (ad 4), .ref (ad 5), .ref (ad 6), .ref (ad 7), .ref (ad 8), .ref (ad 9), .ref (ad 10), .int v_isStarted, .ref (ad 11), .ref (ad 12), .ref (ad 13), .int v_evaluated, .int v_moved, .int v_isChanged, .ref (ad 14), .int v_undoMany, .ref (ad 15), .ref (ad 16), .ref (ad 17), .ref (ad 18), .ref (ad 19), .ref (ad 20), .int v_torn, .int v_isAsideChanged])), (ad 1, .inl (eI X, 720, .inl v_state)), (ad 2, .inl (eI X, 320, .inl v_tape)), (ad 3, .inl (eI X, 9, .inl v_ends)), (ad 4, .inl (eI X, 27, .inl v_letters)), (ad 5, .inl (eI X, 30, .inl v_values)), (ad 6, .inl (eZ X, 30, .inl v_isTold)), (ad 7, .inl (eI X, 30, .inl v_waits)), (ad 8, .inl (eI X, 900, .inl v_readsOf)), (ad 9, .inl (eI X, 30, .inl v_readMany)), (ad 10, .inl (eI X, 30, .inl v_heights)), (ad 11, .inl (eI X, 30, .inl v_oldValues)), (ad 12, .inl (eZ X, 30, .inl v_isOldTold)), (ad 13, .inl (eI X, 30, .inl v_oldReads)), (ad 14, .inl (eI X, 100, .inl v_undos)), (ad 15, .inl (eI X, 103, .inl v_undoAside)), (ad 16, .inl (eI X, 4, .inl v_formula)), (ad 17, .inl (eZ X, 2, .inl v_isKept)), (ad 18, .inl (eI X, 4, .inl v_lanes)), (ad 19, .inl (eI X, 4, .inl v_lengths)), (ad 20, .inl (eI X, 160, .inl v_items))] H L → lv_has ls 3 [(0, .ref (ad 0)), (1, .int l1), (2, .int l2)] → lq2 (fX8_formulas_b4 v_state  ) n4 l1 l2 = some o → Wx X k 0 0 H L 4 ls [] := by
    intro n4
    induction n4 with
    | zero => intro l1 l2 H L ls hW hl h; exact lq2_0 h
    | succ n4 ih4 =>
      have K25 : ∀ (l2 : Int32), ∀ (s0 : Int32), ∀ (s1 : Int32), ∀ (H : Heap) (L : List Loc) (ls : Array Slot), Wd X k A [(ad 0, .inr (8, [.ref (ad 1), .ref (ad 2), .int v_taped, .int v_fault, .int v_broken, .int v_brokenAt, .int v_spot, .int v_here, .int v_token, .int v_number, .ref (ad 3), .ref (ad 4), .ref (ad 5), .ref (ad 6), .ref (ad 7), .ref (ad 8), .ref (ad 9), .ref (ad 10), .int v_isStarted, .ref (ad 11), .ref (ad 12), .ref (ad 13), .int v_evaluated, .int v_moved, .int v_isChanged, .ref (ad 14), .int v_undoMany, .ref (ad 15), .ref (ad 16), .ref (ad 17), .ref (ad 18), .ref (ad 19), .ref (ad 20), .int v_torn, .int v_isAsideChanged])), (ad 1, .inl (eI X, 720, .inl v_state)), (ad 2, .inl (eI X, 320, .inl v_tape)), (ad 3, .inl (eI X, 9, .inl v_ends)), (ad 4, .inl (eI X, 27, .inl v_letters)), (ad 5, .inl (eI X, 30, .inl v_values)), (ad 6, .inl (eZ X, 30, .inl v_isTold)), (ad 7, .inl (eI X, 30, .inl v_waits)), (ad 8, .inl (eI X, 900, .inl v_readsOf)), (ad 9, .inl (eI X, 30, .inl v_readMany)), (ad 10, .inl (eI X, 30, .inl v_heights)), (ad 11, .inl (eI X, 30, .inl v_oldValues)), (ad 12, .inl (eZ X, 30, .inl v_isOldTold)), (ad 13, .inl (eI X, 30, .inl v_oldReads)), (ad 14, .inl (eI X, 100, .inl v_undos)), (ad 15, .inl (eI X, 103, .inl v_undoAside)), (ad 16, .inl (eI X, 4, .inl v_formula)), (ad 17, .inl (eZ X, 2, .inl v_isKept)), (ad 18, .inl (eI X, 4, .inl v_lanes)), (ad 19, .inl (eI X, 4, .inl v_lengths)), (ad 20, .inl (eI X, 160, .inl v_items))] H L → lv_has ls 3 [(0, .ref (ad 0)), (2, .int l2)] → fX8_formulas_j25 v_state (lq2 (fX8_formulas_b4 v_state  ) n4) l2 s0 s1 = some o → Wx X k 0 0 H L 25 ls [.int s1, .int s0] := by
        intro l2 s0 s1 H L ls hW hl h
        unfold fX8_formulas_j25 at h
        refine r_iadd C dX8_formulas_25 ?_
        refine r_istore_n (lv' := [(1, .int (s0 + s1)), (0, .ref (ad 0)), (2, .int l2)]) C hl dX8_formulas_26 rfl (by decide) rfl (fun ls hl => ?_)
        refine r_iinc (j := 2) (v := l2 + (1 : Int32)) (lv' := [(2, .int (l2 + (1 : Int32))), (1, .int (s0 + s1)), (0, .ref (ad 0))]) C hl dX8_formulas_27 rfl rfl (by decide) rfl (fun ls hl => ?_)
        refine r_goto (tgt := 4) C dX8_formulas_30 (by decide) ?_
        exact ih4 (s0 + s1) (l2 + (1 : Int32)) H L ls hW (lv_sub hl [2, 1, 0] rfl) h
      intro l1 l2 H L ls hW hl h
      rw [lq2_s] at h
      unfold fX8_formulas_b4 at h
      refine r_iload_n C hl 2 dX8_formulas_4 rfl rfl ?_
      refine r_bipush (v := 30) C dX8_formulas_5 (by decide) ?_
      refine r_icmp_ge (tgt := 33) C dX8_formulas_7 (by decide) (fun c7 => ?_) (fun c7 => ?_)
      · replace h := iT c7 h
        refine r_iload_n C hl 1 dX8_formulas_33 rfl rfl ?_
        exact r_iret C hq hW (by obtain rfl := Option.some.inj h; exact ⟨rfl, rfl⟩) dX8_formulas_34
      · replace h := iF c7 h
        refine r_iload_n C hl 1 dX8_formulas_10 rfl rfl ?_
        refine r_aload_n C hl 0 dX8_formulas_11 rfl rfl ?_
        refine r_get C hW 0 rfl rfl iwX8 0 (by decide) w_fl_X8_7 rfl dX8_formulas_12 ?_
        refine r_iload_n C hl 2 dX8_formulas_15 rfl rfl ?_
        obtain ⟨x16, e16, g16, h⟩ := rd_some h
        refine r_iald C hW 1 rfl g16 e16 dX8_formulas_16 ?_
        refine r_if_ne (tgt := 24) C dX8_formulas_17 (by decide) (fun c17 => ?_) (fun c17 => ?_)
        · replace h := iF c17 h
          refine r_iconst (v := 1) C dX8_formulas_24 (by decide) ?_
          exact K25 l2 l1 (1 : Int32) H L ls hW (lv_sub hl [0, 2] rfl) h
        · replace h := iT c17 h
          refine r_iconst (v := 0) C dX8_formulas_20 (by decide) ?_
          refine r_goto (tgt := 25) C dX8_formulas_21 (by decide) ?_
          exact K25 l2 l1 (0 : Int32) H L ls hW (lv_sub hl [0, 2] rfl) h
  unfold fX8_formulas at h
  refine r_iconst (v := 0) C dX8_formulas_0 (by decide) ?_
  refine r_istore_n (lv' := [(1, .int (0 : Int32)), (0, .ref (ad 0))]) C hl dX8_formulas_1 rfl (by decide) rfl (fun ls hl => ?_)
  refine r_iconst (v := 0) C dX8_formulas_2 (by decide) ?_
  refine r_istore_n (lv' := [(2, .int (0 : Int32)), (1, .int (0 : Int32)), (0, .ref (ad 0))]) C hl dX8_formulas_3 rfl (by decide) rfl (fun ls hl => ?_)
  exact K4  fu (0 : Int32) (0 : Int32) H L ls hW (lv_sub hl [2, 1, 0] rfl) h
def fX8_ruled (v_isTold : (Nat → Int32)) (v_waits : (Nat → Int32)) (v_readMany : (Nat → Int32)) (p1 : Int32) (p2 : Int32) : Option (Int32) :=
  if p1 = (1 : Int32) then
    rd v_isTold 30 p2 fun x37 =>
    if x37 = (0 : Int32) then
      some (0 : Int32)
    else
      some (1 : Int32)
  else
  if p1 = (2 : Int32) then
    rd v_isTold 30 p2 fun x52 =>
    if x52 = (0 : Int32) then
      some (1 : Int32)
    else
      some (0 : Int32)
  else
  if p1 = (3 : Int32) then
    bd1 (fX8_circleOf v_isTold v_waits p2) fun r64 =>
    if r64 ≤ (0 : Int32) then
      some (0 : Int32)
    else
      some (1 : Int32)
  else
  if p1 = (4 : Int32) then
    bd1 (fX8_isFirst v_isTold v_waits p2) fun r78 =>
    if r78 = (0 : Int32) then
      some (0 : Int32)
    else
      some (1 : Int32)
  else
    rd v_readMany 30 p2 fun x95 =>
    some x95
set_option maxRecDepth 100000 in
set_option maxHeartbeats 8000000 in
theorem mX8_ruled (X : Ev) (ad : Nat → Nat) (v_state : (Nat → Int32)) (v_tape : (Nat → Int32)) (v_taped : Int32) (v_fault : Int32) (v_broken : Int32) (v_brokenAt : Int32) (v_spot : Int32) (v_here : Int32) (v_token : Int32) (v_number : Int32) (v_ends : (Nat → Int32)) (v_letters : (Nat → Int32)) (v_values : (Nat → Int32)) (v_isTold : (Nat → Int32)) (v_waits : (Nat → Int32)) (v_readsOf : (Nat → Int32)) (v_readMany : (Nat → Int32)) (v_heights : (Nat → Int32)) (v_isStarted : Int32) (v_oldValues : (Nat → Int32)) (v_isOldTold : (Nat → Int32)) (v_oldReads : (Nat → Int32)) (v_evaluated : Int32) (v_moved : Int32) (v_isChanged : Int32) (v_undos : (Nat → Int32)) (v_undoMany : Int32) (v_undoAside : (Nat → Int32)) (v_formula : (Nat → Int32)) (v_isKept : (Nat → Int32)) (v_lanes : (Nat → Int32)) (v_lengths : (Nat → Int32)) (v_items : (Nat → Int32)) (v_torn : Int32) (v_isAsideChanged : Int32) (p1 : Int32) (p2 : Int32) (o : Int32) (h : fX8_ruled v_isTold v_waits v_readMany p1 p2 = some o) : Ctr X yX8_ruled cX8_ruled 3 (some .int) 2 48 0 0 [.ref (ad 0), .int p1, .int p2] [(ad 0, .inr (8, [.ref (ad 1), .ref (ad 2), .int v_taped, .int v_fault, .int v_broken, .int v_brokenAt, .int v_spot, .int v_here, .int v_token, .int v_number, .ref (ad 3), .ref (ad 4), .ref (ad 5), .ref (ad 6), .ref (ad 7), .ref (ad 8), .ref (ad 9), .ref (ad 10), .int v_isStarted, .ref (ad 11), .ref (ad 12), .ref (ad 13), .int v_evaluated, .int v_moved, .int v_isChanged, .ref (ad 14), .int v_undoMany, .ref (ad 15), .ref (ad 16), .ref (ad 17), .ref (ad 18), .ref (ad 19), .ref (ad 20), .int v_torn, .int v_isAsideChanged])), (ad 1, .inl (eI X, 720, .inl v_state)), (ad 2, .inl (eI X, 320, .inl v_tape)), (ad 3, .inl (eI X, 9, .inl v_ends)), (ad 4, .inl (eI X, 27, .inl v_letters)), (ad 5, .inl (eI X, 30, .inl v_values)), (ad 6, .inl (eZ X, 30, .inl v_isTold)), (ad 7, .inl (eI X, 30, .inl v_waits)), (ad 8, .inl (eI X, 900, .inl v_readsOf)), (ad 9, .inl (eI X, 30, .inl v_readMany)), (ad 10, .inl (eI X, 30, .inl v_heights)), (ad 11, .inl (eI X, 30, .inl v_oldValues)), (ad 12, .inl (eZ X, 30, .inl v_isOldTold)), (ad 13, .inl (eI X, 30, .inl v_oldReads)), (ad 14, .inl (eI X, 100, .inl v_undos)), (ad 15, .inl (eI X, 103, .inl v_undoAside)), (ad 16, .inl (eI X, 4, .inl v_formula)), (ad 17, .inl (eZ X, 2, .inl v_isKept)), (ad 18, .inl (eI X, 4, .inl v_lanes)), (ad 19, .inl (eI X, 4, .inl v_lengths)), (ad 20, .inl (eI X, 160, .inl v_items))] (De (some (.int o)) [(ad 0, .inr (8, [.ref (ad 1), .ref (ad 2), .int v_taped, .int v_fault, .int v_broken, .int v_brokenAt, .int v_spot, .int v_here, .int v_token, .int v_number, .ref (ad 3), .ref (ad 4), .ref (ad 5), .ref (ad 6), .ref (ad 7), .ref (ad 8), .ref (ad 9), .ref (ad 10), .int v_isStarted, .ref (ad 11), .ref (ad 12), .ref (ad 13), .int v_evaluated, .int v_moved, .int v_isChanged, .ref (ad 14), .int v_undoMany, .ref (ad 15), .ref (ad 16), .ref (ad 17), .ref (ad 18), .ref (ad 19), .ref (ad 20), .int v_torn, .int v_isAsideChanged])), (ad 1, .inl (eI X, 720, .inl v_state)), (ad 2, .inl (eI X, 320, .inl v_tape)), (ad 3, .inl (eI X, 9, .inl v_ends)), (ad 4, .inl (eI X, 27, .inl v_letters)), (ad 5, .inl (eI X, 30, .inl v_values)), (ad 6, .inl (eZ X, 30, .inl v_isTold)), (ad 7, .inl (eI X, 30, .inl v_waits)), (ad 8, .inl (eI X, 900, .inl v_readsOf)), (ad 9, .inl (eI X, 30, .inl v_readMany)), (ad 10, .inl (eI X, 30, .inl v_heights)), (ad 11, .inl (eI X, 30, .inl v_oldValues)), (ad 12, .inl (eZ X, 30, .inl v_isOldTold)), (ad 13, .inl (eI X, 30, .inl v_oldReads)), (ad 14, .inl (eI X, 100, .inl v_undos)), (ad 15, .inl (eI X, 103, .inl v_undoAside)), (ad 16, .inl (eI X, 4, .inl v_formula)), (ad 17, .inl (eZ X, 2, .inl v_isKept)), (ad 18, .inl (eI X, 4, .inl v_lanes)), (ad 19, .inl (eI X, 4, .inl v_lengths)), (ad 20, .inl (eI X, 160, .inl v_items))]) := by
  refine Ctr.start (by decide) (Nat.le_of_ble_eq_true rfl) (fun k A ls C hq hin hW hl => ?_)
  replace C : Cx X k cX8_ruled 3 (some .int) RX8 A 2 48 0 0 := C
  replace hl : lv_has ls 3 [(0, .ref (ad 0)), (1, .int p1), (2, .int p2)] := hl
  suffices hh : ∀ (H : Heap) (L : List Loc), Wd X k A [(ad 0, .inr (8, [.ref (ad 1), .ref (ad 2), .int v_taped, .int v_fault, .int v_broken, .int v_brokenAt, .int v_spot, .int v_here, .int v_token, .int v_number, .ref (ad 3), .ref (ad 4), .ref (ad 5), .ref (ad 6), .ref (ad 7), .ref (ad 8), .ref (ad 9), .ref (ad 10), .int v_isStarted, .ref (ad 11), .ref (ad 12), .ref (ad 13), .int v_evaluated, .int v_moved, .int v_isChanged, .ref (ad 14), .int v_undoMany, .ref (ad 15), .ref (ad 16), .ref (ad 17), .ref (ad 18), .ref (ad 19), .ref (ad 20), .int v_torn, .int v_isAsideChanged])), (ad 1, .inl (eI X, 720, .inl v_state)), (ad 2, .inl (eI X, 320, .inl v_tape)), (ad 3, .inl (eI X, 9, .inl v_ends)), (ad 4, .inl (eI X, 27, .inl v_letters)), (ad 5, .inl (eI X, 30, .inl v_values)), (ad 6, .inl (eZ X, 30, .inl v_isTold)), (ad 7, .inl (eI X, 30, .inl v_waits)), (ad 8, .inl (eI X, 900, .inl v_readsOf)), (ad 9, .inl (eI X, 30, .inl v_readMany)), (ad 10, .inl (eI X, 30, .inl v_heights)), (ad 11, .inl (eI X, 30, .inl v_oldValues)), (ad 12, .inl (eZ X, 30, .inl v_isOldTold)), (ad 13, .inl (eI X, 30, .inl v_oldReads)), (ad 14, .inl (eI X, 100, .inl v_undos)), (ad 15, .inl (eI X, 103, .inl v_undoAside)), (ad 16, .inl (eI X, 4, .inl v_formula)), (ad 17, .inl (eZ X, 2, .inl v_isKept)), (ad 18, .inl (eI X, 4, .inl v_lanes)), (ad 19, .inl (eI X, 4, .inl v_lengths)), (ad 20, .inl (eI X, 160, .inl v_items))] H L → Wx X k 0 0 H L 0 ls [] from hh _ _ hW
  clear hW
  intro H L hW
  unfold fX8_ruled at h
  refine r_iload_n C hl 1 dX8_ruled_0 rfl rfl ?_
  by_cases c1_1 : p1 = (1 : Int32)
  · replace h := iT c1_1 h
    refine r_swI (tgt := 32) C dX8_ruled_1 c1_1 (by decide) (by decide) rfl (by decide) ?_
    refine r_aload_n C hl 0 dX8_ruled_32 rfl rfl ?_
    refine r_get C hW 0 rfl rfl iwX8 13 (by decide) w_fl_X8_25 rfl dX8_ruled_33 ?_
    refine r_iload_n C hl 2 dX8_ruled_36 rfl rfl ?_
    obtain ⟨x37, e37, g37, h⟩ := rd_some h
    refine r_zald C hW 6 rfl g37 e37 dX8_ruled_37 ?_
    refine r_if_eq (tgt := 45) C dX8_ruled_38 (by decide) (fun c38 => ?_) (fun c38 => ?_)
    · replace h := iT c38 h
      refine r_iconst (v := 0) C dX8_ruled_45 (by decide) ?_
      exact r_iret C hq hW (by obtain rfl := Option.some.inj h; exact ⟨rfl, rfl⟩) dX8_ruled_46
    · replace h := iF c38 h
      refine r_iconst (v := 1) C dX8_ruled_41 (by decide) ?_
      refine r_goto (tgt := 46) C dX8_ruled_42 (by decide) ?_
      exact r_iret C hq hW (by obtain rfl := Option.some.inj h; exact ⟨rfl, rfl⟩) dX8_ruled_46
  · replace h := iF c1_1 h
    by_cases c1_2 : p1 = (2 : Int32)
    · replace h := iT c1_2 h
      refine r_swI (tgt := 47) C dX8_ruled_1 c1_2 (by decide) (by decide) rfl (by decide) ?_
      refine r_aload_n C hl 0 dX8_ruled_47 rfl rfl ?_
      refine r_get C hW 0 rfl rfl iwX8 13 (by decide) w_fl_X8_25 rfl dX8_ruled_48 ?_
      refine r_iload_n C hl 2 dX8_ruled_51 rfl rfl ?_
      obtain ⟨x52, e52, g52, h⟩ := rd_some h
      refine r_zald C hW 6 rfl g52 e52 dX8_ruled_52 ?_
      refine r_if_eq (tgt := 60) C dX8_ruled_53 (by decide) (fun c53 => ?_) (fun c53 => ?_)
      · replace h := iT c53 h
        refine r_iconst (v := 1) C dX8_ruled_60 (by decide) ?_
        exact r_iret C hq hW (by obtain rfl := Option.some.inj h; exact ⟨rfl, rfl⟩) dX8_ruled_61
      · replace h := iF c53 h
        refine r_iconst (v := 0) C dX8_ruled_56 (by decide) ?_
        refine r_goto (tgt := 61) C dX8_ruled_57 (by decide) ?_
        exact r_iret C hq hW (by obtain rfl := Option.some.inj h; exact ⟨rfl, rfl⟩) dX8_ruled_61
    · replace h := iF c1_2 h
      by_cases c1_3 : p1 = (3 : Int32)
      · replace h := iT c1_3 h
        refine r_swI (tgt := 62) C dX8_ruled_1 c1_3 (by decide) (by decide) rfl (by decide) ?_
        refine r_aload_n C hl 0 dX8_ruled_62 rfl rfl ?_
        refine r_iload_n C hl 2 dX8_ruled_63 rfl rfl ?_
        obtain ⟨r64, h64, h⟩ := bd1_some h
        refine r_V (wr := []) (np := 1) C hl (mX8_circleOf X ad  v_state v_tape v_taped v_fault v_broken v_brokenAt v_spot v_here v_token v_number v_ends v_letters v_values v_isTold v_waits v_readsOf v_readMany v_heights v_isStarted v_oldValues v_isOldTold v_oldReads v_evaluated v_moved v_isChanged v_undos v_undoMany v_undoAside v_formula v_isKept v_lanes v_lengths v_items v_torn v_isAsideChanged p2 r64 h64) hW [0, 1, 2, 3, 4, 5, 6, 7, 8, 9, 10, 11, 12, 13, 14, 15, 16, 17, 18, 19, 20] [] rfl rfl rfl rfl (by decide) 0 rfl rfl w_cd_X8_circleOf w_ml_X8_174 w_im_X8_circleOf w_sel_X8_circleOf w_in_HeightSheetModel (by decide +kernel) rfl ⟨Nat.le_of_ble_eq_true rfl, Nat.le_of_ble_eq_true rfl⟩ ⟨Nat.zero_le _, Nat.zero_le _⟩ (Nat.le_of_ble_eq_true rfl) dX8_ruled_64 (fun rv w1 H L hp hW => ?_) rfl
        obtain ⟨rfl, rfl⟩ := hp
        replace hW : Wd X k A [(ad 0, .inr (8, [.ref (ad 1), .ref (ad 2), .int v_taped, .int v_fault, .int v_broken, .int v_brokenAt, .int v_spot, .int v_here, .int v_token, .int v_number, .ref (ad 3), .ref (ad 4), .ref (ad 5), .ref (ad 6), .ref (ad 7), .ref (ad 8), .ref (ad 9), .ref (ad 10), .int v_isStarted, .ref (ad 11), .ref (ad 12), .ref (ad 13), .int v_evaluated, .int v_moved, .int v_isChanged, .ref (ad 14), .int v_undoMany, .ref (ad 15), .ref (ad 16), .ref (ad 17), .ref (ad 18), .ref (ad 19), .ref (ad 20), .int v_torn, .int v_isAsideChanged])), (ad 1, .inl (eI X, 720, .inl v_state)), (ad 2, .inl (eI X, 320, .inl v_tape)), (ad 3, .inl (eI X, 9, .inl v_ends)), (ad 4, .inl (eI X, 27, .inl v_letters)), (ad 5, .inl (eI X, 30, .inl v_values)), (ad 6, .inl (eZ X, 30, .inl v_isTold)), (ad 7, .inl (eI X, 30, .inl v_waits)), (ad 8, .inl (eI X, 900, .inl v_readsOf)), (ad 9, .inl (eI X, 30, .inl v_readMany)), (ad 10, .inl (eI X, 30, .inl v_heights)), (ad 11, .inl (eI X, 30, .inl v_oldValues)), (ad 12, .inl (eZ X, 30, .inl v_isOldTold)), (ad 13, .inl (eI X, 30, .inl v_oldReads)), (ad 14, .inl (eI X, 100, .inl v_undos)), (ad 15, .inl (eI X, 103, .inl v_undoAside)), (ad 16, .inl (eI X, 4, .inl v_formula)), (ad 17, .inl (eZ X, 2, .inl v_isKept)), (ad 18, .inl (eI X, 4, .inl v_lanes)), (ad 19, .inl (eI X, 4, .inl v_lengths)), (ad 20, .inl (eI X, 160, .inl v_items))] H L := hW.sub [0, 1, 2, 3, 4, 5, 6, 7, 8, 9, 10, 11, 12, 13, 14, 15, 16, 17, 18, 19, 20] rfl rfl
        show Wx X k 0 0 H L 67 ls [.int r64]
        refine r_if_le (tgt := 74) C dX8_ruled_67 (by decide) (fun c67 => ?_) (fun c67 => ?_)
        · replace h := iT c67 h
          refine r_iconst (v := 0) C dX8_ruled_74 (by decide) ?_
          exact r_iret C hq hW (by obtain rfl := Option.some.inj h; exact ⟨rfl, rfl⟩) dX8_ruled_75
        · replace h := iF c67 h
          refine r_iconst (v := 1) C dX8_ruled_70 (by decide) ?_
          refine r_goto (tgt := 75) C dX8_ruled_71 (by decide) ?_
          exact r_iret C hq hW (by obtain rfl := Option.some.inj h; exact ⟨rfl, rfl⟩) dX8_ruled_75
      · replace h := iF c1_3 h
        by_cases c1_4 : p1 = (4 : Int32)
        · replace h := iT c1_4 h
          refine r_swI (tgt := 76) C dX8_ruled_1 c1_4 (by decide) (by decide) rfl (by decide) ?_
          refine r_aload_n C hl 0 dX8_ruled_76 rfl rfl ?_
          refine r_iload_n C hl 2 dX8_ruled_77 rfl rfl ?_
          obtain ⟨r78, h78, h⟩ := bd1_some h
          refine r_V (wr := []) (np := 1) C hl (mX8_isFirst X ad  v_state v_tape v_taped v_fault v_broken v_brokenAt v_spot v_here v_token v_number v_ends v_letters v_values v_isTold v_waits v_readsOf v_readMany v_heights v_isStarted v_oldValues v_isOldTold v_oldReads v_evaluated v_moved v_isChanged v_undos v_undoMany v_undoAside v_formula v_isKept v_lanes v_lengths v_items v_torn v_isAsideChanged p2 r78 h78) hW [0, 1, 2, 3, 4, 5, 6, 7, 8, 9, 10, 11, 12, 13, 14, 15, 16, 17, 18, 19, 20] [] rfl rfl rfl rfl (by decide) 0 rfl rfl w_cd_X8_isFirst w_ml_X8_177 w_im_X8_isFirst w_sel_X8_isFirst w_in_HeightSheetModel (by decide +kernel) rfl ⟨Nat.le_of_ble_eq_true rfl, Nat.le_of_ble_eq_true rfl⟩ ⟨Nat.zero_le _, Nat.zero_le _⟩ (Nat.le_of_ble_eq_true rfl) dX8_ruled_78 (fun rv w1 H L hp hW => ?_) rfl
          obtain ⟨rfl, rfl⟩ := hp
          replace hW : Wd X k A [(ad 0, .inr (8, [.ref (ad 1), .ref (ad 2), .int v_taped, .int v_fault, .int v_broken, .int v_brokenAt, .int v_spot, .int v_here, .int v_token, .int v_number, .ref (ad 3), .ref (ad 4), .ref (ad 5), .ref (ad 6), .ref (ad 7), .ref (ad 8), .ref (ad 9), .ref (ad 10), .int v_isStarted, .ref (ad 11), .ref (ad 12), .ref (ad 13), .int v_evaluated, .int v_moved, .int v_isChanged, .ref (ad 14), .int v_undoMany, .ref (ad 15), .ref (ad 16), .ref (ad 17), .ref (ad 18), .ref (ad 19), .ref (ad 20), .int v_torn, .int v_isAsideChanged])), (ad 1, .inl (eI X, 720, .inl v_state)), (ad 2, .inl (eI X, 320, .inl v_tape)), (ad 3, .inl (eI X, 9, .inl v_ends)), (ad 4, .inl (eI X, 27, .inl v_letters)), (ad 5, .inl (eI X, 30, .inl v_values)), (ad 6, .inl (eZ X, 30, .inl v_isTold)), (ad 7, .inl (eI X, 30, .inl v_waits)), (ad 8, .inl (eI X, 900, .inl v_readsOf)), (ad 9, .inl (eI X, 30, .inl v_readMany)), (ad 10, .inl (eI X, 30, .inl v_heights)), (ad 11, .inl (eI X, 30, .inl v_oldValues)), (ad 12, .inl (eZ X, 30, .inl v_isOldTold)), (ad 13, .inl (eI X, 30, .inl v_oldReads)), (ad 14, .inl (eI X, 100, .inl v_undos)), (ad 15, .inl (eI X, 103, .inl v_undoAside)), (ad 16, .inl (eI X, 4, .inl v_formula)), (ad 17, .inl (eZ X, 2, .inl v_isKept)), (ad 18, .inl (eI X, 4, .inl v_lanes)), (ad 19, .inl (eI X, 4, .inl v_lengths)), (ad 20, .inl (eI X, 160, .inl v_items))] H L := hW.sub [0, 1, 2, 3, 4, 5, 6, 7, 8, 9, 10, 11, 12, 13, 14, 15, 16, 17, 18, 19, 20] rfl rfl
          show Wx X k 0 0 H L 81 ls [.int r78]
          refine r_if_eq (tgt := 88) C dX8_ruled_81 (by decide) (fun c81 => ?_) (fun c81 => ?_)
          · replace h := iT c81 h
            refine r_iconst (v := 0) C dX8_ruled_88 (by decide) ?_
            exact r_iret C hq hW (by obtain rfl := Option.some.inj h; exact ⟨rfl, rfl⟩) dX8_ruled_89
          · replace h := iF c81 h
            refine r_iconst (v := 1) C dX8_ruled_84 (by decide) ?_
            refine r_goto (tgt := 89) C dX8_ruled_85 (by decide) ?_
            exact r_iret C hq hW (by obtain rfl := Option.some.inj h; exact ⟨rfl, rfl⟩) dX8_ruled_89
        · replace h := iF c1_4 h
          refine r_swO (tgt := 90) C dX8_ruled_1 (by have t_ := And.intro trivial trivial; have u1 := lv_neT (a := 1) c1_1 rfl; have u2 := lv_neT (a := 2) c1_2 rfl; have u3 := lv_neT (a := 3) c1_3 rfl; have u4 := lv_neT (a := 4) c1_4 rfl; omega) (by decide) ?_
          refine r_aload_n C hl 0 dX8_ruled_90 rfl rfl ?_
          refine r_get C hW 0 rfl rfl iwX8 16 (by decide) w_fl_X8_35 rfl dX8_ruled_91 ?_
          refine r_iload_n C hl 2 dX8_ruled_94 rfl rfl ?_
          obtain ⟨x95, e95, g95, h⟩ := rd_some h
          refine r_iald C hW 9 rfl g95 e95 dX8_ruled_95 ?_
          exact r_iret C hq hW (by obtain rfl := Option.some.inj h; exact ⟨rfl, rfl⟩) dX8_ruled_96
def fX8_starts (v_state : (Nat → Int32)) (v_values : (Nat → Int32)) (v_isTold : (Nat → Int32)) (v_waits : (Nat → Int32)) (v_readsOf : (Nat → Int32)) (v_readMany : (Nat → Int32)) (v_heights : (Nat → Int32)) (v_isStarted : Int32) : Option ((Nat → Int32) × (Nat → Int32) × (Nat → Int32) × (Nat → Int32) × (Nat → Int32) × (Nat → Int32) × Int32) :=
  if v_isStarted = (0 : Int32) then
    bd6 (fX8_settles v_state v_values v_isTold v_waits v_readsOf v_readMany v_heights) fun c13_values c13_isTold c13_waits c13_readsOf c13_readMany c13_heights =>
    some (c13_values, c13_isTold, c13_waits, c13_readsOf, c13_readMany, c13_heights, (1 : Int32))
  else
    some (v_values, v_isTold, v_waits, v_readsOf, v_readMany, v_heights, v_isStarted)
set_option maxRecDepth 100000 in
set_option maxHeartbeats 8000000 in
theorem mX8_starts (X : Ev) (ad : Nat → Nat) (v_state : (Nat → Int32)) (v_tape : (Nat → Int32)) (v_taped : Int32) (v_fault : Int32) (v_broken : Int32) (v_brokenAt : Int32) (v_spot : Int32) (v_here : Int32) (v_token : Int32) (v_number : Int32) (v_ends : (Nat → Int32)) (v_letters : (Nat → Int32)) (v_values : (Nat → Int32)) (v_isTold : (Nat → Int32)) (v_waits : (Nat → Int32)) (v_readsOf : (Nat → Int32)) (v_readMany : (Nat → Int32)) (v_heights : (Nat → Int32)) (v_isStarted : Int32) (v_oldValues : (Nat → Int32)) (v_isOldTold : (Nat → Int32)) (v_oldReads : (Nat → Int32)) (v_evaluated : Int32) (v_moved : Int32) (v_isChanged : Int32) (v_undos : (Nat → Int32)) (v_undoMany : Int32) (v_undoAside : (Nat → Int32)) (v_formula : (Nat → Int32)) (v_isKept : (Nat → Int32)) (v_lanes : (Nat → Int32)) (v_lengths : (Nat → Int32)) (v_items : (Nat → Int32)) (v_torn : Int32) (v_isAsideChanged : Int32)  (o : (Nat → Int32) × (Nat → Int32) × (Nat → Int32) × (Nat → Int32) × (Nat → Int32) × (Nat → Int32) × Int32) (h : fX8_starts v_state v_values v_isTold v_waits v_readsOf v_readMany v_heights v_isStarted = some o) : Ctr X yX8_starts cX8_starts 1 none 5 116 0 0 [.ref (ad 0)] [(ad 0, .inr (8, [.ref (ad 1), .ref (ad 2), .int v_taped, .int v_fault, .int v_broken, .int v_brokenAt, .int v_spot, .int v_here, .int v_token, .int v_number, .ref (ad 3), .ref (ad 4), .ref (ad 5), .ref (ad 6), .ref (ad 7), .ref (ad 8), .ref (ad 9), .ref (ad 10), .int v_isStarted, .ref (ad 11), .ref (ad 12), .ref (ad 13), .int v_evaluated, .int v_moved, .int v_isChanged, .ref (ad 14), .int v_undoMany, .ref (ad 15), .ref (ad 16), .ref (ad 17), .ref (ad 18), .ref (ad 19), .ref (ad 20), .int v_torn, .int v_isAsideChanged])), (ad 1, .inl (eI X, 720, .inl v_state)), (ad 2, .inl (eI X, 320, .inl v_tape)), (ad 3, .inl (eI X, 9, .inl v_ends)), (ad 4, .inl (eI X, 27, .inl v_letters)), (ad 5, .inl (eI X, 30, .inl v_values)), (ad 6, .inl (eZ X, 30, .inl v_isTold)), (ad 7, .inl (eI X, 30, .inl v_waits)), (ad 8, .inl (eI X, 900, .inl v_readsOf)), (ad 9, .inl (eI X, 30, .inl v_readMany)), (ad 10, .inl (eI X, 30, .inl v_heights)), (ad 11, .inl (eI X, 30, .inl v_oldValues)), (ad 12, .inl (eZ X, 30, .inl v_isOldTold)), (ad 13, .inl (eI X, 30, .inl v_oldReads)), (ad 14, .inl (eI X, 100, .inl v_undos)), (ad 15, .inl (eI X, 103, .inl v_undoAside)), (ad 16, .inl (eI X, 4, .inl v_formula)), (ad 17, .inl (eZ X, 2, .inl v_isKept)), (ad 18, .inl (eI X, 4, .inl v_lanes)), (ad 19, .inl (eI X, 4, .inl v_lengths)), (ad 20, .inl (eI X, 160, .inl v_items))] (De none [(ad 0, .inr (8, [.ref (ad 1), .ref (ad 2), .int v_taped, .int v_fault, .int v_broken, .int v_brokenAt, .int v_spot, .int v_here, .int v_token, .int v_number, .ref (ad 3), .ref (ad 4), .ref (ad 5), .ref (ad 6), .ref (ad 7), .ref (ad 8), .ref (ad 9), .ref (ad 10), .int (o.2.2.2.2.2.2), .ref (ad 11), .ref (ad 12), .ref (ad 13), .int v_evaluated, .int v_moved, .int v_isChanged, .ref (ad 14), .int v_undoMany, .ref (ad 15), .ref (ad 16), .ref (ad 17), .ref (ad 18), .ref (ad 19), .ref (ad 20), .int v_torn, .int v_isAsideChanged])), (ad 1, .inl (eI X, 720, .inl v_state)), (ad 2, .inl (eI X, 320, .inl v_tape)), (ad 3, .inl (eI X, 9, .inl v_ends)), (ad 4, .inl (eI X, 27, .inl v_letters)), (ad 5, .inl (eI X, 30, .inl (o.1))), (ad 6, .inl (eZ X, 30, .inl (o.2.1))), (ad 7, .inl (eI X, 30, .inl (o.2.2.1))), (ad 8, .inl (eI X, 900, .inl (o.2.2.2.1))), (ad 9, .inl (eI X, 30, .inl (o.2.2.2.2.1))), (ad 10, .inl (eI X, 30, .inl (o.2.2.2.2.2.1))), (ad 11, .inl (eI X, 30, .inl v_oldValues)), (ad 12, .inl (eZ X, 30, .inl v_isOldTold)), (ad 13, .inl (eI X, 30, .inl v_oldReads)), (ad 14, .inl (eI X, 100, .inl v_undos)), (ad 15, .inl (eI X, 103, .inl v_undoAside)), (ad 16, .inl (eI X, 4, .inl v_formula)), (ad 17, .inl (eZ X, 2, .inl v_isKept)), (ad 18, .inl (eI X, 4, .inl v_lanes)), (ad 19, .inl (eI X, 4, .inl v_lengths)), (ad 20, .inl (eI X, 160, .inl v_items))]) := by
  refine Ctr.start (by decide) (Nat.le_of_ble_eq_true rfl) (fun k A ls C hq hin hW hl => ?_)
  replace C : Cx X k cX8_starts 1 none RX8 A 5 116 0 0 := C
  replace hl : lv_has ls 1 [(0, .ref (ad 0))] := hl
  suffices hh : ∀ (H : Heap) (L : List Loc), Wd X k A [(ad 0, .inr (8, [.ref (ad 1), .ref (ad 2), .int v_taped, .int v_fault, .int v_broken, .int v_brokenAt, .int v_spot, .int v_here, .int v_token, .int v_number, .ref (ad 3), .ref (ad 4), .ref (ad 5), .ref (ad 6), .ref (ad 7), .ref (ad 8), .ref (ad 9), .ref (ad 10), .int v_isStarted, .ref (ad 11), .ref (ad 12), .ref (ad 13), .int v_evaluated, .int v_moved, .int v_isChanged, .ref (ad 14), .int v_undoMany, .ref (ad 15), .ref (ad 16), .ref (ad 17), .ref (ad 18), .ref (ad 19), .ref (ad 20), .int v_torn, .int v_isAsideChanged])), (ad 1, .inl (eI X, 720, .inl v_state)), (ad 2, .inl (eI X, 320, .inl v_tape)), (ad 3, .inl (eI X, 9, .inl v_ends)), (ad 4, .inl (eI X, 27, .inl v_letters)), (ad 5, .inl (eI X, 30, .inl v_values)), (ad 6, .inl (eZ X, 30, .inl v_isTold)), (ad 7, .inl (eI X, 30, .inl v_waits)), (ad 8, .inl (eI X, 900, .inl v_readsOf)), (ad 9, .inl (eI X, 30, .inl v_readMany)), (ad 10, .inl (eI X, 30, .inl v_heights)), (ad 11, .inl (eI X, 30, .inl v_oldValues)), (ad 12, .inl (eZ X, 30, .inl v_isOldTold)), (ad 13, .inl (eI X, 30, .inl v_oldReads)), (ad 14, .inl (eI X, 100, .inl v_undos)), (ad 15, .inl (eI X, 103, .inl v_undoAside)), (ad 16, .inl (eI X, 4, .inl v_formula)), (ad 17, .inl (eZ X, 2, .inl v_isKept)), (ad 18, .inl (eI X, 4, .inl v_lanes)), (ad 19, .inl (eI X, 4, .inl v_lengths)), (ad 20, .inl (eI X, 160, .inl v_items))] H L → Wx X k 0 0 H L 0 ls [] from hh _ _ hW
  clear hW
  intro H L hW
  unfold fX8_starts at h
  refine r_aload_n C hl 0 dX8_starts_0 rfl rfl ?_
  refine r_get C hW 0 rfl rfl iwX8 18 (by decide) w_fl_X8_180 rfl dX8_starts_1 ?_
  refine r_if_ne (tgt := 16) C dX8_starts_4 (by decide) (fun c4 => ?_) (fun c4 => ?_)
  · replace h := iF c4 h
    exact r_vret C hq hW (by obtain rfl := Option.some.inj h; exact ⟨rfl, rfl⟩) dX8_starts_16
  · replace h := iT c4 h
    refine r_aload_n C hl 0 dX8_starts_7 rfl rfl ?_
    refine r_iconst (v := 1) C dX8_starts_8 (by decide) ?_
    refine r_put (ws' := [(ad 0, .inr (8, [.ref (ad 1), .ref (ad 2), .int v_taped, .int v_fault, .int v_broken, .int v_brokenAt, .int v_spot, .int v_here, .int v_token, .int v_number, .ref (ad 3), .ref (ad 4), .ref (ad 5), .ref (ad 6), .ref (ad 7), .ref (ad 8), .ref (ad 9), .ref (ad 10), .int (1 : Int32), .ref (ad 11), .ref (ad 12), .ref (ad 13), .int v_evaluated, .int v_moved, .int v_isChanged, .ref (ad 14), .int v_undoMany, .ref (ad 15), .ref (ad 16), .ref (ad 17), .ref (ad 18), .ref (ad 19), .ref (ad 20), .int v_torn, .int v_isAsideChanged])), (ad 1, .inl (eI X, 720, .inl v_state)), (ad 2, .inl (eI X, 320, .inl v_tape)), (ad 3, .inl (eI X, 9, .inl v_ends)), (ad 4, .inl (eI X, 27, .inl v_letters)), (ad 5, .inl (eI X, 30, .inl v_values)), (ad 6, .inl (eZ X, 30, .inl v_isTold)), (ad 7, .inl (eI X, 30, .inl v_waits)), (ad 8, .inl (eI X, 900, .inl v_readsOf)), (ad 9, .inl (eI X, 30, .inl v_readMany)), (ad 10, .inl (eI X, 30, .inl v_heights)), (ad 11, .inl (eI X, 30, .inl v_oldValues)), (ad 12, .inl (eZ X, 30, .inl v_isOldTold)), (ad 13, .inl (eI X, 30, .inl v_oldReads)), (ad 14, .inl (eI X, 100, .inl v_undos)), (ad 15, .inl (eI X, 103, .inl v_undoAside)), (ad 16, .inl (eI X, 4, .inl v_formula)), (ad 17, .inl (eZ X, 2, .inl v_isKept)), (ad 18, .inl (eI X, 4, .inl v_lanes)), (ad 19, .inl (eI X, 4, .inl v_lengths)), (ad 20, .inl (eI X, 160, .inl v_items))]) C hW 0 rfl rfl iwX8 tyX8_ok nmX8 18 (by decide) w_fl_X8_180 rfl (tyX8_ok 18 (by decide)) rfl rfl (Nat.le_of_ble_eq_true rfl) rfl dX8_starts_9 (fun H L hW => ?_)
    refine r_aload_n C hl 0 dX8_starts_12 rfl rfl ?_
    obtain ⟨c13_values, c13_isTold, c13_waits, c13_readsOf, c13_readMany, c13_heights, h13, h⟩ := bd6_some h
    refine r_V (wr := []) (np := 0) C hl (mX8_settles X ad  v_state v_tape v_taped v_fault v_broken v_brokenAt v_spot v_here v_token v_number v_ends v_letters v_values v_isTold v_waits v_readsOf v_readMany v_heights (1 : Int32) v_oldValues v_isOldTold v_oldReads v_evaluated v_moved v_isChanged v_undos v_undoMany v_undoAside v_formula v_isKept v_lanes v_lengths v_items v_torn v_isAsideChanged  (c13_values, c13_isTold, c13_waits, c13_readsOf, c13_readMany, c13_heights) h13) hW [0, 1, 2, 3, 4, 5, 6, 7, 8, 9, 10, 11, 12, 13, 14, 15, 16, 17, 18, 19, 20] [] rfl rfl rfl rfl (by decide) 0 rfl rfl w_cd_X8_settles w_ml_X8_139 w_im_X8_settles w_sel_X8_settles w_in_HeightSheetModel (by decide +kernel) rfl ⟨Nat.le_of_ble_eq_true rfl, Nat.le_of_ble_eq_true rfl⟩ ⟨Nat.zero_le _, Nat.zero_le _⟩ (Nat.le_of_ble_eq_true rfl) dX8_starts_13 (fun rv w1 H L hp hW => ?_) rfl
    obtain ⟨rfl, rfl⟩ := hp
    replace hW : Wd X k A [(ad 0, .inr (8, [.ref (ad 1), .ref (ad 2), .int v_taped, .int v_fault, .int v_broken, .int v_brokenAt, .int v_spot, .int v_here, .int v_token, .int v_number, .ref (ad 3), .ref (ad 4), .ref (ad 5), .ref (ad 6), .ref (ad 7), .ref (ad 8), .ref (ad 9), .ref (ad 10), .int (1 : Int32), .ref (ad 11), .ref (ad 12), .ref (ad 13), .int v_evaluated, .int v_moved, .int v_isChanged, .ref (ad 14), .int v_undoMany, .ref (ad 15), .ref (ad 16), .ref (ad 17), .ref (ad 18), .ref (ad 19), .ref (ad 20), .int v_torn, .int v_isAsideChanged])), (ad 1, .inl (eI X, 720, .inl v_state)), (ad 2, .inl (eI X, 320, .inl v_tape)), (ad 3, .inl (eI X, 9, .inl v_ends)), (ad 4, .inl (eI X, 27, .inl v_letters)), (ad 5, .inl (eI X, 30, .inl c13_values)), (ad 6, .inl (eZ X, 30, .inl c13_isTold)), (ad 7, .inl (eI X, 30, .inl c13_waits)), (ad 8, .inl (eI X, 900, .inl c13_readsOf)), (ad 9, .inl (eI X, 30, .inl c13_readMany)), (ad 10, .inl (eI X, 30, .inl c13_heights)), (ad 11, .inl (eI X, 30, .inl v_oldValues)), (ad 12, .inl (eZ X, 30, .inl v_isOldTold)), (ad 13, .inl (eI X, 30, .inl v_oldReads)), (ad 14, .inl (eI X, 100, .inl v_undos)), (ad 15, .inl (eI X, 103, .inl v_undoAside)), (ad 16, .inl (eI X, 4, .inl v_formula)), (ad 17, .inl (eZ X, 2, .inl v_isKept)), (ad 18, .inl (eI X, 4, .inl v_lanes)), (ad 19, .inl (eI X, 4, .inl v_lengths)), (ad 20, .inl (eI X, 160, .inl v_items))] H L := hW.sub [0, 1, 2, 3, 4, 5, 6, 7, 8, 9, 10, 11, 12, 13, 14, 15, 16, 17, 18, 19, 20] rfl rfl
    show Wx X k 0 0 H L 16 ls []
    exact r_vret C hq hW (by obtain rfl := Option.some.inj h; exact ⟨rfl, rfl⟩) dX8_starts_16
def fX8_rule_j50 (v_state : (Nat → Int32)) (v_undoMany : Int32) (p1 : Int32) (self11 : Int32 → Int32 → Int32 → Option (Int32 × (Nat → Int32) × (Nat → Int32) × (Nat → Int32) × (Nat → Int32) × (Nat → Int32) × (Nat → Int32) × Int32)) (v_values : (Nat → Int32)) (v_isTold : (Nat → Int32)) (v_waits : (Nat → Int32)) (v_readsOf : (Nat → Int32)) (v_readMany : (Nat → Int32)) (v_heights : (Nat → Int32)) (v_isStarted : Int32) (l2 : Int32) (l4 : Int32) (s0 : Int32) : Option (Int32 × (Nat → Int32) × (Nat → Int32) × (Nat → Int32) × (Nat → Int32) × (Nat → Int32) × (Nat → Int32) × Int32) :=
  self11 l2 s0 (l4 + (1 : Int32))
def fX8_rule_b11 (v_state : (Nat → Int32)) (v_undoMany : Int32) (p1 : Int32)  (v_values : (Nat → Int32)) (v_isTold : (Nat → Int32)) (v_waits : (Nat → Int32)) (v_readsOf : (Nat → Int32)) (v_readMany : (Nat → Int32)) (v_heights : (Nat → Int32)) (v_isStarted : Int32) (self11 : Int32 → Int32 → Int32 → Option (Int32 × (Nat → Int32) × (Nat → Int32) × (Nat → Int32) × (Nat → Int32) × (Nat → Int32) × (Nat → Int32) × Int32)) (l2 : Int32) (l3 : Int32) (l4 : Int32) : Option (Int32 × (Nat → Int32) × (Nat → Int32) × (Nat → Int32) × (Nat → Int32) × (Nat → Int32) × (Nat → Int32) × Int32) :=
  if (30 : Int32) ≤ l4 then
    if p1 = (0 : Int32) then
      bd1 (fX8_formulas v_state) fun r93 =>
      some (r93, v_values, v_isTold, v_waits, v_readsOf, v_readMany, v_heights, v_isStarted)
    else
    if p1 = (5 : Int32) then
      some (l3, v_values, v_isTold, v_waits, v_readsOf, v_readMany, v_heights, v_isStarted)
    else
    if p1 = (7 : Int32) then
      some (v_undoMany, v_values, v_isTold, v_waits, v_readsOf, v_readMany, v_heights, v_isStarted)
    else
      bd1 (fX8_in (p1.toInt64) (1 : Int64) (6 : Int64)) fun r110 =>
      if r110 = (0 : Int32) then
        some ((-1 : Int32), v_values, v_isTold, v_waits, v_readsOf, v_readMany, v_heights, v_isStarted)
      else
        some (l2, v_values, v_isTold, v_waits, v_readsOf, v_readMany, v_heights, v_isStarted)
  else
    bd1 (fX8_ruled v_isTold v_waits v_readMany p1 l4) fun r23 =>
    rd v_heights 30 l4 fun x34 =>
    if x34 ≤ l3 then
      fX8_rule_j50 v_state v_undoMany p1 self11 v_values v_isTold v_waits v_readsOf v_readMany v_heights v_isStarted (l2 + r23) l4 l3
    else
      rd v_heights 30 l4 fun x45 =>
      fX8_rule_j50 v_state v_undoMany p1 self11 v_values v_isTold v_waits v_readsOf v_readMany v_heights v_isStarted (l2 + r23) l4 x45
def fX8_rule (v_state : (Nat → Int32)) (v_values : (Nat → Int32)) (v_isTold : (Nat → Int32)) (v_waits : (Nat → Int32)) (v_readsOf : (Nat → Int32)) (v_readMany : (Nat → Int32)) (v_heights : (Nat → Int32)) (v_isStarted : Int32) (v_undoMany : Int32) (p1 : Int32) : Option (Int32 × (Nat → Int32) × (Nat → Int32) × (Nat → Int32) × (Nat → Int32) × (Nat → Int32) × (Nat → Int32) × Int32) :=
  bd7 (fX8_starts v_state v_values v_isTold v_waits v_readsOf v_readMany v_heights v_isStarted) fun c1_values c1_isTold c1_waits c1_readsOf c1_readMany c1_heights c1_isStarted =>
  lq3 (fX8_rule_b11 v_state v_undoMany p1  c1_values c1_isTold c1_waits c1_readsOf c1_readMany c1_heights c1_isStarted) fu (0 : Int32) (0 : Int32) (0 : Int32)
set_option maxRecDepth 100000 in
set_option maxHeartbeats 8000000 in
theorem mX8_rule (X : Ev) (ad : Nat → Nat) (v_state : (Nat → Int32)) (v_tape : (Nat → Int32)) (v_taped : Int32) (v_fault : Int32) (v_broken : Int32) (v_brokenAt : Int32) (v_spot : Int32) (v_here : Int32) (v_token : Int32) (v_number : Int32) (v_ends : (Nat → Int32)) (v_letters : (Nat → Int32)) (v_values : (Nat → Int32)) (v_isTold : (Nat → Int32)) (v_waits : (Nat → Int32)) (v_readsOf : (Nat → Int32)) (v_readMany : (Nat → Int32)) (v_heights : (Nat → Int32)) (v_isStarted : Int32) (v_oldValues : (Nat → Int32)) (v_isOldTold : (Nat → Int32)) (v_oldReads : (Nat → Int32)) (v_evaluated : Int32) (v_moved : Int32) (v_isChanged : Int32) (v_undos : (Nat → Int32)) (v_undoMany : Int32) (v_undoAside : (Nat → Int32)) (v_formula : (Nat → Int32)) (v_isKept : (Nat → Int32)) (v_lanes : (Nat → Int32)) (v_lengths : (Nat → Int32)) (v_items : (Nat → Int32)) (v_torn : Int32) (v_isAsideChanged : Int32) (p1 : Int32) (o : Int32 × (Nat → Int32) × (Nat → Int32) × (Nat → Int32) × (Nat → Int32) × (Nat → Int32) × (Nat → Int32) × Int32) (h : fX8_rule v_state v_values v_isTold v_waits v_readsOf v_readMany v_heights v_isStarted v_undoMany p1 = some o) : Ctr X yX8_rule cX8_rule 5 (some .int) 6 136 0 0 [.ref (ad 0), .int p1] [(ad 0, .inr (8, [.ref (ad 1), .ref (ad 2), .int v_taped, .int v_fault, .int v_broken, .int v_brokenAt, .int v_spot, .int v_here, .int v_token, .int v_number, .ref (ad 3), .ref (ad 4), .ref (ad 5), .ref (ad 6), .ref (ad 7), .ref (ad 8), .ref (ad 9), .ref (ad 10), .int v_isStarted, .ref (ad 11), .ref (ad 12), .ref (ad 13), .int v_evaluated, .int v_moved, .int v_isChanged, .ref (ad 14), .int v_undoMany, .ref (ad 15), .ref (ad 16), .ref (ad 17), .ref (ad 18), .ref (ad 19), .ref (ad 20), .int v_torn, .int v_isAsideChanged])), (ad 1, .inl (eI X, 720, .inl v_state)), (ad 2, .inl (eI X, 320, .inl v_tape)), (ad 3, .inl (eI X, 9, .inl v_ends)), (ad 4, .inl (eI X, 27, .inl v_letters)), (ad 5, .inl (eI X, 30, .inl v_values)), (ad 6, .inl (eZ X, 30, .inl v_isTold)), (ad 7, .inl (eI X, 30, .inl v_waits)), (ad 8, .inl (eI X, 900, .inl v_readsOf)), (ad 9, .inl (eI X, 30, .inl v_readMany)), (ad 10, .inl (eI X, 30, .inl v_heights)), (ad 11, .inl (eI X, 30, .inl v_oldValues)), (ad 12, .inl (eZ X, 30, .inl v_isOldTold)), (ad 13, .inl (eI X, 30, .inl v_oldReads)), (ad 14, .inl (eI X, 100, .inl v_undos)), (ad 15, .inl (eI X, 103, .inl v_undoAside)), (ad 16, .inl (eI X, 4, .inl v_formula)), (ad 17, .inl (eZ X, 2, .inl v_isKept)), (ad 18, .inl (eI X, 4, .inl v_lanes)), (ad 19, .inl (eI X, 4, .inl v_lengths)), (ad 20, .inl (eI X, 160, .inl v_items))] (De (some (.int o.1)) [(ad 0, .inr (8, [.ref (ad 1), .ref (ad 2), .int v_taped, .int v_fault, .int v_broken, .int v_brokenAt, .int v_spot, .int v_here, .int v_token, .int v_number, .ref (ad 3), .ref (ad 4), .ref (ad 5), .ref (ad 6), .ref (ad 7), .ref (ad 8), .ref (ad 9), .ref (ad 10), .int (o.2.2.2.2.2.2.2), .ref (ad 11), .ref (ad 12), .ref (ad 13), .int v_evaluated, .int v_moved, .int v_isChanged, .ref (ad 14), .int v_undoMany, .ref (ad 15), .ref (ad 16), .ref (ad 17), .ref (ad 18), .ref (ad 19), .ref (ad 20), .int v_torn, .int v_isAsideChanged])), (ad 1, .inl (eI X, 720, .inl v_state)), (ad 2, .inl (eI X, 320, .inl v_tape)), (ad 3, .inl (eI X, 9, .inl v_ends)), (ad 4, .inl (eI X, 27, .inl v_letters)), (ad 5, .inl (eI X, 30, .inl (o.2.1))), (ad 6, .inl (eZ X, 30, .inl (o.2.2.1))), (ad 7, .inl (eI X, 30, .inl (o.2.2.2.1))), (ad 8, .inl (eI X, 900, .inl (o.2.2.2.2.1))), (ad 9, .inl (eI X, 30, .inl (o.2.2.2.2.2.1))), (ad 10, .inl (eI X, 30, .inl (o.2.2.2.2.2.2.1))), (ad 11, .inl (eI X, 30, .inl v_oldValues)), (ad 12, .inl (eZ X, 30, .inl v_isOldTold)), (ad 13, .inl (eI X, 30, .inl v_oldReads)), (ad 14, .inl (eI X, 100, .inl v_undos)), (ad 15, .inl (eI X, 103, .inl v_undoAside)), (ad 16, .inl (eI X, 4, .inl v_formula)), (ad 17, .inl (eZ X, 2, .inl v_isKept)), (ad 18, .inl (eI X, 4, .inl v_lanes)), (ad 19, .inl (eI X, 4, .inl v_lengths)), (ad 20, .inl (eI X, 160, .inl v_items))]) := by
  refine Ctr.start (by decide) (Nat.le_of_ble_eq_true rfl) (fun k A ls C hq hin hW hl => ?_)
  replace C : Cx X k cX8_rule 5 (some .int) RX8 A 6 136 0 0 := C
  replace hl : lv_has ls 5 [(0, .ref (ad 0)), (1, .int p1)] := hl
  suffices hh : ∀ (H : Heap) (L : List Loc), Wd X k A [(ad 0, .inr (8, [.ref (ad 1), .ref (ad 2), .int v_taped, .int v_fault, .int v_broken, .int v_brokenAt, .int v_spot, .int v_here, .int v_token, .int v_number, .ref (ad 3), .ref (ad 4), .ref (ad 5), .ref (ad 6), .ref (ad 7), .ref (ad 8), .ref (ad 9), .ref (ad 10), .int v_isStarted, .ref (ad 11), .ref (ad 12), .ref (ad 13), .int v_evaluated, .int v_moved, .int v_isChanged, .ref (ad 14), .int v_undoMany, .ref (ad 15), .ref (ad 16), .ref (ad 17), .ref (ad 18), .ref (ad 19), .ref (ad 20), .int v_torn, .int v_isAsideChanged])), (ad 1, .inl (eI X, 720, .inl v_state)), (ad 2, .inl (eI X, 320, .inl v_tape)), (ad 3, .inl (eI X, 9, .inl v_ends)), (ad 4, .inl (eI X, 27, .inl v_letters)), (ad 5, .inl (eI X, 30, .inl v_values)), (ad 6, .inl (eZ X, 30, .inl v_isTold)), (ad 7, .inl (eI X, 30, .inl v_waits)), (ad 8, .inl (eI X, 900, .inl v_readsOf)), (ad 9, .inl (eI X, 30, .inl v_readMany)), (ad 10, .inl (eI X, 30, .inl v_heights)), (ad 11, .inl (eI X, 30, .inl v_oldValues)), (ad 12, .inl (eZ X, 30, .inl v_isOldTold)), (ad 13, .inl (eI X, 30, .inl v_oldReads)), (ad 14, .inl (eI X, 100, .inl v_undos)), (ad 15, .inl (eI X, 103, .inl v_undoAside)), (ad 16, .inl (eI X, 4, .inl v_formula)), (ad 17, .inl (eZ X, 2, .inl v_isKept)), (ad 18, .inl (eI X, 4, .inl v_lanes)), (ad 19, .inl (eI X, 4, .inl v_lengths)), (ad 20, .inl (eI X, 160, .inl v_items))] H L → Wx X k 0 0 H L 0 ls [] from hh _ _ hW
  clear hW
  intro H L hW
  have K11 : ∀ (v_values : (Nat → Int32)), ∀ (v_isTold : (Nat → Int32)), ∀ (v_waits : (Nat → Int32)), ∀ (v_readsOf : (Nat → Int32)), ∀ (v_readMany : (Nat → Int32)), ∀ (v_heights : (Nat → Int32)), ∀ (v_isStarted : Int32), ∀ (n11 : Nat), ∀ (l2 : Int32), ∀ (l3 : Int32), ∀ (l4 : Int32), ∀ (H : Heap) (L : List Loc) (ls : Array Slot), Wd X k A [(ad 0, .inr (8, [.ref (ad 1), .ref (ad 2), .int v_taped, .int v_fault, .int v_broken, .int v_brokenAt, .int v_spot, .int v_here, .int v_token, .int v_number, .ref (ad 3), .ref (ad 4), .ref (ad 5), .ref (ad 6), .ref (ad 7), .ref (ad 8), .ref (ad 9), .ref (ad 10), .int v_isStarted, .ref (ad 11), .ref (ad 12), .ref (ad 13), .int v_evaluated, .int v_moved, .int v_isChanged, .ref (ad 14), .int v_undoMany, .ref (ad 15), .ref (ad 16), .ref (ad 17), .ref (ad 18), .ref (ad 19), .ref (ad 20), .int v_torn, .int v_isAsideChanged])), (ad 1, .inl (eI X, 720, .inl v_state)), (ad 2, .inl (eI X, 320, .inl v_tape)), (ad 3, .inl (eI X, 9, .inl v_ends)), (ad 4, .inl (eI X, 27, .inl v_letters)), (ad 5, .inl (eI X, 30, .inl v_values)), (ad 6, .inl (eZ X, 30, .inl v_isTold)), (ad 7, .inl (eI X, 30, .inl v_waits)), (ad 8, .inl (eI X, 900, .inl v_readsOf)), (ad 9, .inl (eI X, 30, .inl v_readMany)), (ad 10, .inl (eI X, 30, .inl v_heights)), (ad 11, .inl (eI X, 30, .inl v_oldValues)), (ad 12, .inl (eZ X, 30, .inl v_isOldTold)), (ad 13, .inl (eI X, 30, .inl v_oldReads)), (ad 14, .inl (eI X, 100, .inl v_undos)), (ad 15, .inl (eI X, 103, .inl v_undoAside)), (ad 16, .inl (eI X, 4, .inl v_formula)), (ad 17, .inl (eZ X, 2, .inl v_isKept)), (ad 18, .inl (eI X, 4, .inl v_lanes)), (ad 19, .inl (eI X, 4, .inl v_lengths)), (ad 20, .inl (eI X, 160, .inl v_items))] H L → lv_has ls 5 [(0, .ref (ad 0)), (1, .int p1), (2, .int l2), (3, .int l3), (4, .int l4)] → lq3 (fX8_rule_b11 v_state v_undoMany p1  v_values v_isTold v_waits v_readsOf v_readMany v_heights v_isStarted) n11 l2 l3 l4 = some o → Wx X k 0 0 H L 11 ls [] := by
    intro v_values v_isTold v_waits v_readsOf v_readMany v_heights v_isStarted
    intro n11
    induction n11 with
    | zero => intro l2 l3 l4 H L ls hW hl h; exact lq3_0 h
    | succ n11 ih11 =>
      have K50 : ∀ (l2 : Int32), ∀ (l4 : Int32), ∀ (s0 : Int32), ∀ (H : Heap) (L : List Loc) (ls : Array Slot), Wd X k A [(ad 0, .inr (8, [.ref (ad 1), .ref (ad 2), .int v_taped, .int v_fault, .int v_broken, .int v_brokenAt, .int v_spot, .int v_here, .int v_token, .int v_number, .ref (ad 3), .ref (ad 4), .ref (ad 5), .ref (ad 6), .ref (ad 7), .ref (ad 8), .ref (ad 9), .ref (ad 10), .int v_isStarted, .ref (ad 11), .ref (ad 12), .ref (ad 13), .int v_evaluated, .int v_moved, .int v_isChanged, .ref (ad 14), .int v_undoMany, .ref (ad 15), .ref (ad 16), .ref (ad 17), .ref (ad 18), .ref (ad 19), .ref (ad 20), .int v_torn, .int v_isAsideChanged])), (ad 1, .inl (eI X, 720, .inl v_state)), (ad 2, .inl (eI X, 320, .inl v_tape)), (ad 3, .inl (eI X, 9, .inl v_ends)), (ad 4, .inl (eI X, 27, .inl v_letters)), (ad 5, .inl (eI X, 30, .inl v_values)), (ad 6, .inl (eZ X, 30, .inl v_isTold)), (ad 7, .inl (eI X, 30, .inl v_waits)), (ad 8, .inl (eI X, 900, .inl v_readsOf)), (ad 9, .inl (eI X, 30, .inl v_readMany)), (ad 10, .inl (eI X, 30, .inl v_heights)), (ad 11, .inl (eI X, 30, .inl v_oldValues)), (ad 12, .inl (eZ X, 30, .inl v_isOldTold)), (ad 13, .inl (eI X, 30, .inl v_oldReads)), (ad 14, .inl (eI X, 100, .inl v_undos)), (ad 15, .inl (eI X, 103, .inl v_undoAside)), (ad 16, .inl (eI X, 4, .inl v_formula)), (ad 17, .inl (eZ X, 2, .inl v_isKept)), (ad 18, .inl (eI X, 4, .inl v_lanes)), (ad 19, .inl (eI X, 4, .inl v_lengths)), (ad 20, .inl (eI X, 160, .inl v_items))] H L → lv_has ls 5 [(0, .ref (ad 0)), (1, .int p1), (2, .int l2), (4, .int l4)] → fX8_rule_j50 v_state v_undoMany p1 (lq3 (fX8_rule_b11 v_state v_undoMany p1  v_values v_isTold v_waits v_readsOf v_readMany v_heights v_isStarted) n11) v_values v_isTold v_waits v_readsOf v_readMany v_heights v_isStarted l2 l4 s0 = some o → Wx X k 0 0 H L 50 ls [.int s0] := by
        intro l2 l4 s0 H L ls hW hl h
        unfold fX8_rule_j50 at h
        refine r_istore_n (lv' := [(3, .int s0), (0, .ref (ad 0)), (1, .int p1), (2, .int l2), (4, .int l4)]) C hl dX8_rule_50 rfl (by decide) rfl (fun ls hl => ?_)
        refine r_iinc (j := 4) (v := l4 + (1 : Int32)) (lv' := [(4, .int (l4 + (1 : Int32))), (3, .int s0), (0, .ref (ad 0)), (1, .int p1), (2, .int l2)]) C hl dX8_rule_51 rfl rfl (by decide) rfl (fun ls hl => ?_)
        refine r_goto (tgt := 11) C dX8_rule_54 (by decide) ?_
        exact ih11 l2 s0 (l4 + (1 : Int32)) H L ls hW (lv_sub hl [2, 3, 4, 1, 0] rfl) h
      intro l2 l3 l4 H L ls hW hl h
      rw [lq3_s] at h
      unfold fX8_rule_b11 at h
      refine r_iload C hl 4 dX8_rule_11 rfl ?_
      refine r_bipush (v := 30) C dX8_rule_13 (by decide) ?_
      refine r_icmp_ge (tgt := 57) C dX8_rule_15 (by decide) (fun c15 => ?_) (fun c15 => ?_)
      · replace h := iT c15 h
        refine r_iload_n C hl 1 dX8_rule_57 rfl rfl ?_
        by_cases c58_0 : p1 = (0 : Int32)
        · replace h := iT c58_0 h
          refine r_lk (tgt := 92) (off := 34) C dX8_rule_58 (by decide) (by rw [c58_0]; first | done | rfl) (by decide) ?_
          refine r_aload_n C hl 0 dX8_rule_92 rfl rfl ?_
          obtain ⟨r93, h93, h⟩ := bd1_some h
          refine r_V (wr := []) (np := 0) C hl (mX8_formulas X ad  v_state v_tape v_taped v_fault v_broken v_brokenAt v_spot v_here v_token v_number v_ends v_letters v_values v_isTold v_waits v_readsOf v_readMany v_heights v_isStarted v_oldValues v_isOldTold v_oldReads v_evaluated v_moved v_isChanged v_undos v_undoMany v_undoAside v_formula v_isKept v_lanes v_lengths v_items v_torn v_isAsideChanged  r93 h93) hW [0, 1, 2, 3, 4, 5, 6, 7, 8, 9, 10, 11, 12, 13, 14, 15, 16, 17, 18, 19, 20] [] rfl rfl rfl rfl (by decide) 0 rfl rfl w_cd_X8_formulas w_ml_X8_189 w_im_X8_formulas w_sel_X8_formulas w_in_HeightSheetModel (by decide +kernel) rfl ⟨Nat.le_of_ble_eq_true rfl, Nat.le_of_ble_eq_true rfl⟩ ⟨Nat.zero_le _, Nat.zero_le _⟩ (Nat.le_of_ble_eq_true rfl) dX8_rule_93 (fun rv w1 H L hp hW => ?_) rfl
          obtain ⟨rfl, rfl⟩ := hp
          replace hW : Wd X k A [(ad 0, .inr (8, [.ref (ad 1), .ref (ad 2), .int v_taped, .int v_fault, .int v_broken, .int v_brokenAt, .int v_spot, .int v_here, .int v_token, .int v_number, .ref (ad 3), .ref (ad 4), .ref (ad 5), .ref (ad 6), .ref (ad 7), .ref (ad 8), .ref (ad 9), .ref (ad 10), .int v_isStarted, .ref (ad 11), .ref (ad 12), .ref (ad 13), .int v_evaluated, .int v_moved, .int v_isChanged, .ref (ad 14), .int v_undoMany, .ref (ad 15), .ref (ad 16), .ref (ad 17), .ref (ad 18), .ref (ad 19), .ref (ad 20), .int v_torn, .int v_isAsideChanged])), (ad 1, .inl (eI X, 720, .inl v_state)), (ad 2, .inl (eI X, 320, .inl v_tape)), (ad 3, .inl (eI X, 9, .inl v_ends)), (ad 4, .inl (eI X, 27, .inl v_letters)), (ad 5, .inl (eI X, 30, .inl v_values)), (ad 6, .inl (eZ X, 30, .inl v_isTold)), (ad 7, .inl (eI X, 30, .inl v_waits)), (ad 8, .inl (eI X, 900, .inl v_readsOf)), (ad 9, .inl (eI X, 30, .inl v_readMany)), (ad 10, .inl (eI X, 30, .inl v_heights)), (ad 11, .inl (eI X, 30, .inl v_oldValues)), (ad 12, .inl (eZ X, 30, .inl v_isOldTold)), (ad 13, .inl (eI X, 30, .inl v_oldReads)), (ad 14, .inl (eI X, 100, .inl v_undos)), (ad 15, .inl (eI X, 103, .inl v_undoAside)), (ad 16, .inl (eI X, 4, .inl v_formula)), (ad 17, .inl (eZ X, 2, .inl v_isKept)), (ad 18, .inl (eI X, 4, .inl v_lanes)), (ad 19, .inl (eI X, 4, .inl v_lengths)), (ad 20, .inl (eI X, 160, .inl v_items))] H L := hW.sub [0, 1, 2, 3, 4, 5, 6, 7, 8, 9, 10, 11, 12, 13, 14, 15, 16, 17, 18, 19, 20] rfl rfl
          show Wx X k 0 0 H L 96 ls [.int r93]
          exact r_iret C hq hW (by obtain rfl := Option.some.inj h; exact ⟨rfl, rfl⟩) dX8_rule_96
        · replace h := iF c58_0 h
          by_cases c58_5 : p1 = (5 : Int32)
          · replace h := iT c58_5 h
            refine r_lk (tgt := 97) (off := 39) C dX8_rule_58 (by decide) (by rw [c58_5]; first | done | rfl) (by decide) ?_
            refine r_iload_n C hl 3 dX8_rule_97 rfl rfl ?_
            exact r_iret C hq hW (by obtain rfl := Option.some.inj h; exact ⟨rfl, rfl⟩) dX8_rule_98
          · replace h := iF c58_5 h
            by_cases c58_7 : p1 = (7 : Int32)
            · replace h := iT c58_7 h
              refine r_lk (tgt := 99) (off := 41) C dX8_rule_58 (by decide) (by rw [c58_7]; first | done | rfl) (by decide) ?_
              refine r_aload_n C hl 0 dX8_rule_99 rfl rfl ?_
              refine r_get C hW 0 rfl rfl iwX8 26 (by decide) w_fl_X8_146 rfl dX8_rule_100 ?_
              exact r_iret C hq hW (by obtain rfl := Option.some.inj h; exact ⟨rfl, rfl⟩) dX8_rule_103
            · replace h := iF c58_7 h
              refine r_lk (tgt := 104) (off := 46) C dX8_rule_58 (by decide) ((lv_osw c58_0 rfl).trans <| (lv_osw c58_5 rfl).trans <| (lv_osw c58_7 rfl).trans <| rfl) (by decide) ?_
              refine r_iload_n C hl 1 dX8_rule_104 rfl rfl ?_
              refine r_i2l C dX8_rule_105 ?_
              refine r_lconst (v := 1) C dX8_rule_106 (by decide) ?_
              refine r_ldc2 C w_cL_X8_192 dX8_rule_107 ?_
              obtain ⟨r110, h110, h⟩ := bd1_some h
              refine r_S (wr := [(ad 0, .inr (8, [.ref (ad 1), .ref (ad 2), .int v_taped, .int v_fault, .int v_broken, .int v_brokenAt, .int v_spot, .int v_here, .int v_token, .int v_number, .ref (ad 3), .ref (ad 4), .ref (ad 5), .ref (ad 6), .ref (ad 7), .ref (ad 8), .ref (ad 9), .ref (ad 10), .int v_isStarted, .ref (ad 11), .ref (ad 12), .ref (ad 13), .int v_evaluated, .int v_moved, .int v_isChanged, .ref (ad 14), .int v_undoMany, .ref (ad 15), .ref (ad 16), .ref (ad 17), .ref (ad 18), .ref (ad 19), .ref (ad 20), .int v_torn, .int v_isAsideChanged])), (ad 1, .inl (eI X, 720, .inl v_state)), (ad 2, .inl (eI X, 320, .inl v_tape)), (ad 3, .inl (eI X, 9, .inl v_ends)), (ad 4, .inl (eI X, 27, .inl v_letters)), (ad 5, .inl (eI X, 30, .inl v_values)), (ad 6, .inl (eZ X, 30, .inl v_isTold)), (ad 7, .inl (eI X, 30, .inl v_waits)), (ad 8, .inl (eI X, 900, .inl v_readsOf)), (ad 9, .inl (eI X, 30, .inl v_readMany)), (ad 10, .inl (eI X, 30, .inl v_heights)), (ad 11, .inl (eI X, 30, .inl v_oldValues)), (ad 12, .inl (eZ X, 30, .inl v_isOldTold)), (ad 13, .inl (eI X, 30, .inl v_oldReads)), (ad 14, .inl (eI X, 100, .inl v_undos)), (ad 15, .inl (eI X, 103, .inl v_undoAside)), (ad 16, .inl (eI X, 4, .inl v_formula)), (ad 17, .inl (eZ X, 2, .inl v_isKept)), (ad 18, .inl (eI X, 4, .inl v_lanes)), (ad 19, .inl (eI X, 4, .inl v_lengths)), (ad 20, .inl (eI X, 160, .inl v_items))]) (np := 3) C hl (mX8_in X    (p1.toInt64) (1 : Int64) (6 : Int64) r110 h110) hW [] [0, 1, 2, 3, 4, 5, 6, 7, 8, 9, 10, 11, 12, 13, 14, 15, 16, 17, 18, 19, 20] rfl rfl rfl rfl (by decide) w_cd_X8_in w_ml_X8_73 w_st_X8_in w_in_HeightSheetModel (by decide +kernel) rfl ⟨Nat.le_of_ble_eq_true rfl, Nat.le_of_ble_eq_true rfl⟩ ⟨Nat.zero_le _, Nat.zero_le _⟩ (Nat.le_of_ble_eq_true rfl) dX8_rule_110 (fun rv w1 H L hp hW => ?_) rfl
              obtain ⟨rfl, rfl⟩ := hp
              replace hW : Wd X k A [(ad 0, .inr (8, [.ref (ad 1), .ref (ad 2), .int v_taped, .int v_fault, .int v_broken, .int v_brokenAt, .int v_spot, .int v_here, .int v_token, .int v_number, .ref (ad 3), .ref (ad 4), .ref (ad 5), .ref (ad 6), .ref (ad 7), .ref (ad 8), .ref (ad 9), .ref (ad 10), .int v_isStarted, .ref (ad 11), .ref (ad 12), .ref (ad 13), .int v_evaluated, .int v_moved, .int v_isChanged, .ref (ad 14), .int v_undoMany, .ref (ad 15), .ref (ad 16), .ref (ad 17), .ref (ad 18), .ref (ad 19), .ref (ad 20), .int v_torn, .int v_isAsideChanged])), (ad 1, .inl (eI X, 720, .inl v_state)), (ad 2, .inl (eI X, 320, .inl v_tape)), (ad 3, .inl (eI X, 9, .inl v_ends)), (ad 4, .inl (eI X, 27, .inl v_letters)), (ad 5, .inl (eI X, 30, .inl v_values)), (ad 6, .inl (eZ X, 30, .inl v_isTold)), (ad 7, .inl (eI X, 30, .inl v_waits)), (ad 8, .inl (eI X, 900, .inl v_readsOf)), (ad 9, .inl (eI X, 30, .inl v_readMany)), (ad 10, .inl (eI X, 30, .inl v_heights)), (ad 11, .inl (eI X, 30, .inl v_oldValues)), (ad 12, .inl (eZ X, 30, .inl v_isOldTold)), (ad 13, .inl (eI X, 30, .inl v_oldReads)), (ad 14, .inl (eI X, 100, .inl v_undos)), (ad 15, .inl (eI X, 103, .inl v_undoAside)), (ad 16, .inl (eI X, 4, .inl v_formula)), (ad 17, .inl (eZ X, 2, .inl v_isKept)), (ad 18, .inl (eI X, 4, .inl v_lanes)), (ad 19, .inl (eI X, 4, .inl v_lengths)), (ad 20, .inl (eI X, 160, .inl v_items))] H L := hW.sub [0, 1, 2, 3, 4, 5, 6, 7, 8, 9, 10, 11, 12, 13, 14, 15, 16, 17, 18, 19, 20] rfl rfl
              show Wx X k 0 0 H L 113 ls [.int r110]
              refine r_if_eq (tgt := 120) C dX8_rule_113 (by decide) (fun c113 => ?_) (fun c113 => ?_)
              · replace h := iT c113 h
                refine r_iconst (v := -1) C dX8_rule_120 (by decide) ?_
                exact r_iret C hq hW (by obtain rfl := Option.some.inj h; exact ⟨rfl, rfl⟩) dX8_rule_121
              · replace h := iF c113 h
                refine r_iload_n C hl 2 dX8_rule_116 rfl rfl ?_
                refine r_goto (tgt := 121) C dX8_rule_117 (by decide) ?_
                exact r_iret C hq hW (by obtain rfl := Option.some.inj h; exact ⟨rfl, rfl⟩) dX8_rule_121
      · replace h := iF c15 h
        refine r_iload_n C hl 2 dX8_rule_18 rfl rfl ?_
        refine r_aload_n C hl 0 dX8_rule_19 rfl rfl ?_
        refine r_iload_n C hl 1 dX8_rule_20 rfl rfl ?_
        refine r_iload C hl 4 dX8_rule_21 rfl ?_
        obtain ⟨r23, h23, h⟩ := bd1_some h
        refine r_V (wr := []) (np := 2) C hl (mX8_ruled X ad  v_state v_tape v_taped v_fault v_broken v_brokenAt v_spot v_here v_token v_number v_ends v_letters v_values v_isTold v_waits v_readsOf v_readMany v_heights v_isStarted v_oldValues v_isOldTold v_oldReads v_evaluated v_moved v_isChanged v_undos v_undoMany v_undoAside v_formula v_isKept v_lanes v_lengths v_items v_torn v_isAsideChanged p1 l4 r23 h23) hW [0, 1, 2, 3, 4, 5, 6, 7, 8, 9, 10, 11, 12, 13, 14, 15, 16, 17, 18, 19, 20] [] rfl rfl rfl rfl (by decide) 0 rfl rfl w_cd_X8_ruled w_ml_X8_186 w_im_X8_ruled w_sel_X8_ruled w_in_HeightSheetModel (by decide +kernel) rfl ⟨Nat.le_of_ble_eq_true rfl, Nat.le_of_ble_eq_true rfl⟩ ⟨Nat.zero_le _, Nat.zero_le _⟩ (Nat.le_of_ble_eq_true rfl) dX8_rule_23 (fun rv w1 H L hp hW => ?_) rfl
        obtain ⟨rfl, rfl⟩ := hp
        replace hW : Wd X k A [(ad 0, .inr (8, [.ref (ad 1), .ref (ad 2), .int v_taped, .int v_fault, .int v_broken, .int v_brokenAt, .int v_spot, .int v_here, .int v_token, .int v_number, .ref (ad 3), .ref (ad 4), .ref (ad 5), .ref (ad 6), .ref (ad 7), .ref (ad 8), .ref (ad 9), .ref (ad 10), .int v_isStarted, .ref (ad 11), .ref (ad 12), .ref (ad 13), .int v_evaluated, .int v_moved, .int v_isChanged, .ref (ad 14), .int v_undoMany, .ref (ad 15), .ref (ad 16), .ref (ad 17), .ref (ad 18), .ref (ad 19), .ref (ad 20), .int v_torn, .int v_isAsideChanged])), (ad 1, .inl (eI X, 720, .inl v_state)), (ad 2, .inl (eI X, 320, .inl v_tape)), (ad 3, .inl (eI X, 9, .inl v_ends)), (ad 4, .inl (eI X, 27, .inl v_letters)), (ad 5, .inl (eI X, 30, .inl v_values)), (ad 6, .inl (eZ X, 30, .inl v_isTold)), (ad 7, .inl (eI X, 30, .inl v_waits)), (ad 8, .inl (eI X, 900, .inl v_readsOf)), (ad 9, .inl (eI X, 30, .inl v_readMany)), (ad 10, .inl (eI X, 30, .inl v_heights)), (ad 11, .inl (eI X, 30, .inl v_oldValues)), (ad 12, .inl (eZ X, 30, .inl v_isOldTold)), (ad 13, .inl (eI X, 30, .inl v_oldReads)), (ad 14, .inl (eI X, 100, .inl v_undos)), (ad 15, .inl (eI X, 103, .inl v_undoAside)), (ad 16, .inl (eI X, 4, .inl v_formula)), (ad 17, .inl (eZ X, 2, .inl v_isKept)), (ad 18, .inl (eI X, 4, .inl v_lanes)), (ad 19, .inl (eI X, 4, .inl v_lengths)), (ad 20, .inl (eI X, 160, .inl v_items))] H L := hW.sub [0, 1, 2, 3, 4, 5, 6, 7, 8, 9, 10, 11, 12, 13, 14, 15, 16, 17, 18, 19, 20] rfl rfl
        show Wx X k 0 0 H L 26 ls [.int r23, .int l2]
        refine r_iadd C dX8_rule_26 ?_
        refine r_istore_n (lv' := [(2, .int (l2 + r23)), (0, .ref (ad 0)), (1, .int p1), (3, .int l3), (4, .int l4)]) C hl dX8_rule_27 rfl (by decide) rfl (fun ls hl => ?_)
        refine r_aload_n C hl 1 dX8_rule_28 rfl rfl ?_
        refine r_get C hW 0 rfl rfl iwX8 17 (by decide) w_fl_X8_38 rfl dX8_rule_29 ?_
        refine r_iload C hl 4 dX8_rule_32 rfl ?_
        obtain ⟨x34, e34, g34, h⟩ := rd_some h
        refine r_iald C hW 10 rfl g34 e34 dX8_rule_34 ?_
        refine r_iload_n C hl 3 dX8_rule_35 rfl rfl ?_
        refine r_icmp_le (tgt := 49) C dX8_rule_36 (by decide) (fun c36 => ?_) (fun c36 => ?_)
        · replace h := iT c36 h
          refine r_iload_n C hl 3 dX8_rule_49 rfl rfl ?_
          exact K50 (l2 + r23) l4 l3 H L ls hW (lv_sub hl [1, 2, 0, 4] rfl) h
        · replace h := iF c36 h
          refine r_aload_n C hl 1 dX8_rule_39 rfl rfl ?_
          refine r_get C hW 0 rfl rfl iwX8 17 (by decide) w_fl_X8_38 rfl dX8_rule_40 ?_
          refine r_iload C hl 4 dX8_rule_43 rfl ?_
          obtain ⟨x45, e45, g45, h⟩ := rd_some h
          refine r_iald C hW 10 rfl g45 e45 dX8_rule_45 ?_
          refine r_goto (tgt := 50) C dX8_rule_46 (by decide) ?_
          exact K50 (l2 + r23) l4 x45 H L ls hW (lv_sub hl [1, 2, 0, 4] rfl) h
  unfold fX8_rule at h
  refine r_aload_n C hl 0 dX8_rule_0 rfl rfl ?_
  obtain ⟨c1_values, c1_isTold, c1_waits, c1_readsOf, c1_readMany, c1_heights, c1_isStarted, h1, h⟩ := bd7_some h
  refine r_V (wr := []) (np := 0) C hl (mX8_starts X ad  v_state v_tape v_taped v_fault v_broken v_brokenAt v_spot v_here v_token v_number v_ends v_letters v_values v_isTold v_waits v_readsOf v_readMany v_heights v_isStarted v_oldValues v_isOldTold v_oldReads v_evaluated v_moved v_isChanged v_undos v_undoMany v_undoAside v_formula v_isKept v_lanes v_lengths v_items v_torn v_isAsideChanged  (c1_values, c1_isTold, c1_waits, c1_readsOf, c1_readMany, c1_heights, c1_isStarted) h1) hW [0, 1, 2, 3, 4, 5, 6, 7, 8, 9, 10, 11, 12, 13, 14, 15, 16, 17, 18, 19, 20] [] rfl rfl rfl rfl (by decide) 0 rfl rfl w_cd_X8_starts w_ml_X8_183 w_im_X8_starts w_sel_X8_starts w_in_HeightSheetModel (by decide +kernel) rfl ⟨Nat.le_of_ble_eq_true rfl, Nat.le_of_ble_eq_true rfl⟩ ⟨Nat.zero_le _, Nat.zero_le _⟩ (Nat.le_of_ble_eq_true rfl) dX8_rule_1 (fun rv w1 H L hp hW => ?_) rfl
  obtain ⟨rfl, rfl⟩ := hp
  replace hW : Wd X k A [(ad 0, .inr (8, [.ref (ad 1), .ref (ad 2), .int v_taped, .int v_fault, .int v_broken, .int v_brokenAt, .int v_spot, .int v_here, .int v_token, .int v_number, .ref (ad 3), .ref (ad 4), .ref (ad 5), .ref (ad 6), .ref (ad 7), .ref (ad 8), .ref (ad 9), .ref (ad 10), .int c1_isStarted, .ref (ad 11), .ref (ad 12), .ref (ad 13), .int v_evaluated, .int v_moved, .int v_isChanged, .ref (ad 14), .int v_undoMany, .ref (ad 15), .ref (ad 16), .ref (ad 17), .ref (ad 18), .ref (ad 19), .ref (ad 20), .int v_torn, .int v_isAsideChanged])), (ad 1, .inl (eI X, 720, .inl v_state)), (ad 2, .inl (eI X, 320, .inl v_tape)), (ad 3, .inl (eI X, 9, .inl v_ends)), (ad 4, .inl (eI X, 27, .inl v_letters)), (ad 5, .inl (eI X, 30, .inl c1_values)), (ad 6, .inl (eZ X, 30, .inl c1_isTold)), (ad 7, .inl (eI X, 30, .inl c1_waits)), (ad 8, .inl (eI X, 900, .inl c1_readsOf)), (ad 9, .inl (eI X, 30, .inl c1_readMany)), (ad 10, .inl (eI X, 30, .inl c1_heights)), (ad 11, .inl (eI X, 30, .inl v_oldValues)), (ad 12, .inl (eZ X, 30, .inl v_isOldTold)), (ad 13, .inl (eI X, 30, .inl v_oldReads)), (ad 14, .inl (eI X, 100, .inl v_undos)), (ad 15, .inl (eI X, 103, .inl v_undoAside)), (ad 16, .inl (eI X, 4, .inl v_formula)), (ad 17, .inl (eZ X, 2, .inl v_isKept)), (ad 18, .inl (eI X, 4, .inl v_lanes)), (ad 19, .inl (eI X, 4, .inl v_lengths)), (ad 20, .inl (eI X, 160, .inl v_items))] H L := hW.sub [0, 1, 2, 3, 4, 5, 6, 7, 8, 9, 10, 11, 12, 13, 14, 15, 16, 17, 18, 19, 20] rfl rfl
  show Wx X k 0 0 H L 4 ls []
  refine r_iconst (v := 0) C dX8_rule_4 (by decide) ?_
  refine r_istore_n (lv' := [(2, .int (0 : Int32)), (0, .ref (ad 0)), (1, .int p1)]) C hl dX8_rule_5 rfl (by decide) rfl (fun ls hl => ?_)
  refine r_iconst (v := 0) C dX8_rule_6 (by decide) ?_
  refine r_istore_n (lv' := [(3, .int (0 : Int32)), (2, .int (0 : Int32)), (0, .ref (ad 0)), (1, .int p1)]) C hl dX8_rule_7 rfl (by decide) rfl (fun ls hl => ?_)
  refine r_iconst (v := 0) C dX8_rule_8 (by decide) ?_
  refine r_istore (lv' := [(4, .int (0 : Int32)), (3, .int (0 : Int32)), (2, .int (0 : Int32)), (0, .ref (ad 0)), (1, .int p1)]) C hl dX8_rule_9 (by decide) rfl (fun ls hl => ?_)
  exact K11 c1_values c1_isTold c1_waits c1_readsOf c1_readMany c1_heights c1_isStarted fu (0 : Int32) (0 : Int32) (0 : Int32) H L ls hW (lv_sub hl [3, 4, 2, 1, 0] rfl) h
def fX8_isReading_j41 (v_readsOf : (Nat → Int32)) (v_readMany : (Nat → Int32)) (p1 : Int32) (p2 : Int32) (self5 : Int32 → Int32 → Option (Int32)) (l4 : Int32) (s0 : Int32) : Option (Int32) :=
  self5 s0 (l4 + (1 : Int32))
def fX8_isReading_j36 (v_readsOf : (Nat → Int32)) (v_readMany : (Nat → Int32)) (p1 : Int32) (p2 : Int32) (self5 : Int32 → Int32 → Option (Int32)) (l4 : Int32) : Option (Int32) :=
  fX8_isReading_j41 v_readsOf v_readMany p1 p2 self5 l4 (1 : Int32)
def fX8_isReading_b5 (v_readsOf : (Nat → Int32)) (v_readMany : (Nat → Int32)) (p1 : Int32) (p2 : Int32)   (self5 : Int32 → Int32 → Option (Int32)) (l3 : Int32) (l4 : Int32) : Option (Int32) :=
  rd v_readMany 30 p1 fun x12 =>
  if x12 ≤ l4 then
    ck (l3 = 0 ∨ l3 = 1) <|
    some l3
  else
    if l3 = (0 : Int32) then
      rd v_readsOf 900 (((30 : Int32) * p1) + l4) fun x31 =>
      if x31 = p2 then
        fX8_isReading_j36 v_readsOf v_readMany p1 p2 self5 l4
      else
        fX8_isReading_j41 v_readsOf v_readMany p1 p2 self5 l4 (0 : Int32)
    else
      fX8_isReading_j36 v_readsOf v_readMany p1 p2 self5 l4
def fX8_isReading (v_readsOf : (Nat → Int32)) (v_readMany : (Nat → Int32)) (p1 : Int32) (p2 : Int32) : Option (Int32) :=
  lq2 (fX8_isReading_b5 v_readsOf v_readMany p1 p2  ) fu (0 : Int32) (0 : Int32)
set_option maxRecDepth 100000 in
set_option maxHeartbeats 8000000 in
theorem mX8_isReading (X : Ev) (ad : Nat → Nat) (v_state : (Nat → Int32)) (v_tape : (Nat → Int32)) (v_taped : Int32) (v_fault : Int32) (v_broken : Int32) (v_brokenAt : Int32) (v_spot : Int32) (v_here : Int32) (v_token : Int32) (v_number : Int32) (v_ends : (Nat → Int32)) (v_letters : (Nat → Int32)) (v_values : (Nat → Int32)) (v_isTold : (Nat → Int32)) (v_waits : (Nat → Int32)) (v_readsOf : (Nat → Int32)) (v_readMany : (Nat → Int32)) (v_heights : (Nat → Int32)) (v_isStarted : Int32) (v_oldValues : (Nat → Int32)) (v_isOldTold : (Nat → Int32)) (v_oldReads : (Nat → Int32)) (v_evaluated : Int32) (v_moved : Int32) (v_isChanged : Int32) (v_undos : (Nat → Int32)) (v_undoMany : Int32) (v_undoAside : (Nat → Int32)) (v_formula : (Nat → Int32)) (v_isKept : (Nat → Int32)) (v_lanes : (Nat → Int32)) (v_lengths : (Nat → Int32)) (v_items : (Nat → Int32)) (v_torn : Int32) (v_isAsideChanged : Int32) (p1 : Int32) (p2 : Int32) (o : Int32) (h : fX8_isReading v_readsOf v_readMany p1 p2 = some o) : Ctr X yX8_isReading cX8_isReading 5 (some .boolean) 0 0 0 0 [.ref (ad 0), .int p1, .int p2] [(ad 0, .inr (8, [.ref (ad 1), .ref (ad 2), .int v_taped, .int v_fault, .int v_broken, .int v_brokenAt, .int v_spot, .int v_here, .int v_token, .int v_number, .ref (ad 3), .ref (ad 4), .ref (ad 5), .ref (ad 6), .ref (ad 7), .ref (ad 8), .ref (ad 9), .ref (ad 10), .int v_isStarted, .ref (ad 11), .ref (ad 12), .ref (ad 13), .int v_evaluated, .int v_moved, .int v_isChanged, .ref (ad 14), .int v_undoMany, .ref (ad 15), .ref (ad 16), .ref (ad 17), .ref (ad 18), .ref (ad 19), .ref (ad 20), .int v_torn, .int v_isAsideChanged])), (ad 1, .inl (eI X, 720, .inl v_state)), (ad 2, .inl (eI X, 320, .inl v_tape)), (ad 3, .inl (eI X, 9, .inl v_ends)), (ad 4, .inl (eI X, 27, .inl v_letters)), (ad 5, .inl (eI X, 30, .inl v_values)), (ad 6, .inl (eZ X, 30, .inl v_isTold)), (ad 7, .inl (eI X, 30, .inl v_waits)), (ad 8, .inl (eI X, 900, .inl v_readsOf)), (ad 9, .inl (eI X, 30, .inl v_readMany)), (ad 10, .inl (eI X, 30, .inl v_heights)), (ad 11, .inl (eI X, 30, .inl v_oldValues)), (ad 12, .inl (eZ X, 30, .inl v_isOldTold)), (ad 13, .inl (eI X, 30, .inl v_oldReads)), (ad 14, .inl (eI X, 100, .inl v_undos)), (ad 15, .inl (eI X, 103, .inl v_undoAside)), (ad 16, .inl (eI X, 4, .inl v_formula)), (ad 17, .inl (eZ X, 2, .inl v_isKept)), (ad 18, .inl (eI X, 4, .inl v_lanes)), (ad 19, .inl (eI X, 4, .inl v_lengths)), (ad 20, .inl (eI X, 160, .inl v_items))] (De (some (.int o)) [(ad 0, .inr (8, [.ref (ad 1), .ref (ad 2), .int v_taped, .int v_fault, .int v_broken, .int v_brokenAt, .int v_spot, .int v_here, .int v_token, .int v_number, .ref (ad 3), .ref (ad 4), .ref (ad 5), .ref (ad 6), .ref (ad 7), .ref (ad 8), .ref (ad 9), .ref (ad 10), .int v_isStarted, .ref (ad 11), .ref (ad 12), .ref (ad 13), .int v_evaluated, .int v_moved, .int v_isChanged, .ref (ad 14), .int v_undoMany, .ref (ad 15), .ref (ad 16), .ref (ad 17), .ref (ad 18), .ref (ad 19), .ref (ad 20), .int v_torn, .int v_isAsideChanged])), (ad 1, .inl (eI X, 720, .inl v_state)), (ad 2, .inl (eI X, 320, .inl v_tape)), (ad 3, .inl (eI X, 9, .inl v_ends)), (ad 4, .inl (eI X, 27, .inl v_letters)), (ad 5, .inl (eI X, 30, .inl v_values)), (ad 6, .inl (eZ X, 30, .inl v_isTold)), (ad 7, .inl (eI X, 30, .inl v_waits)), (ad 8, .inl (eI X, 900, .inl v_readsOf)), (ad 9, .inl (eI X, 30, .inl v_readMany)), (ad 10, .inl (eI X, 30, .inl v_heights)), (ad 11, .inl (eI X, 30, .inl v_oldValues)), (ad 12, .inl (eZ X, 30, .inl v_isOldTold)), (ad 13, .inl (eI X, 30, .inl v_oldReads)), (ad 14, .inl (eI X, 100, .inl v_undos)), (ad 15, .inl (eI X, 103, .inl v_undoAside)), (ad 16, .inl (eI X, 4, .inl v_formula)), (ad 17, .inl (eZ X, 2, .inl v_isKept)), (ad 18, .inl (eI X, 4, .inl v_lanes)), (ad 19, .inl (eI X, 4, .inl v_lengths)), (ad 20, .inl (eI X, 160, .inl v_items))]) := by
  refine Ctr.start (by decide) (Nat.le_of_ble_eq_true rfl) (fun k A ls C hq hin hW hl => ?_)
  replace C : Cx X k cX8_isReading 5 (some .boolean) RX8 A 0 0 0 0 := C
  replace hl : lv_has ls 5 [(0, .ref (ad 0)), (1, .int p1), (2, .int p2)] := hl
  suffices hh : ∀ (H : Heap) (L : List Loc), Wd X k A [(ad 0, .inr (8, [.ref (ad 1), .ref (ad 2), .int v_taped, .int v_fault, .int v_broken, .int v_brokenAt, .int v_spot, .int v_here, .int v_token, .int v_number, .ref (ad 3), .ref (ad 4), .ref (ad 5), .ref (ad 6), .ref (ad 7), .ref (ad 8), .ref (ad 9), .ref (ad 10), .int v_isStarted, .ref (ad 11), .ref (ad 12), .ref (ad 13), .int v_evaluated, .int v_moved, .int v_isChanged, .ref (ad 14), .int v_undoMany, .ref (ad 15), .ref (ad 16), .ref (ad 17), .ref (ad 18), .ref (ad 19), .ref (ad 20), .int v_torn, .int v_isAsideChanged])), (ad 1, .inl (eI X, 720, .inl v_state)), (ad 2, .inl (eI X, 320, .inl v_tape)), (ad 3, .inl (eI X, 9, .inl v_ends)), (ad 4, .inl (eI X, 27, .inl v_letters)), (ad 5, .inl (eI X, 30, .inl v_values)), (ad 6, .inl (eZ X, 30, .inl v_isTold)), (ad 7, .inl (eI X, 30, .inl v_waits)), (ad 8, .inl (eI X, 900, .inl v_readsOf)), (ad 9, .inl (eI X, 30, .inl v_readMany)), (ad 10, .inl (eI X, 30, .inl v_heights)), (ad 11, .inl (eI X, 30, .inl v_oldValues)), (ad 12, .inl (eZ X, 30, .inl v_isOldTold)), (ad 13, .inl (eI X, 30, .inl v_oldReads)), (ad 14, .inl (eI X, 100, .inl v_undos)), (ad 15, .inl (eI X, 103, .inl v_undoAside)), (ad 16, .inl (eI X, 4, .inl v_formula)), (ad 17, .inl (eZ X, 2, .inl v_isKept)), (ad 18, .inl (eI X, 4, .inl v_lanes)), (ad 19, .inl (eI X, 4, .inl v_lengths)), (ad 20, .inl (eI X, 160, .inl v_items))] H L → Wx X k 0 0 H L 0 ls [] from hh _ _ hW
  clear hW
  intro H L hW
  have K5 : ∀ (n5 : Nat), ∀ (l3 : Int32), ∀ (l4 : Int32), ∀ (H : Heap) (L : List Loc) (ls : Array Slot), Wd X k A [(ad 0, .inr (8, [.ref (ad 1), .ref (ad 2), .int v_taped, .int v_fault, .int v_broken, .int v_brokenAt, .int v_spot, .int v_here, .int v_token, .int v_number, .ref (ad 3), .ref (ad 4), .ref (ad 5), .ref (ad 6), .ref (ad 7), .ref (ad 8), .ref (ad 9), .ref (ad 10), .int v_isStarted, .ref (ad 11), .ref (ad 12), .ref (ad 13), .int v_evaluated, .int v_moved, .int v_isChanged, .ref (ad 14), .int v_undoMany, .ref (ad 15), .ref (ad 16), .ref (ad 17), .ref (ad 18), .ref (ad 19), .ref (ad 20), .int v_torn, .int v_isAsideChanged])), (ad 1, .inl (eI X, 720, .inl v_state)), (ad 2, .inl (eI X, 320, .inl v_tape)), (ad 3, .inl (eI X, 9, .inl v_ends)), (ad 4, .inl (eI X, 27, .inl v_letters)), (ad 5, .inl (eI X, 30, .inl v_values)), (ad 6, .inl (eZ X, 30, .inl v_isTold)), (ad 7, .inl (eI X, 30, .inl v_waits)), (ad 8, .inl (eI X, 900, .inl v_readsOf)), (ad 9, .inl (eI X, 30, .inl v_readMany)), (ad 10, .inl (eI X, 30, .inl v_heights)), (ad 11, .inl (eI X, 30, .inl v_oldValues)), (ad 12, .inl (eZ X, 30, .inl v_isOldTold)), (ad 13, .inl (eI X, 30, .inl v_oldReads)), (ad 14, .inl (eI X, 100, .inl v_undos)), (ad 15, .inl (eI X, 103, .inl v_undoAside)), (ad 16, .inl (eI X, 4, .inl v_formula)), (ad 17, .inl (eZ X, 2, .inl v_isKept)), (ad 18, .inl (eI X, 4, .inl v_lanes)), (ad 19, .inl (eI X, 4, .inl v_lengths)), (ad 20, .inl (eI X, 160, .inl v_items))] H L → lv_has ls 5 [(0, .ref (ad 0)), (1, .int p1), (2, .int p2), (3, .int l3), (4, .int l4)] → lq2 (fX8_isReading_b5 v_readsOf v_readMany p1 p2  ) n5 l3 l4 = some o → Wx X k 0 0 H L 5 ls [] := by
    intro n5
    induction n5 with
    | zero => intro l3 l4 H L ls hW hl h; exact lq2_0 h
    | succ n5 ih5 =>
      have K41 : ∀ (l4 : Int32), ∀ (s0 : Int32), ∀ (H : Heap) (L : List Loc) (ls : Array Slot), Wd X k A [(ad 0, .inr (8, [.ref (ad 1), .ref (ad 2), .int v_taped, .int v_fault, .int v_broken, .int v_brokenAt, .int v_spot, .int v_here, .int v_token, .int v_number, .ref (ad 3), .ref (ad 4), .ref (ad 5), .ref (ad 6), .ref (ad 7), .ref (ad 8), .ref (ad 9), .ref (ad 10), .int v_isStarted, .ref (ad 11), .ref (ad 12), .ref (ad 13), .int v_evaluated, .int v_moved, .int v_isChanged, .ref (ad 14), .int v_undoMany, .ref (ad 15), .ref (ad 16), .ref (ad 17), .ref (ad 18), .ref (ad 19), .ref (ad 20), .int v_torn, .int v_isAsideChanged])), (ad 1, .inl (eI X, 720, .inl v_state)), (ad 2, .inl (eI X, 320, .inl v_tape)), (ad 3, .inl (eI X, 9, .inl v_ends)), (ad 4, .inl (eI X, 27, .inl v_letters)), (ad 5, .inl (eI X, 30, .inl v_values)), (ad 6, .inl (eZ X, 30, .inl v_isTold)), (ad 7, .inl (eI X, 30, .inl v_waits)), (ad 8, .inl (eI X, 900, .inl v_readsOf)), (ad 9, .inl (eI X, 30, .inl v_readMany)), (ad 10, .inl (eI X, 30, .inl v_heights)), (ad 11, .inl (eI X, 30, .inl v_oldValues)), (ad 12, .inl (eZ X, 30, .inl v_isOldTold)), (ad 13, .inl (eI X, 30, .inl v_oldReads)), (ad 14, .inl (eI X, 100, .inl v_undos)), (ad 15, .inl (eI X, 103, .inl v_undoAside)), (ad 16, .inl (eI X, 4, .inl v_formula)), (ad 17, .inl (eZ X, 2, .inl v_isKept)), (ad 18, .inl (eI X, 4, .inl v_lanes)), (ad 19, .inl (eI X, 4, .inl v_lengths)), (ad 20, .inl (eI X, 160, .inl v_items))] H L → lv_has ls 5 [(0, .ref (ad 0)), (1, .int p1), (2, .int p2), (4, .int l4)] → fX8_isReading_j41 v_readsOf v_readMany p1 p2 (lq2 (fX8_isReading_b5 v_readsOf v_readMany p1 p2  ) n5) l4 s0 = some o → Wx X k 0 0 H L 41 ls [.int s0] := by
        intro l4 s0 H L ls hW hl h
        unfold fX8_isReading_j41 at h
        refine r_istore_n (lv' := [(3, .int s0), (0, .ref (ad 0)), (1, .int p1), (2, .int p2), (4, .int l4)]) C hl dX8_isReading_41 rfl (by decide) rfl (fun ls hl => ?_)
        refine r_iinc (j := 4) (v := l4 + (1 : Int32)) (lv' := [(4, .int (l4 + (1 : Int32))), (3, .int s0), (0, .ref (ad 0)), (1, .int p1), (2, .int p2)]) C hl dX8_isReading_42 rfl rfl (by decide) rfl (fun ls hl => ?_)
        refine r_goto (tgt := 5) C dX8_isReading_45 (by decide) ?_
        exact ih5 s0 (l4 + (1 : Int32)) H L ls hW (lv_sub hl [2, 3, 4, 1, 0] rfl) h
      have K36 : ∀ (l4 : Int32), ∀ (H : Heap) (L : List Loc) (ls : Array Slot), Wd X k A [(ad 0, .inr (8, [.ref (ad 1), .ref (ad 2), .int v_taped, .int v_fault, .int v_broken, .int v_brokenAt, .int v_spot, .int v_here, .int v_token, .int v_number, .ref (ad 3), .ref (ad 4), .ref (ad 5), .ref (ad 6), .ref (ad 7), .ref (ad 8), .ref (ad 9), .ref (ad 10), .int v_isStarted, .ref (ad 11), .ref (ad 12), .ref (ad 13), .int v_evaluated, .int v_moved, .int v_isChanged, .ref (ad 14), .int v_undoMany, .ref (ad 15), .ref (ad 16), .ref (ad 17), .ref (ad 18), .ref (ad 19), .ref (ad 20), .int v_torn, .int v_isAsideChanged])), (ad 1, .inl (eI X, 720, .inl v_state)), (ad 2, .inl (eI X, 320, .inl v_tape)), (ad 3, .inl (eI X, 9, .inl v_ends)), (ad 4, .inl (eI X, 27, .inl v_letters)), (ad 5, .inl (eI X, 30, .inl v_values)), (ad 6, .inl (eZ X, 30, .inl v_isTold)), (ad 7, .inl (eI X, 30, .inl v_waits)), (ad 8, .inl (eI X, 900, .inl v_readsOf)), (ad 9, .inl (eI X, 30, .inl v_readMany)), (ad 10, .inl (eI X, 30, .inl v_heights)), (ad 11, .inl (eI X, 30, .inl v_oldValues)), (ad 12, .inl (eZ X, 30, .inl v_isOldTold)), (ad 13, .inl (eI X, 30, .inl v_oldReads)), (ad 14, .inl (eI X, 100, .inl v_undos)), (ad 15, .inl (eI X, 103, .inl v_undoAside)), (ad 16, .inl (eI X, 4, .inl v_formula)), (ad 17, .inl (eZ X, 2, .inl v_isKept)), (ad 18, .inl (eI X, 4, .inl v_lanes)), (ad 19, .inl (eI X, 4, .inl v_lengths)), (ad 20, .inl (eI X, 160, .inl v_items))] H L → lv_has ls 5 [(0, .ref (ad 0)), (1, .int p1), (2, .int p2), (4, .int l4)] → fX8_isReading_j36 v_readsOf v_readMany p1 p2 (lq2 (fX8_isReading_b5 v_readsOf v_readMany p1 p2  ) n5) l4 = some o → Wx X k 0 0 H L 36 ls [] := by
        intro l4 H L ls hW hl h
        unfold fX8_isReading_j36 at h
        refine r_iconst (v := 1) C dX8_isReading_36 (by decide) ?_
        refine r_goto (tgt := 41) C dX8_isReading_37 (by decide) ?_
        exact K41 l4 (1 : Int32) H L ls hW hl h
      intro l3 l4 H L ls hW hl h
      rw [lq2_s] at h
      unfold fX8_isReading_b5 at h
      refine r_iload C hl 4 dX8_isReading_5 rfl ?_
      refine r_aload_n C hl 0 dX8_isReading_7 rfl rfl ?_
      refine r_get C hW 0 rfl rfl iwX8 16 (by decide) w_fl_X8_35 rfl dX8_isReading_8 ?_
      refine r_iload_n C hl 1 dX8_isReading_11 rfl rfl ?_
      obtain ⟨x12, e12, g12, h⟩ := rd_some h
      refine r_iald C hW 9 rfl g12 e12 dX8_isReading_12 ?_
      refine r_icmp_ge (tgt := 48) C dX8_isReading_13 (by decide) (fun c13 => ?_) (fun c13 => ?_)
      · replace h := iT c13 h
        refine r_iload_n C hl 3 dX8_isReading_48 rfl rfl ?_
        obtain ⟨z49, h⟩ := ck_some h
        exact r_zret C hq hW (zb_n z49) (by obtain rfl := Option.some.inj h; exact ⟨rfl, rfl⟩) dX8_isReading_49
      · replace h := iF c13 h
        refine r_iload_n C hl 3 dX8_isReading_16 rfl rfl ?_
        refine r_if_ne (tgt := 36) C dX8_isReading_17 (by decide) (fun c17 => ?_) (fun c17 => ?_)
        · replace h := iF c17 h
          exact K36 l4 H L ls hW (lv_sub hl [0, 1, 2, 4] rfl) h
        · replace h := iT c17 h
          refine r_aload_n C hl 0 dX8_isReading_20 rfl rfl ?_
          refine r_get C hW 0 rfl rfl iwX8 15 (by decide) w_fl_X8_32 rfl dX8_isReading_21 ?_
          refine r_bipush (v := 30) C dX8_isReading_24 (by decide) ?_
          refine r_iload_n C hl 1 dX8_isReading_26 rfl rfl ?_
          refine r_imul C dX8_isReading_27 ?_
          refine r_iload C hl 4 dX8_isReading_28 rfl ?_
          refine r_iadd C dX8_isReading_30 ?_
          obtain ⟨x31, e31, g31, h⟩ := rd_some h
          refine r_iald C hW 8 rfl g31 e31 dX8_isReading_31 ?_
          refine r_iload_n C hl 2 dX8_isReading_32 rfl rfl ?_
          refine r_icmp_ne (tgt := 40) C dX8_isReading_33 (by decide) (fun c33 => ?_) (fun c33 => ?_)
          · replace h := iF c33 h
            refine r_iconst (v := 0) C dX8_isReading_40 (by decide) ?_
            exact K41 l4 (0 : Int32) H L ls hW (lv_sub hl [0, 1, 2, 4] rfl) h
          · replace h := iT c33 h
            exact K36 l4 H L ls hW (lv_sub hl [0, 1, 2, 4] rfl) h
  unfold fX8_isReading at h
  refine r_iconst (v := 0) C dX8_isReading_0 (by decide) ?_
  refine r_istore_n (lv' := [(3, .int (0 : Int32)), (0, .ref (ad 0)), (1, .int p1), (2, .int p2)]) C hl dX8_isReading_1 rfl (by decide) rfl (fun ls hl => ?_)
  refine r_iconst (v := 0) C dX8_isReading_2 (by decide) ?_
  refine r_istore (lv' := [(4, .int (0 : Int32)), (3, .int (0 : Int32)), (0, .ref (ad 0)), (1, .int p1), (2, .int p2)]) C hl dX8_isReading_3 (by decide) rfl (fun ls hl => ?_)
  exact K5  fu (0 : Int32) (0 : Int32) H L ls hW (lv_sub hl [2, 3, 4, 1, 0] rfl) h
def fX8_readersOf_j25 (v_readsOf : (Nat → Int32)) (v_readMany : (Nat → Int32)) (p1 : Int32) (self4 : Int32 → Int32 → Option (Int32)) (l3 : Int32) (s0 : Int32) (s1 : Int32) : Option (Int32) :=
  self4 (s0 + s1) (l3 + (1 : Int32))
def fX8_readersOf_b4 (v_readsOf : (Nat → Int32)) (v_readMany : (Nat → Int32)) (p1 : Int32)   (self4 : Int32 → Int32 → Option (Int32)) (l2 : Int32) (l3 : Int32) : Option (Int32) :=
  if (30 : Int32) ≤ l3 then
    some l2
  else
    bd1 (fX8_isReading v_readsOf v_readMany l3 p1) fun r14 =>
    if r14 = (0 : Int32) then
      fX8_readersOf_j25 v_readsOf v_readMany p1 self4 l3 l2 (0 : Int32)
    else
      fX8_readersOf_j25 v_readsOf v_readMany p1 self4 l3 l2 (1 : Int32)
def fX8_readersOf (v_readsOf : (Nat → Int32)) (v_readMany : (Nat → Int32)) (p1 : Int32) : Option (Int32) :=
  lq2 (fX8_readersOf_b4 v_readsOf v_readMany p1  ) fu (0 : Int32) (0 : Int32)
set_option maxRecDepth 100000 in
set_option maxHeartbeats 8000000 in
theorem mX8_readersOf (X : Ev) (ad : Nat → Nat) (v_state : (Nat → Int32)) (v_tape : (Nat → Int32)) (v_taped : Int32) (v_fault : Int32) (v_broken : Int32) (v_brokenAt : Int32) (v_spot : Int32) (v_here : Int32) (v_token : Int32) (v_number : Int32) (v_ends : (Nat → Int32)) (v_letters : (Nat → Int32)) (v_values : (Nat → Int32)) (v_isTold : (Nat → Int32)) (v_waits : (Nat → Int32)) (v_readsOf : (Nat → Int32)) (v_readMany : (Nat → Int32)) (v_heights : (Nat → Int32)) (v_isStarted : Int32) (v_oldValues : (Nat → Int32)) (v_isOldTold : (Nat → Int32)) (v_oldReads : (Nat → Int32)) (v_evaluated : Int32) (v_moved : Int32) (v_isChanged : Int32) (v_undos : (Nat → Int32)) (v_undoMany : Int32) (v_undoAside : (Nat → Int32)) (v_formula : (Nat → Int32)) (v_isKept : (Nat → Int32)) (v_lanes : (Nat → Int32)) (v_lengths : (Nat → Int32)) (v_items : (Nat → Int32)) (v_torn : Int32) (v_isAsideChanged : Int32) (p1 : Int32) (o : Int32) (h : fX8_readersOf v_readsOf v_readMany p1 = some o) : Ctr X yX8_readersOf cX8_readersOf 4 (some .int) 1 24 0 0 [.ref (ad 0), .int p1] [(ad 0, .inr (8, [.ref (ad 1), .ref (ad 2), .int v_taped, .int v_fault, .int v_broken, .int v_brokenAt, .int v_spot, .int v_here, .int v_token, .int v_number, .ref (ad 3), .ref (ad 4), .ref (ad 5), .ref (ad 6), .ref (ad 7), .ref (ad 8), .ref (ad 9), .ref (ad 10), .int v_isStarted, .ref (ad 11), .ref (ad 12), .ref (ad 13), .int v_evaluated, .int v_moved, .int v_isChanged, .ref (ad 14), .int v_undoMany, .ref (ad 15), .ref (ad 16), .ref (ad 17), .ref (ad 18), .ref (ad 19), .ref (ad 20), .int v_torn, .int v_isAsideChanged])), (ad 1, .inl (eI X, 720, .inl v_state)), (ad 2, .inl (eI X, 320, .inl v_tape)), (ad 3, .inl (eI X, 9, .inl v_ends)), (ad 4, .inl (eI X, 27, .inl v_letters)), (ad 5, .inl (eI X, 30, .inl v_values)), (ad 6, .inl (eZ X, 30, .inl v_isTold)), (ad 7, .inl (eI X, 30, .inl v_waits)), (ad 8, .inl (eI X, 900, .inl v_readsOf)), (ad 9, .inl (eI X, 30, .inl v_readMany)), (ad 10, .inl (eI X, 30, .inl v_heights)), (ad 11, .inl (eI X, 30, .inl v_oldValues)), (ad 12, .inl (eZ X, 30, .inl v_isOldTold)), (ad 13, .inl (eI X, 30, .inl v_oldReads)), (ad 14, .inl (eI X, 100, .inl v_undos)), (ad 15, .inl (eI X, 103, .inl v_undoAside)), (ad 16, .inl (eI X, 4, .inl v_formula)), (ad 17, .inl (eZ X, 2, .inl v_isKept)), (ad 18, .inl (eI X, 4, .inl v_lanes)), (ad 19, .inl (eI X, 4, .inl v_lengths)), (ad 20, .inl (eI X, 160, .inl v_items))] (De (some (.int o)) [(ad 0, .inr (8, [.ref (ad 1), .ref (ad 2), .int v_taped, .int v_fault, .int v_broken, .int v_brokenAt, .int v_spot, .int v_here, .int v_token, .int v_number, .ref (ad 3), .ref (ad 4), .ref (ad 5), .ref (ad 6), .ref (ad 7), .ref (ad 8), .ref (ad 9), .ref (ad 10), .int v_isStarted, .ref (ad 11), .ref (ad 12), .ref (ad 13), .int v_evaluated, .int v_moved, .int v_isChanged, .ref (ad 14), .int v_undoMany, .ref (ad 15), .ref (ad 16), .ref (ad 17), .ref (ad 18), .ref (ad 19), .ref (ad 20), .int v_torn, .int v_isAsideChanged])), (ad 1, .inl (eI X, 720, .inl v_state)), (ad 2, .inl (eI X, 320, .inl v_tape)), (ad 3, .inl (eI X, 9, .inl v_ends)), (ad 4, .inl (eI X, 27, .inl v_letters)), (ad 5, .inl (eI X, 30, .inl v_values)), (ad 6, .inl (eZ X, 30, .inl v_isTold)), (ad 7, .inl (eI X, 30, .inl v_waits)), (ad 8, .inl (eI X, 900, .inl v_readsOf)), (ad 9, .inl (eI X, 30, .inl v_readMany)), (ad 10, .inl (eI X, 30, .inl v_heights)), (ad 11, .inl (eI X, 30, .inl v_oldValues)), (ad 12, .inl (eZ X, 30, .inl v_isOldTold)), (ad 13, .inl (eI X, 30, .inl v_oldReads)), (ad 14, .inl (eI X, 100, .inl v_undos)), (ad 15, .inl (eI X, 103, .inl v_undoAside)), (ad 16, .inl (eI X, 4, .inl v_formula)), (ad 17, .inl (eZ X, 2, .inl v_isKept)), (ad 18, .inl (eI X, 4, .inl v_lanes)), (ad 19, .inl (eI X, 4, .inl v_lengths)), (ad 20, .inl (eI X, 160, .inl v_items))]) := by
  refine Ctr.start (by decide) (Nat.le_of_ble_eq_true rfl) (fun k A ls C hq hin hW hl => ?_)
  replace C : Cx X k cX8_readersOf 4 (some .int) RX8 A 1 24 0 0 := C
  replace hl : lv_has ls 4 [(0, .ref (ad 0)), (1, .int p1)] := hl
  suffices hh : ∀ (H : Heap) (L : List Loc), Wd X k A [(ad 0, .inr (8, [.ref (ad 1), .ref (ad 2), .int v_taped, .int v_fault, .int v_broken, .int v_brokenAt, .int v_spot, .int v_here, .int v_token, .int v_number, .ref (ad 3), .ref (ad 4), .ref (ad 5), .ref (ad 6), .ref (ad 7), .ref (ad 8), .ref (ad 9), .ref (ad 10), .int v_isStarted, .ref (ad 11), .ref (ad 12), .ref (ad 13), .int v_evaluated, .int v_moved, .int v_isChanged, .ref (ad 14), .int v_undoMany, .ref (ad 15), .ref (ad 16), .ref (ad 17), .ref (ad 18), .ref (ad 19), .ref (ad 20), .int v_torn, .int v_isAsideChanged])), (ad 1, .inl (eI X, 720, .inl v_state)), (ad 2, .inl (eI X, 320, .inl v_tape)), (ad 3, .inl (eI X, 9, .inl v_ends)), (ad 4, .inl (eI X, 27, .inl v_letters)), (ad 5, .inl (eI X, 30, .inl v_values)), (ad 6, .inl (eZ X, 30, .inl v_isTold)), (ad 7, .inl (eI X, 30, .inl v_waits)), (ad 8, .inl (eI X, 900, .inl v_readsOf)), (ad 9, .inl (eI X, 30, .inl v_readMany)), (ad 10, .inl (eI X, 30, .inl v_heights)), (ad 11, .inl (eI X, 30, .inl v_oldValues)), (ad 12, .inl (eZ X, 30, .inl v_isOldTold)), (ad 13, .inl (eI X, 30, .inl v_oldReads)), (ad 14, .inl (eI X, 100, .inl v_undos)), (ad 15, .inl (eI X, 103, .inl v_undoAside)), (ad 16, .inl (eI X, 4, .inl v_formula)), (ad 17, .inl (eZ X, 2, .inl v_isKept)), (ad 18, .inl (eI X, 4, .inl v_lanes)), (ad 19, .inl (eI X, 4, .inl v_lengths)), (ad 20, .inl (eI X, 160, .inl v_items))] H L → Wx X k 0 0 H L 0 ls [] from hh _ _ hW
  clear hW
  intro H L hW
  have K4 : ∀ (n4 : Nat), ∀ (l2 : Int32), ∀ (l3 : Int32), ∀ (H : Heap) (L : List Loc) (ls : Array Slot), Wd X k A [(ad 0, .inr (8, [.ref (ad 1), .ref (ad 2), .int v_taped, .int v_fault, .int v_broken, .int v_brokenAt, .int v_spot, .int v_here, .int v_token, .int v_number, .ref (ad 3), .ref (ad 4), .ref (ad 5), .ref (ad 6), .ref (ad 7), .ref (ad 8), .ref (ad 9), .ref (ad 10), .int v_isStarted, .ref (ad 11), .ref (ad 12), .ref (ad 13), .int v_evaluated, .int v_moved, .int v_isChanged, .ref (ad 14), .int v_undoMany, .ref (ad 15), .ref (ad 16), .ref (ad 17), .ref (ad 18), .ref (ad 19), .ref (ad 20), .int v_torn, .int v_isAsideChanged])), (ad 1, .inl (eI X, 720, .inl v_state)), (ad 2, .inl (eI X, 320, .inl v_tape)), (ad 3, .inl (eI X, 9, .inl v_ends)), (ad 4, .inl (eI X, 27, .inl v_letters)), (ad 5, .inl (eI X, 30, .inl v_values)), (ad 6, .inl (eZ X, 30, .inl v_isTold)), (ad 7, .inl (eI X, 30, .inl v_waits)), (ad 8, .inl (eI X, 900, .inl v_readsOf)), (ad 9, .inl (eI X, 30, .inl v_readMany)), (ad 10, .inl (eI X, 30, .inl v_heights)), (ad 11, .inl (eI X, 30, .inl v_oldValues)), (ad 12, .inl (eZ X, 30, .inl v_isOldTold)), (ad 13, .inl (eI X, 30, .inl v_oldReads)), (ad 14, .inl (eI X, 100, .inl v_undos)), (ad 15, .inl (eI X, 103, .inl v_undoAside)), (ad 16, .inl (eI X, 4, .inl v_formula)), (ad 17, .inl (eZ X, 2, .inl v_isKept)), (ad 18, .inl (eI X, 4, .inl v_lanes)), (ad 19, .inl (eI X, 4, .inl v_lengths)), (ad 20, .inl (eI X, 160, .inl v_items))] H L → lv_has ls 4 [(0, .ref (ad 0)), (1, .int p1), (2, .int l2), (3, .int l3)] → lq2 (fX8_readersOf_b4 v_readsOf v_readMany p1  ) n4 l2 l3 = some o → Wx X k 0 0 H L 4 ls [] := by
    intro n4
    induction n4 with
    | zero => intro l2 l3 H L ls hW hl h; exact lq2_0 h
    | succ n4 ih4 =>
      have K25 : ∀ (l3 : Int32), ∀ (s0 : Int32), ∀ (s1 : Int32), ∀ (H : Heap) (L : List Loc) (ls : Array Slot), Wd X k A [(ad 0, .inr (8, [.ref (ad 1), .ref (ad 2), .int v_taped, .int v_fault, .int v_broken, .int v_brokenAt, .int v_spot, .int v_here, .int v_token, .int v_number, .ref (ad 3), .ref (ad 4), .ref (ad 5), .ref (ad 6), .ref (ad 7), .ref (ad 8), .ref (ad 9), .ref (ad 10), .int v_isStarted, .ref (ad 11), .ref (ad 12), .ref (ad 13), .int v_evaluated, .int v_moved, .int v_isChanged, .ref (ad 14), .int v_undoMany, .ref (ad 15), .ref (ad 16), .ref (ad 17), .ref (ad 18), .ref (ad 19), .ref (ad 20), .int v_torn, .int v_isAsideChanged])), (ad 1, .inl (eI X, 720, .inl v_state)), (ad 2, .inl (eI X, 320, .inl v_tape)), (ad 3, .inl (eI X, 9, .inl v_ends)), (ad 4, .inl (eI X, 27, .inl v_letters)), (ad 5, .inl (eI X, 30, .inl v_values)), (ad 6, .inl (eZ X, 30, .inl v_isTold)), (ad 7, .inl (eI X, 30, .inl v_waits)), (ad 8, .inl (eI X, 900, .inl v_readsOf)), (ad 9, .inl (eI X, 30, .inl v_readMany)), (ad 10, .inl (eI X, 30, .inl v_heights)), (ad 11, .inl (eI X, 30, .inl v_oldValues)), (ad 12, .inl (eZ X, 30, .inl v_isOldTold)), (ad 13, .inl (eI X, 30, .inl v_oldReads)), (ad 14, .inl (eI X, 100, .inl v_undos)), (ad 15, .inl (eI X, 103, .inl v_undoAside)), (ad 16, .inl (eI X, 4, .inl v_formula)), (ad 17, .inl (eZ X, 2, .inl v_isKept)), (ad 18, .inl (eI X, 4, .inl v_lanes)), (ad 19, .inl (eI X, 4, .inl v_lengths)), (ad 20, .inl (eI X, 160, .inl v_items))] H L → lv_has ls 4 [(0, .ref (ad 0)), (1, .int p1), (3, .int l3)] → fX8_readersOf_j25 v_readsOf v_readMany p1 (lq2 (fX8_readersOf_b4 v_readsOf v_readMany p1  ) n4) l3 s0 s1 = some o → Wx X k 0 0 H L 25 ls [.int s1, .int s0] := by
        intro l3 s0 s1 H L ls hW hl h
        unfold fX8_readersOf_j25 at h
        refine r_iadd C dX8_readersOf_25 ?_
        refine r_istore_n (lv' := [(2, .int (s0 + s1)), (0, .ref (ad 0)), (1, .int p1), (3, .int l3)]) C hl dX8_readersOf_26 rfl (by decide) rfl (fun ls hl => ?_)
        refine r_iinc (j := 3) (v := l3 + (1 : Int32)) (lv' := [(3, .int (l3 + (1 : Int32))), (2, .int (s0 + s1)), (0, .ref (ad 0)), (1, .int p1)]) C hl dX8_readersOf_27 rfl rfl (by decide) rfl (fun ls hl => ?_)
        refine r_goto (tgt := 4) C dX8_readersOf_30 (by decide) ?_
        exact ih4 (s0 + s1) (l3 + (1 : Int32)) H L ls hW (lv_sub hl [2, 3, 1, 0] rfl) h
      intro l2 l3 H L ls hW hl h
      rw [lq2_s] at h
      unfold fX8_readersOf_b4 at h
      refine r_iload_n C hl 3 dX8_readersOf_4 rfl rfl ?_
      refine r_bipush (v := 30) C dX8_readersOf_5 (by decide) ?_
      refine r_icmp_ge (tgt := 33) C dX8_readersOf_7 (by decide) (fun c7 => ?_) (fun c7 => ?_)
      · replace h := iT c7 h
        refine r_iload_n C hl 2 dX8_readersOf_33 rfl rfl ?_
        exact r_iret C hq hW (by obtain rfl := Option.some.inj h; exact ⟨rfl, rfl⟩) dX8_readersOf_34
      · replace h := iF c7 h
        refine r_iload_n C hl 2 dX8_readersOf_10 rfl rfl ?_
        refine r_aload_n C hl 0 dX8_readersOf_11 rfl rfl ?_
        refine r_iload_n C hl 3 dX8_readersOf_12 rfl rfl ?_
        refine r_iload_n C hl 1 dX8_readersOf_13 rfl rfl ?_
        obtain ⟨r14, h14, h⟩ := bd1_some h
        refine r_V (wr := []) (np := 2) C hl (mX8_isReading X ad  v_state v_tape v_taped v_fault v_broken v_brokenAt v_spot v_here v_token v_number v_ends v_letters v_values v_isTold v_waits v_readsOf v_readMany v_heights v_isStarted v_oldValues v_isOldTold v_oldReads v_evaluated v_moved v_isChanged v_undos v_undoMany v_undoAside v_formula v_isKept v_lanes v_lengths v_items v_torn v_isAsideChanged l3 p1 r14 h14) hW [0, 1, 2, 3, 4, 5, 6, 7, 8, 9, 10, 11, 12, 13, 14, 15, 16, 17, 18, 19, 20] [] rfl rfl rfl rfl (by decide) 0 rfl rfl w_cd_X8_isReading w_ml_X8_194 w_im_X8_isReading w_sel_X8_isReading w_in_HeightSheetModel (by decide +kernel) rfl ⟨Nat.le_of_ble_eq_true rfl, Nat.le_of_ble_eq_true rfl⟩ ⟨Nat.zero_le _, Nat.zero_le _⟩ (Nat.le_of_ble_eq_true rfl) dX8_readersOf_14 (fun rv w1 H L hp hW => ?_) rfl
        obtain ⟨rfl, rfl⟩ := hp
        replace hW : Wd X k A [(ad 0, .inr (8, [.ref (ad 1), .ref (ad 2), .int v_taped, .int v_fault, .int v_broken, .int v_brokenAt, .int v_spot, .int v_here, .int v_token, .int v_number, .ref (ad 3), .ref (ad 4), .ref (ad 5), .ref (ad 6), .ref (ad 7), .ref (ad 8), .ref (ad 9), .ref (ad 10), .int v_isStarted, .ref (ad 11), .ref (ad 12), .ref (ad 13), .int v_evaluated, .int v_moved, .int v_isChanged, .ref (ad 14), .int v_undoMany, .ref (ad 15), .ref (ad 16), .ref (ad 17), .ref (ad 18), .ref (ad 19), .ref (ad 20), .int v_torn, .int v_isAsideChanged])), (ad 1, .inl (eI X, 720, .inl v_state)), (ad 2, .inl (eI X, 320, .inl v_tape)), (ad 3, .inl (eI X, 9, .inl v_ends)), (ad 4, .inl (eI X, 27, .inl v_letters)), (ad 5, .inl (eI X, 30, .inl v_values)), (ad 6, .inl (eZ X, 30, .inl v_isTold)), (ad 7, .inl (eI X, 30, .inl v_waits)), (ad 8, .inl (eI X, 900, .inl v_readsOf)), (ad 9, .inl (eI X, 30, .inl v_readMany)), (ad 10, .inl (eI X, 30, .inl v_heights)), (ad 11, .inl (eI X, 30, .inl v_oldValues)), (ad 12, .inl (eZ X, 30, .inl v_isOldTold)), (ad 13, .inl (eI X, 30, .inl v_oldReads)), (ad 14, .inl (eI X, 100, .inl v_undos)), (ad 15, .inl (eI X, 103, .inl v_undoAside)), (ad 16, .inl (eI X, 4, .inl v_formula)), (ad 17, .inl (eZ X, 2, .inl v_isKept)), (ad 18, .inl (eI X, 4, .inl v_lanes)), (ad 19, .inl (eI X, 4, .inl v_lengths)), (ad 20, .inl (eI X, 160, .inl v_items))] H L := hW.sub [0, 1, 2, 3, 4, 5, 6, 7, 8, 9, 10, 11, 12, 13, 14, 15, 16, 17, 18, 19, 20] rfl rfl
        show Wx X k 0 0 H L 17 ls [.int r14, .int l2]
        refine r_if_eq (tgt := 24) C dX8_readersOf_17 (by decide) (fun c17 => ?_) (fun c17 => ?_)
        · replace h := iT c17 h
          refine r_iconst (v := 0) C dX8_readersOf_24 (by decide) ?_
          exact K25 l3 l2 (0 : Int32) H L ls hW (lv_sub hl [0, 1, 3] rfl) h
        · replace h := iF c17 h
          refine r_iconst (v := 1) C dX8_readersOf_20 (by decide) ?_
          refine r_goto (tgt := 25) C dX8_readersOf_21 (by decide) ?_
          exact K25 l3 l2 (1 : Int32) H L ls hW (lv_sub hl [0, 1, 3] rfl) h
  unfold fX8_readersOf at h
  refine r_iconst (v := 0) C dX8_readersOf_0 (by decide) ?_
  refine r_istore_n (lv' := [(2, .int (0 : Int32)), (0, .ref (ad 0)), (1, .int p1)]) C hl dX8_readersOf_1 rfl (by decide) rfl (fun ls hl => ?_)
  refine r_iconst (v := 0) C dX8_readersOf_2 (by decide) ?_
  refine r_istore_n (lv' := [(3, .int (0 : Int32)), (2, .int (0 : Int32)), (0, .ref (ad 0)), (1, .int p1)]) C hl dX8_readersOf_3 rfl (by decide) rfl (fun ls hl => ?_)
  exact K4  fu (0 : Int32) (0 : Int32) H L ls hW (lv_sub hl [2, 3, 1, 0] rfl) h
def fX8_cell (v_state : (Nat → Int32)) (v_values : (Nat → Int32)) (v_isTold : (Nat → Int32)) (v_waits : (Nat → Int32)) (v_readsOf : (Nat → Int32)) (v_readMany : (Nat → Int32)) (v_heights : (Nat → Int32)) (v_isStarted : Int32) (p1 : Int32) (p2 : Int32) : Option (Int32 × (Nat → Int32) × (Nat → Int32) × (Nat → Int32) × (Nat → Int32) × (Nat → Int32) × (Nat → Int32) × Int32) :=
  bd1 (fX8_isCell p1) fun r1 =>
  if r1 = (0 : Int32) then
    some ((-1 : Int32), v_values, v_isTold, v_waits, v_readsOf, v_readMany, v_heights, v_isStarted)
  else
    bd7 (fX8_starts v_state v_values v_isTold v_waits v_readsOf v_readMany v_heights v_isStarted) fun c10_values c10_isTold c10_waits c10_readsOf c10_readMany c10_heights c10_isStarted =>
    if p2 = (0 : Int32) then
      rd v_state 720 (((30 : Int32) * p2) + p1) fun x74 =>
      some (x74, c10_values, c10_isTold, c10_waits, c10_readsOf, c10_readMany, c10_heights, c10_isStarted)
    else
    if p2 = (1 : Int32) then
      rd v_state 720 (((30 : Int32) * p2) + p1) fun x74 =>
      some (x74, c10_values, c10_isTold, c10_waits, c10_readsOf, c10_readMany, c10_heights, c10_isStarted)
    else
    if p2 = (2 : Int32) then
      rd v_state 720 (((30 : Int32) * p2) + p1) fun x74 =>
      some (x74, c10_values, c10_isTold, c10_waits, c10_readsOf, c10_readMany, c10_heights, c10_isStarted)
    else
    if p2 = (3 : Int32) then
      rd v_state 720 (((30 : Int32) * p2) + p1) fun x74 =>
      some (x74, c10_values, c10_isTold, c10_waits, c10_readsOf, c10_readMany, c10_heights, c10_isStarted)
    else
    if p2 = (4 : Int32) then
      rd c10_isTold 30 p1 fun x81 =>
      if x81 = (0 : Int32) then
        bd1 (fX8_circleOf c10_isTold c10_waits p1) fun r91 =>
        if r91 ≤ (0 : Int32) then
          some ((1 : Int32), c10_values, c10_isTold, c10_waits, c10_readsOf, c10_readMany, c10_heights, c10_isStarted)
        else
          some ((2 : Int32), c10_values, c10_isTold, c10_waits, c10_readsOf, c10_readMany, c10_heights, c10_isStarted)
      else
        some ((0 : Int32), c10_values, c10_isTold, c10_waits, c10_readsOf, c10_readMany, c10_heights, c10_isStarted)
    else
    if p2 = (5 : Int32) then
      rd c10_heights 30 p1 fun x108 =>
      some (x108, c10_values, c10_isTold, c10_waits, c10_readsOf, c10_readMany, c10_heights, c10_isStarted)
    else
    if p2 = (6 : Int32) then
      rd c10_isTold 30 p1 fun x115 =>
      if x115 = (0 : Int32) then
        rd c10_waits 30 p1 fun x129 =>
        some (x129, c10_values, c10_isTold, c10_waits, c10_readsOf, c10_readMany, c10_heights, c10_isStarted)
      else
        some ((-4 : Int32), c10_values, c10_isTold, c10_waits, c10_readsOf, c10_readMany, c10_heights, c10_isStarted)
    else
    if p2 = (7 : Int32) then
      rd c10_readMany 30 p1 fun x136 =>
      some (x136, c10_values, c10_isTold, c10_waits, c10_readsOf, c10_readMany, c10_heights, c10_isStarted)
    else
    if p2 = (8 : Int32) then
      bd1 (fX8_readersOf c10_readsOf c10_readMany p1) fun r140 =>
      some (r140, c10_values, c10_isTold, c10_waits, c10_readsOf, c10_readMany, c10_heights, c10_isStarted)
    else
      some ((-1 : Int32), c10_values, c10_isTold, c10_waits, c10_readsOf, c10_readMany, c10_heights, c10_isStarted)
set_option maxRecDepth 100000 in
set_option maxHeartbeats 8000000 in
theorem mX8_cell (X : Ev) (ad : Nat → Nat) (v_state : (Nat → Int32)) (v_tape : (Nat → Int32)) (v_taped : Int32) (v_fault : Int32) (v_broken : Int32) (v_brokenAt : Int32) (v_spot : Int32) (v_here : Int32) (v_token : Int32) (v_number : Int32) (v_ends : (Nat → Int32)) (v_letters : (Nat → Int32)) (v_values : (Nat → Int32)) (v_isTold : (Nat → Int32)) (v_waits : (Nat → Int32)) (v_readsOf : (Nat → Int32)) (v_readMany : (Nat → Int32)) (v_heights : (Nat → Int32)) (v_isStarted : Int32) (v_oldValues : (Nat → Int32)) (v_isOldTold : (Nat → Int32)) (v_oldReads : (Nat → Int32)) (v_evaluated : Int32) (v_moved : Int32) (v_isChanged : Int32) (v_undos : (Nat → Int32)) (v_undoMany : Int32) (v_undoAside : (Nat → Int32)) (v_formula : (Nat → Int32)) (v_isKept : (Nat → Int32)) (v_lanes : (Nat → Int32)) (v_lengths : (Nat → Int32)) (v_items : (Nat → Int32)) (v_torn : Int32) (v_isAsideChanged : Int32) (p1 : Int32) (p2 : Int32) (o : Int32 × (Nat → Int32) × (Nat → Int32) × (Nat → Int32) × (Nat → Int32) × (Nat → Int32) × (Nat → Int32) × Int32) (h : fX8_cell v_state v_values v_isTold v_waits v_readsOf v_readMany v_heights v_isStarted p1 p2 = some o) : Ctr X yX8_cell cX8_cell 3 (some .int) 6 136 0 0 [.ref (ad 0), .int p1, .int p2] [(ad 0, .inr (8, [.ref (ad 1), .ref (ad 2), .int v_taped, .int v_fault, .int v_broken, .int v_brokenAt, .int v_spot, .int v_here, .int v_token, .int v_number, .ref (ad 3), .ref (ad 4), .ref (ad 5), .ref (ad 6), .ref (ad 7), .ref (ad 8), .ref (ad 9), .ref (ad 10), .int v_isStarted, .ref (ad 11), .ref (ad 12), .ref (ad 13), .int v_evaluated, .int v_moved, .int v_isChanged, .ref (ad 14), .int v_undoMany, .ref (ad 15), .ref (ad 16), .ref (ad 17), .ref (ad 18), .ref (ad 19), .ref (ad 20), .int v_torn, .int v_isAsideChanged])), (ad 1, .inl (eI X, 720, .inl v_state)), (ad 2, .inl (eI X, 320, .inl v_tape)), (ad 3, .inl (eI X, 9, .inl v_ends)), (ad 4, .inl (eI X, 27, .inl v_letters)), (ad 5, .inl (eI X, 30, .inl v_values)), (ad 6, .inl (eZ X, 30, .inl v_isTold)), (ad 7, .inl (eI X, 30, .inl v_waits)), (ad 8, .inl (eI X, 900, .inl v_readsOf)), (ad 9, .inl (eI X, 30, .inl v_readMany)), (ad 10, .inl (eI X, 30, .inl v_heights)), (ad 11, .inl (eI X, 30, .inl v_oldValues)), (ad 12, .inl (eZ X, 30, .inl v_isOldTold)), (ad 13, .inl (eI X, 30, .inl v_oldReads)), (ad 14, .inl (eI X, 100, .inl v_undos)), (ad 15, .inl (eI X, 103, .inl v_undoAside)), (ad 16, .inl (eI X, 4, .inl v_formula)), (ad 17, .inl (eZ X, 2, .inl v_isKept)), (ad 18, .inl (eI X, 4, .inl v_lanes)), (ad 19, .inl (eI X, 4, .inl v_lengths)), (ad 20, .inl (eI X, 160, .inl v_items))] (De (some (.int o.1)) [(ad 0, .inr (8, [.ref (ad 1), .ref (ad 2), .int v_taped, .int v_fault, .int v_broken, .int v_brokenAt, .int v_spot, .int v_here, .int v_token, .int v_number, .ref (ad 3), .ref (ad 4), .ref (ad 5), .ref (ad 6), .ref (ad 7), .ref (ad 8), .ref (ad 9), .ref (ad 10), .int (o.2.2.2.2.2.2.2), .ref (ad 11), .ref (ad 12), .ref (ad 13), .int v_evaluated, .int v_moved, .int v_isChanged, .ref (ad 14), .int v_undoMany, .ref (ad 15), .ref (ad 16), .ref (ad 17), .ref (ad 18), .ref (ad 19), .ref (ad 20), .int v_torn, .int v_isAsideChanged])), (ad 1, .inl (eI X, 720, .inl v_state)), (ad 2, .inl (eI X, 320, .inl v_tape)), (ad 3, .inl (eI X, 9, .inl v_ends)), (ad 4, .inl (eI X, 27, .inl v_letters)), (ad 5, .inl (eI X, 30, .inl (o.2.1))), (ad 6, .inl (eZ X, 30, .inl (o.2.2.1))), (ad 7, .inl (eI X, 30, .inl (o.2.2.2.1))), (ad 8, .inl (eI X, 900, .inl (o.2.2.2.2.1))), (ad 9, .inl (eI X, 30, .inl (o.2.2.2.2.2.1))), (ad 10, .inl (eI X, 30, .inl (o.2.2.2.2.2.2.1))), (ad 11, .inl (eI X, 30, .inl v_oldValues)), (ad 12, .inl (eZ X, 30, .inl v_isOldTold)), (ad 13, .inl (eI X, 30, .inl v_oldReads)), (ad 14, .inl (eI X, 100, .inl v_undos)), (ad 15, .inl (eI X, 103, .inl v_undoAside)), (ad 16, .inl (eI X, 4, .inl v_formula)), (ad 17, .inl (eZ X, 2, .inl v_isKept)), (ad 18, .inl (eI X, 4, .inl v_lanes)), (ad 19, .inl (eI X, 4, .inl v_lengths)), (ad 20, .inl (eI X, 160, .inl v_items))]) := by
  refine Ctr.start (by decide) (Nat.le_of_ble_eq_true rfl) (fun k A ls C hq hin hW hl => ?_)
  replace C : Cx X k cX8_cell 3 (some .int) RX8 A 6 136 0 0 := C
  replace hl : lv_has ls 3 [(0, .ref (ad 0)), (1, .int p1), (2, .int p2)] := hl
  suffices hh : ∀ (H : Heap) (L : List Loc), Wd X k A [(ad 0, .inr (8, [.ref (ad 1), .ref (ad 2), .int v_taped, .int v_fault, .int v_broken, .int v_brokenAt, .int v_spot, .int v_here, .int v_token, .int v_number, .ref (ad 3), .ref (ad 4), .ref (ad 5), .ref (ad 6), .ref (ad 7), .ref (ad 8), .ref (ad 9), .ref (ad 10), .int v_isStarted, .ref (ad 11), .ref (ad 12), .ref (ad 13), .int v_evaluated, .int v_moved, .int v_isChanged, .ref (ad 14), .int v_undoMany, .ref (ad 15), .ref (ad 16), .ref (ad 17), .ref (ad 18), .ref (ad 19), .ref (ad 20), .int v_torn, .int v_isAsideChanged])), (ad 1, .inl (eI X, 720, .inl v_state)), (ad 2, .inl (eI X, 320, .inl v_tape)), (ad 3, .inl (eI X, 9, .inl v_ends)), (ad 4, .inl (eI X, 27, .inl v_letters)), (ad 5, .inl (eI X, 30, .inl v_values)), (ad 6, .inl (eZ X, 30, .inl v_isTold)), (ad 7, .inl (eI X, 30, .inl v_waits)), (ad 8, .inl (eI X, 900, .inl v_readsOf)), (ad 9, .inl (eI X, 30, .inl v_readMany)), (ad 10, .inl (eI X, 30, .inl v_heights)), (ad 11, .inl (eI X, 30, .inl v_oldValues)), (ad 12, .inl (eZ X, 30, .inl v_isOldTold)), (ad 13, .inl (eI X, 30, .inl v_oldReads)), (ad 14, .inl (eI X, 100, .inl v_undos)), (ad 15, .inl (eI X, 103, .inl v_undoAside)), (ad 16, .inl (eI X, 4, .inl v_formula)), (ad 17, .inl (eZ X, 2, .inl v_isKept)), (ad 18, .inl (eI X, 4, .inl v_lanes)), (ad 19, .inl (eI X, 4, .inl v_lengths)), (ad 20, .inl (eI X, 160, .inl v_items))] H L → Wx X k 0 0 H L 0 ls [] from hh _ _ hW
  clear hW
  intro H L hW
  unfold fX8_cell at h
  refine r_iload_n C hl 1 dX8_cell_0 rfl rfl ?_
  obtain ⟨r1, h1, h⟩ := bd1_some h
  refine r_S (wr := [(ad 0, .inr (8, [.ref (ad 1), .ref (ad 2), .int v_taped, .int v_fault, .int v_broken, .int v_brokenAt, .int v_spot, .int v_here, .int v_token, .int v_number, .ref (ad 3), .ref (ad 4), .ref (ad 5), .ref (ad 6), .ref (ad 7), .ref (ad 8), .ref (ad 9), .ref (ad 10), .int v_isStarted, .ref (ad 11), .ref (ad 12), .ref (ad 13), .int v_evaluated, .int v_moved, .int v_isChanged, .ref (ad 14), .int v_undoMany, .ref (ad 15), .ref (ad 16), .ref (ad 17), .ref (ad 18), .ref (ad 19), .ref (ad 20), .int v_torn, .int v_isAsideChanged])), (ad 1, .inl (eI X, 720, .inl v_state)), (ad 2, .inl (eI X, 320, .inl v_tape)), (ad 3, .inl (eI X, 9, .inl v_ends)), (ad 4, .inl (eI X, 27, .inl v_letters)), (ad 5, .inl (eI X, 30, .inl v_values)), (ad 6, .inl (eZ X, 30, .inl v_isTold)), (ad 7, .inl (eI X, 30, .inl v_waits)), (ad 8, .inl (eI X, 900, .inl v_readsOf)), (ad 9, .inl (eI X, 30, .inl v_readMany)), (ad 10, .inl (eI X, 30, .inl v_heights)), (ad 11, .inl (eI X, 30, .inl v_oldValues)), (ad 12, .inl (eZ X, 30, .inl v_isOldTold)), (ad 13, .inl (eI X, 30, .inl v_oldReads)), (ad 14, .inl (eI X, 100, .inl v_undos)), (ad 15, .inl (eI X, 103, .inl v_undoAside)), (ad 16, .inl (eI X, 4, .inl v_formula)), (ad 17, .inl (eZ X, 2, .inl v_isKept)), (ad 18, .inl (eI X, 4, .inl v_lanes)), (ad 19, .inl (eI X, 4, .inl v_lengths)), (ad 20, .inl (eI X, 160, .inl v_items))]) (np := 1) C hl (mX8_isCell X    p1 r1 h1) hW [] [0, 1, 2, 3, 4, 5, 6, 7, 8, 9, 10, 11, 12, 13, 14, 15, 16, 17, 18, 19, 20] rfl rfl rfl rfl (by decide) w_cd_X8_isCell w_ml_X8_197 w_st_X8_isCell w_in_HeightSheetModel (by decide +kernel) rfl ⟨Nat.le_of_ble_eq_true rfl, Nat.le_of_ble_eq_true rfl⟩ ⟨Nat.zero_le _, Nat.zero_le _⟩ (Nat.le_of_ble_eq_true rfl) dX8_cell_1 (fun rv w1 H L hp hW => ?_) rfl
  obtain ⟨rfl, rfl⟩ := hp
  replace hW : Wd X k A [(ad 0, .inr (8, [.ref (ad 1), .ref (ad 2), .int v_taped, .int v_fault, .int v_broken, .int v_brokenAt, .int v_spot, .int v_here, .int v_token, .int v_number, .ref (ad 3), .ref (ad 4), .ref (ad 5), .ref (ad 6), .ref (ad 7), .ref (ad 8), .ref (ad 9), .ref (ad 10), .int v_isStarted, .ref (ad 11), .ref (ad 12), .ref (ad 13), .int v_evaluated, .int v_moved, .int v_isChanged, .ref (ad 14), .int v_undoMany, .ref (ad 15), .ref (ad 16), .ref (ad 17), .ref (ad 18), .ref (ad 19), .ref (ad 20), .int v_torn, .int v_isAsideChanged])), (ad 1, .inl (eI X, 720, .inl v_state)), (ad 2, .inl (eI X, 320, .inl v_tape)), (ad 3, .inl (eI X, 9, .inl v_ends)), (ad 4, .inl (eI X, 27, .inl v_letters)), (ad 5, .inl (eI X, 30, .inl v_values)), (ad 6, .inl (eZ X, 30, .inl v_isTold)), (ad 7, .inl (eI X, 30, .inl v_waits)), (ad 8, .inl (eI X, 900, .inl v_readsOf)), (ad 9, .inl (eI X, 30, .inl v_readMany)), (ad 10, .inl (eI X, 30, .inl v_heights)), (ad 11, .inl (eI X, 30, .inl v_oldValues)), (ad 12, .inl (eZ X, 30, .inl v_isOldTold)), (ad 13, .inl (eI X, 30, .inl v_oldReads)), (ad 14, .inl (eI X, 100, .inl v_undos)), (ad 15, .inl (eI X, 103, .inl v_undoAside)), (ad 16, .inl (eI X, 4, .inl v_formula)), (ad 17, .inl (eZ X, 2, .inl v_isKept)), (ad 18, .inl (eI X, 4, .inl v_lanes)), (ad 19, .inl (eI X, 4, .inl v_lengths)), (ad 20, .inl (eI X, 160, .inl v_items))] H L := hW.sub [0, 1, 2, 3, 4, 5, 6, 7, 8, 9, 10, 11, 12, 13, 14, 15, 16, 17, 18, 19, 20] rfl rfl
  show Wx X k 0 0 H L 4 ls [.int r1]
  refine r_if_ne (tgt := 9) C dX8_cell_4 (by decide) (fun c4 => ?_) (fun c4 => ?_)
  · replace h := iF c4 h
    refine r_aload_n C hl 0 dX8_cell_9 rfl rfl ?_
    obtain ⟨c10_values, c10_isTold, c10_waits, c10_readsOf, c10_readMany, c10_heights, c10_isStarted, h10, h⟩ := bd7_some h
    refine r_V (wr := []) (np := 0) C hl (mX8_starts X ad  v_state v_tape v_taped v_fault v_broken v_brokenAt v_spot v_here v_token v_number v_ends v_letters v_values v_isTold v_waits v_readsOf v_readMany v_heights v_isStarted v_oldValues v_isOldTold v_oldReads v_evaluated v_moved v_isChanged v_undos v_undoMany v_undoAside v_formula v_isKept v_lanes v_lengths v_items v_torn v_isAsideChanged  (c10_values, c10_isTold, c10_waits, c10_readsOf, c10_readMany, c10_heights, c10_isStarted) h10) hW [0, 1, 2, 3, 4, 5, 6, 7, 8, 9, 10, 11, 12, 13, 14, 15, 16, 17, 18, 19, 20] [] rfl rfl rfl rfl (by decide) 0 rfl rfl w_cd_X8_starts w_ml_X8_183 w_im_X8_starts w_sel_X8_starts w_in_HeightSheetModel (by decide +kernel) rfl ⟨Nat.le_of_ble_eq_true rfl, Nat.le_of_ble_eq_true rfl⟩ ⟨Nat.zero_le _, Nat.zero_le _⟩ (Nat.le_of_ble_eq_true rfl) dX8_cell_10 (fun rv w1 H L hp hW => ?_) rfl
    obtain ⟨rfl, rfl⟩ := hp
    replace hW : Wd X k A [(ad 0, .inr (8, [.ref (ad 1), .ref (ad 2), .int v_taped, .int v_fault, .int v_broken, .int v_brokenAt, .int v_spot, .int v_here, .int v_token, .int v_number, .ref (ad 3), .ref (ad 4), .ref (ad 5), .ref (ad 6), .ref (ad 7), .ref (ad 8), .ref (ad 9), .ref (ad 10), .int c10_isStarted, .ref (ad 11), .ref (ad 12), .ref (ad 13), .int v_evaluated, .int v_moved, .int v_isChanged, .ref (ad 14), .int v_undoMany, .ref (ad 15), .ref (ad 16), .ref (ad 17), .ref (ad 18), .ref (ad 19), .ref (ad 20), .int v_torn, .int v_isAsideChanged])), (ad 1, .inl (eI X, 720, .inl v_state)), (ad 2, .inl (eI X, 320, .inl v_tape)), (ad 3, .inl (eI X, 9, .inl v_ends)), (ad 4, .inl (eI X, 27, .inl v_letters)), (ad 5, .inl (eI X, 30, .inl c10_values)), (ad 6, .inl (eZ X, 30, .inl c10_isTold)), (ad 7, .inl (eI X, 30, .inl c10_waits)), (ad 8, .inl (eI X, 900, .inl c10_readsOf)), (ad 9, .inl (eI X, 30, .inl c10_readMany)), (ad 10, .inl (eI X, 30, .inl c10_heights)), (ad 11, .inl (eI X, 30, .inl v_oldValues)), (ad 12, .inl (eZ X, 30, .inl v_isOldTold)), (ad 13, .inl (eI X, 30, .inl v_oldReads)), (ad 14, .inl (eI X, 100, .inl v_undos)), (ad 15, .inl (eI X, 103, .inl v_undoAside)), (ad 16, .inl (eI X, 4, .inl v_formula)), (ad 17, .inl (eZ X, 2, .inl v_isKept)), (ad 18, .inl (eI X, 4, .inl v_lanes)), (ad 19, .inl (eI X, 4, .inl v_lengths)), (ad 20, .inl (eI X, 160, .inl v_items))] H L := hW.sub [0, 1, 2, 3, 4, 5, 6, 7, 8, 9, 10, 11, 12, 13, 14, 15, 16, 17, 18, 19, 20] rfl rfl
    show Wx X k 0 0 H L 13 ls []
    refine r_iload_n C hl 2 dX8_cell_13 rfl rfl ?_
    by_cases c14_0 : p2 = (0 : Int32)
    · replace h := iT c14_0 h
      refine r_swI (tgt := 64) C dX8_cell_14 c14_0 (by decide) (by decide) rfl (by decide) ?_
      refine r_aload_n C hl 0 dX8_cell_64 rfl rfl ?_
      refine r_get C hW 0 rfl rfl iwX8 0 (by decide) w_fl_X8_7 rfl dX8_cell_65 ?_
      refine r_bipush (v := 30) C dX8_cell_68 (by decide) ?_
      refine r_iload_n C hl 2 dX8_cell_70 rfl rfl ?_
      refine r_imul C dX8_cell_71 ?_
      refine r_iload_n C hl 1 dX8_cell_72 rfl rfl ?_
      refine r_iadd C dX8_cell_73 ?_
      obtain ⟨x74, e74, g74, h⟩ := rd_some h
      refine r_iald C hW 1 rfl g74 e74 dX8_cell_74 ?_
      exact r_iret C hq hW (by obtain rfl := Option.some.inj h; exact ⟨rfl, rfl⟩) dX8_cell_75
    · replace h := iF c14_0 h
      by_cases c14_1 : p2 = (1 : Int32)
      · replace h := iT c14_1 h
        refine r_swI (tgt := 64) C dX8_cell_14 c14_1 (by decide) (by decide) rfl (by decide) ?_
        refine r_aload_n C hl 0 dX8_cell_64 rfl rfl ?_
        refine r_get C hW 0 rfl rfl iwX8 0 (by decide) w_fl_X8_7 rfl dX8_cell_65 ?_
        refine r_bipush (v := 30) C dX8_cell_68 (by decide) ?_
        refine r_iload_n C hl 2 dX8_cell_70 rfl rfl ?_
        refine r_imul C dX8_cell_71 ?_
        refine r_iload_n C hl 1 dX8_cell_72 rfl rfl ?_
        refine r_iadd C dX8_cell_73 ?_
        obtain ⟨x74, e74, g74, h⟩ := rd_some h
        refine r_iald C hW 1 rfl g74 e74 dX8_cell_74 ?_
        exact r_iret C hq hW (by obtain rfl := Option.some.inj h; exact ⟨rfl, rfl⟩) dX8_cell_75
      · replace h := iF c14_1 h
        by_cases c14_2 : p2 = (2 : Int32)
        · replace h := iT c14_2 h
          refine r_swI (tgt := 64) C dX8_cell_14 c14_2 (by decide) (by decide) rfl (by decide) ?_
          refine r_aload_n C hl 0 dX8_cell_64 rfl rfl ?_
          refine r_get C hW 0 rfl rfl iwX8 0 (by decide) w_fl_X8_7 rfl dX8_cell_65 ?_
          refine r_bipush (v := 30) C dX8_cell_68 (by decide) ?_
          refine r_iload_n C hl 2 dX8_cell_70 rfl rfl ?_
          refine r_imul C dX8_cell_71 ?_
          refine r_iload_n C hl 1 dX8_cell_72 rfl rfl ?_
          refine r_iadd C dX8_cell_73 ?_
          obtain ⟨x74, e74, g74, h⟩ := rd_some h
          refine r_iald C hW 1 rfl g74 e74 dX8_cell_74 ?_
          exact r_iret C hq hW (by obtain rfl := Option.some.inj h; exact ⟨rfl, rfl⟩) dX8_cell_75
        · replace h := iF c14_2 h
          by_cases c14_3 : p2 = (3 : Int32)
          · replace h := iT c14_3 h
            refine r_swI (tgt := 64) C dX8_cell_14 c14_3 (by decide) (by decide) rfl (by decide) ?_
            refine r_aload_n C hl 0 dX8_cell_64 rfl rfl ?_
            refine r_get C hW 0 rfl rfl iwX8 0 (by decide) w_fl_X8_7 rfl dX8_cell_65 ?_
            refine r_bipush (v := 30) C dX8_cell_68 (by decide) ?_
            refine r_iload_n C hl 2 dX8_cell_70 rfl rfl ?_
            refine r_imul C dX8_cell_71 ?_
            refine r_iload_n C hl 1 dX8_cell_72 rfl rfl ?_
            refine r_iadd C dX8_cell_73 ?_
            obtain ⟨x74, e74, g74, h⟩ := rd_some h
            refine r_iald C hW 1 rfl g74 e74 dX8_cell_74 ?_
            exact r_iret C hq hW (by obtain rfl := Option.some.inj h; exact ⟨rfl, rfl⟩) dX8_cell_75
          · replace h := iF c14_3 h
            by_cases c14_4 : p2 = (4 : Int32)
            · replace h := iT c14_4 h
              refine r_swI (tgt := 76) C dX8_cell_14 c14_4 (by decide) (by decide) rfl (by decide) ?_
              refine r_aload_n C hl 0 dX8_cell_76 rfl rfl ?_
              refine r_get C hW 0 rfl rfl iwX8 13 (by decide) w_fl_X8_25 rfl dX8_cell_77 ?_
              refine r_iload_n C hl 1 dX8_cell_80 rfl rfl ?_
              obtain ⟨x81, e81, g81, h⟩ := rd_some h
              refine r_zald C hW 6 rfl g81 e81 dX8_cell_81 ?_
              refine r_if_eq (tgt := 89) C dX8_cell_82 (by decide) (fun c82 => ?_) (fun c82 => ?_)
              · replace h := iT c82 h
                refine r_aload_n C hl 0 dX8_cell_89 rfl rfl ?_
                refine r_iload_n C hl 1 dX8_cell_90 rfl rfl ?_
                obtain ⟨r91, h91, h⟩ := bd1_some h
                refine r_V (wr := []) (np := 1) C hl (mX8_circleOf X ad  v_state v_tape v_taped v_fault v_broken v_brokenAt v_spot v_here v_token v_number v_ends v_letters c10_values c10_isTold c10_waits c10_readsOf c10_readMany c10_heights c10_isStarted v_oldValues v_isOldTold v_oldReads v_evaluated v_moved v_isChanged v_undos v_undoMany v_undoAside v_formula v_isKept v_lanes v_lengths v_items v_torn v_isAsideChanged p1 r91 h91) hW [0, 1, 2, 3, 4, 5, 6, 7, 8, 9, 10, 11, 12, 13, 14, 15, 16, 17, 18, 19, 20] [] rfl rfl rfl rfl (by decide) 0 rfl rfl w_cd_X8_circleOf w_ml_X8_174 w_im_X8_circleOf w_sel_X8_circleOf w_in_HeightSheetModel (by decide +kernel) rfl ⟨Nat.le_of_ble_eq_true rfl, Nat.le_of_ble_eq_true rfl⟩ ⟨Nat.zero_le _, Nat.zero_le _⟩ (Nat.le_of_ble_eq_true rfl) dX8_cell_91 (fun rv w1 H L hp hW => ?_) rfl
                obtain ⟨rfl, rfl⟩ := hp
                replace hW : Wd X k A [(ad 0, .inr (8, [.ref (ad 1), .ref (ad 2), .int v_taped, .int v_fault, .int v_broken, .int v_brokenAt, .int v_spot, .int v_here, .int v_token, .int v_number, .ref (ad 3), .ref (ad 4), .ref (ad 5), .ref (ad 6), .ref (ad 7), .ref (ad 8), .ref (ad 9), .ref (ad 10), .int c10_isStarted, .ref (ad 11), .ref (ad 12), .ref (ad 13), .int v_evaluated, .int v_moved, .int v_isChanged, .ref (ad 14), .int v_undoMany, .ref (ad 15), .ref (ad 16), .ref (ad 17), .ref (ad 18), .ref (ad 19), .ref (ad 20), .int v_torn, .int v_isAsideChanged])), (ad 1, .inl (eI X, 720, .inl v_state)), (ad 2, .inl (eI X, 320, .inl v_tape)), (ad 3, .inl (eI X, 9, .inl v_ends)), (ad 4, .inl (eI X, 27, .inl v_letters)), (ad 5, .inl (eI X, 30, .inl c10_values)), (ad 6, .inl (eZ X, 30, .inl c10_isTold)), (ad 7, .inl (eI X, 30, .inl c10_waits)), (ad 8, .inl (eI X, 900, .inl c10_readsOf)), (ad 9, .inl (eI X, 30, .inl c10_readMany)), (ad 10, .inl (eI X, 30, .inl c10_heights)), (ad 11, .inl (eI X, 30, .inl v_oldValues)), (ad 12, .inl (eZ X, 30, .inl v_isOldTold)), (ad 13, .inl (eI X, 30, .inl v_oldReads)), (ad 14, .inl (eI X, 100, .inl v_undos)), (ad 15, .inl (eI X, 103, .inl v_undoAside)), (ad 16, .inl (eI X, 4, .inl v_formula)), (ad 17, .inl (eZ X, 2, .inl v_isKept)), (ad 18, .inl (eI X, 4, .inl v_lanes)), (ad 19, .inl (eI X, 4, .inl v_lengths)), (ad 20, .inl (eI X, 160, .inl v_items))] H L := hW.sub [0, 1, 2, 3, 4, 5, 6, 7, 8, 9, 10, 11, 12, 13, 14, 15, 16, 17, 18, 19, 20] rfl rfl
                show Wx X k 0 0 H L 94 ls [.int r91]
                refine r_if_le (tgt := 101) C dX8_cell_94 (by decide) (fun c94 => ?_) (fun c94 => ?_)
                · replace h := iT c94 h
                  refine r_iconst (v := 1) C dX8_cell_101 (by decide) ?_
                  exact r_iret C hq hW (by obtain rfl := Option.some.inj h; exact ⟨rfl, rfl⟩) dX8_cell_102
                · replace h := iF c94 h
                  refine r_iconst (v := 2) C dX8_cell_97 (by decide) ?_
                  refine r_goto (tgt := 102) C dX8_cell_98 (by decide) ?_
                  exact r_iret C hq hW (by obtain rfl := Option.some.inj h; exact ⟨rfl, rfl⟩) dX8_cell_102
              · replace h := iF c82 h
                refine r_iconst (v := 0) C dX8_cell_85 (by decide) ?_
                refine r_goto (tgt := 102) C dX8_cell_86 (by decide) ?_
                exact r_iret C hq hW (by obtain rfl := Option.some.inj h; exact ⟨rfl, rfl⟩) dX8_cell_102
            · replace h := iF c14_4 h
              by_cases c14_5 : p2 = (5 : Int32)
              · replace h := iT c14_5 h
                refine r_swI (tgt := 103) C dX8_cell_14 c14_5 (by decide) (by decide) rfl (by decide) ?_
                refine r_aload_n C hl 0 dX8_cell_103 rfl rfl ?_
                refine r_get C hW 0 rfl rfl iwX8 17 (by decide) w_fl_X8_38 rfl dX8_cell_104 ?_
                refine r_iload_n C hl 1 dX8_cell_107 rfl rfl ?_
                obtain ⟨x108, e108, g108, h⟩ := rd_some h
                refine r_iald C hW 10 rfl g108 e108 dX8_cell_108 ?_
                exact r_iret C hq hW (by obtain rfl := Option.some.inj h; exact ⟨rfl, rfl⟩) dX8_cell_109
              · replace h := iF c14_5 h
                by_cases c14_6 : p2 = (6 : Int32)
                · replace h := iT c14_6 h
                  refine r_swI (tgt := 110) C dX8_cell_14 c14_6 (by decide) (by decide) rfl (by decide) ?_
                  refine r_aload_n C hl 0 dX8_cell_110 rfl rfl ?_
                  refine r_get C hW 0 rfl rfl iwX8 13 (by decide) w_fl_X8_25 rfl dX8_cell_111 ?_
                  refine r_iload_n C hl 1 dX8_cell_114 rfl rfl ?_
                  obtain ⟨x115, e115, g115, h⟩ := rd_some h
                  refine r_zald C hW 6 rfl g115 e115 dX8_cell_115 ?_
                  refine r_if_eq (tgt := 124) C dX8_cell_116 (by decide) (fun c116 => ?_) (fun c116 => ?_)
                  · replace h := iT c116 h
                    refine r_aload_n C hl 0 dX8_cell_124 rfl rfl ?_
                    refine r_get C hW 0 rfl rfl iwX8 14 (by decide) w_fl_X8_29 rfl dX8_cell_125 ?_
                    refine r_iload_n C hl 1 dX8_cell_128 rfl rfl ?_
                    obtain ⟨x129, e129, g129, h⟩ := rd_some h
                    refine r_iald C hW 7 rfl g129 e129 dX8_cell_129 ?_
                    exact r_iret C hq hW (by obtain rfl := Option.some.inj h; exact ⟨rfl, rfl⟩) dX8_cell_130
                  · replace h := iF c116 h
                    refine r_bipush (v := -4) C dX8_cell_119 (by decide) ?_
                    refine r_goto (tgt := 130) C dX8_cell_121 (by decide) ?_
                    exact r_iret C hq hW (by obtain rfl := Option.some.inj h; exact ⟨rfl, rfl⟩) dX8_cell_130
                · replace h := iF c14_6 h
                  by_cases c14_7 : p2 = (7 : Int32)
                  · replace h := iT c14_7 h
                    refine r_swI (tgt := 131) C dX8_cell_14 c14_7 (by decide) (by decide) rfl (by decide) ?_
                    refine r_aload_n C hl 0 dX8_cell_131 rfl rfl ?_
                    refine r_get C hW 0 rfl rfl iwX8 16 (by decide) w_fl_X8_35 rfl dX8_cell_132 ?_
                    refine r_iload_n C hl 1 dX8_cell_135 rfl rfl ?_
                    obtain ⟨x136, e136, g136, h⟩ := rd_some h
                    refine r_iald C hW 9 rfl g136 e136 dX8_cell_136 ?_
                    exact r_iret C hq hW (by obtain rfl := Option.some.inj h; exact ⟨rfl, rfl⟩) dX8_cell_137
                  · replace h := iF c14_7 h
                    by_cases c14_8 : p2 = (8 : Int32)
                    · replace h := iT c14_8 h
                      refine r_swI (tgt := 138) C dX8_cell_14 c14_8 (by decide) (by decide) rfl (by decide) ?_
                      refine r_aload_n C hl 0 dX8_cell_138 rfl rfl ?_
                      refine r_iload_n C hl 1 dX8_cell_139 rfl rfl ?_
                      obtain ⟨r140, h140, h⟩ := bd1_some h
                      refine r_V (wr := []) (np := 1) C hl (mX8_readersOf X ad  v_state v_tape v_taped v_fault v_broken v_brokenAt v_spot v_here v_token v_number v_ends v_letters c10_values c10_isTold c10_waits c10_readsOf c10_readMany c10_heights c10_isStarted v_oldValues v_isOldTold v_oldReads v_evaluated v_moved v_isChanged v_undos v_undoMany v_undoAside v_formula v_isKept v_lanes v_lengths v_items v_torn v_isAsideChanged p1 r140 h140) hW [0, 1, 2, 3, 4, 5, 6, 7, 8, 9, 10, 11, 12, 13, 14, 15, 16, 17, 18, 19, 20] [] rfl rfl rfl rfl (by decide) 0 rfl rfl w_cd_X8_readersOf w_ml_X8_200 w_im_X8_readersOf w_sel_X8_readersOf w_in_HeightSheetModel (by decide +kernel) rfl ⟨Nat.le_of_ble_eq_true rfl, Nat.le_of_ble_eq_true rfl⟩ ⟨Nat.zero_le _, Nat.zero_le _⟩ (Nat.le_of_ble_eq_true rfl) dX8_cell_140 (fun rv w1 H L hp hW => ?_) rfl
                      obtain ⟨rfl, rfl⟩ := hp
                      replace hW : Wd X k A [(ad 0, .inr (8, [.ref (ad 1), .ref (ad 2), .int v_taped, .int v_fault, .int v_broken, .int v_brokenAt, .int v_spot, .int v_here, .int v_token, .int v_number, .ref (ad 3), .ref (ad 4), .ref (ad 5), .ref (ad 6), .ref (ad 7), .ref (ad 8), .ref (ad 9), .ref (ad 10), .int c10_isStarted, .ref (ad 11), .ref (ad 12), .ref (ad 13), .int v_evaluated, .int v_moved, .int v_isChanged, .ref (ad 14), .int v_undoMany, .ref (ad 15), .ref (ad 16), .ref (ad 17), .ref (ad 18), .ref (ad 19), .ref (ad 20), .int v_torn, .int v_isAsideChanged])), (ad 1, .inl (eI X, 720, .inl v_state)), (ad 2, .inl (eI X, 320, .inl v_tape)), (ad 3, .inl (eI X, 9, .inl v_ends)), (ad 4, .inl (eI X, 27, .inl v_letters)), (ad 5, .inl (eI X, 30, .inl c10_values)), (ad 6, .inl (eZ X, 30, .inl c10_isTold)), (ad 7, .inl (eI X, 30, .inl c10_waits)), (ad 8, .inl (eI X, 900, .inl c10_readsOf)), (ad 9, .inl (eI X, 30, .inl c10_readMany)), (ad 10, .inl (eI X, 30, .inl c10_heights)), (ad 11, .inl (eI X, 30, .inl v_oldValues)), (ad 12, .inl (eZ X, 30, .inl v_isOldTold)), (ad 13, .inl (eI X, 30, .inl v_oldReads)), (ad 14, .inl (eI X, 100, .inl v_undos)), (ad 15, .inl (eI X, 103, .inl v_undoAside)), (ad 16, .inl (eI X, 4, .inl v_formula)), (ad 17, .inl (eZ X, 2, .inl v_isKept)), (ad 18, .inl (eI X, 4, .inl v_lanes)), (ad 19, .inl (eI X, 4, .inl v_lengths)), (ad 20, .inl (eI X, 160, .inl v_items))] H L := hW.sub [0, 1, 2, 3, 4, 5, 6, 7, 8, 9, 10, 11, 12, 13, 14, 15, 16, 17, 18, 19, 20] rfl rfl
                      show Wx X k 0 0 H L 143 ls [.int r140]
                      exact r_iret C hq hW (by obtain rfl := Option.some.inj h; exact ⟨rfl, rfl⟩) dX8_cell_143
                    · replace h := iF c14_8 h
                      refine r_swO (tgt := 144) C dX8_cell_14 (by have t_ := And.intro trivial trivial; have u0 := lv_neT (a := 0) c14_0 rfl; have u1 := lv_neT (a := 1) c14_1 rfl; have u2 := lv_neT (a := 2) c14_2 rfl; have u3 := lv_neT (a := 3) c14_3 rfl; have u4 := lv_neT (a := 4) c14_4 rfl; have u5 := lv_neT (a := 5) c14_5 rfl; have u6 := lv_neT (a := 6) c14_6 rfl; have u7 := lv_neT (a := 7) c14_7 rfl; have u8 := lv_neT (a := 8) c14_8 rfl; omega) (by decide) ?_
                      refine r_iconst (v := -1) C dX8_cell_144 (by decide) ?_
                      exact r_iret C hq hW (by obtain rfl := Option.some.inj h; exact ⟨rfl, rfl⟩) dX8_cell_145
  · replace h := iT c4 h
    refine r_iconst (v := -1) C dX8_cell_7 (by decide) ?_
    exact r_iret C hq hW (by obtain rfl := Option.some.inj h; exact ⟨rfl, rfl⟩) dX8_cell_8
def fX8_value (v_state : (Nat → Int32)) (v_values : (Nat → Int32)) (v_isTold : (Nat → Int32)) (v_waits : (Nat → Int32)) (v_readsOf : (Nat → Int32)) (v_readMany : (Nat → Int32)) (v_heights : (Nat → Int32)) (v_isStarted : Int32) (p1 : Int32) : Option (Int32 × (Nat → Int32) × (Nat → Int32) × (Nat → Int32) × (Nat → Int32) × (Nat → Int32) × (Nat → Int32) × Int32) :=
  bd7 (fX8_starts v_state v_values v_isTold v_waits v_readsOf v_readMany v_heights v_isStarted) fun c1_values c1_isTold c1_waits c1_readsOf c1_readMany c1_heights c1_isStarted =>
  bd1 (fX8_isCell p1) fun r5 =>
  if r5 = (0 : Int32) then
    some ((0 : Int32), c1_values, c1_isTold, c1_waits, c1_readsOf, c1_readMany, c1_heights, c1_isStarted)
  else
    rd c1_values 30 p1 fun x16 =>
    some (x16, c1_values, c1_isTold, c1_waits, c1_readsOf, c1_readMany, c1_heights, c1_isStarted)
set_option maxRecDepth 100000 in
set_option maxHeartbeats 8000000 in
theorem mX8_value (X : Ev) (ad : Nat → Nat) (v_state : (Nat → Int32)) (v_tape : (Nat → Int32)) (v_taped : Int32) (v_fault : Int32) (v_broken : Int32) (v_brokenAt : Int32) (v_spot : Int32) (v_here : Int32) (v_token : Int32) (v_number : Int32) (v_ends : (Nat → Int32)) (v_letters : (Nat → Int32)) (v_values : (Nat → Int32)) (v_isTold : (Nat → Int32)) (v_waits : (Nat → Int32)) (v_readsOf : (Nat → Int32)) (v_readMany : (Nat → Int32)) (v_heights : (Nat → Int32)) (v_isStarted : Int32) (v_oldValues : (Nat → Int32)) (v_isOldTold : (Nat → Int32)) (v_oldReads : (Nat → Int32)) (v_evaluated : Int32) (v_moved : Int32) (v_isChanged : Int32) (v_undos : (Nat → Int32)) (v_undoMany : Int32) (v_undoAside : (Nat → Int32)) (v_formula : (Nat → Int32)) (v_isKept : (Nat → Int32)) (v_lanes : (Nat → Int32)) (v_lengths : (Nat → Int32)) (v_items : (Nat → Int32)) (v_torn : Int32) (v_isAsideChanged : Int32) (p1 : Int32) (o : Int32 × (Nat → Int32) × (Nat → Int32) × (Nat → Int32) × (Nat → Int32) × (Nat → Int32) × (Nat → Int32) × Int32) (h : fX8_value v_state v_values v_isTold v_waits v_readsOf v_readMany v_heights v_isStarted p1 = some o) : Ctr X yX8_value cX8_value 2 (some .int) 6 136 0 0 [.ref (ad 0), .int p1] [(ad 0, .inr (8, [.ref (ad 1), .ref (ad 2), .int v_taped, .int v_fault, .int v_broken, .int v_brokenAt, .int v_spot, .int v_here, .int v_token, .int v_number, .ref (ad 3), .ref (ad 4), .ref (ad 5), .ref (ad 6), .ref (ad 7), .ref (ad 8), .ref (ad 9), .ref (ad 10), .int v_isStarted, .ref (ad 11), .ref (ad 12), .ref (ad 13), .int v_evaluated, .int v_moved, .int v_isChanged, .ref (ad 14), .int v_undoMany, .ref (ad 15), .ref (ad 16), .ref (ad 17), .ref (ad 18), .ref (ad 19), .ref (ad 20), .int v_torn, .int v_isAsideChanged])), (ad 1, .inl (eI X, 720, .inl v_state)), (ad 2, .inl (eI X, 320, .inl v_tape)), (ad 3, .inl (eI X, 9, .inl v_ends)), (ad 4, .inl (eI X, 27, .inl v_letters)), (ad 5, .inl (eI X, 30, .inl v_values)), (ad 6, .inl (eZ X, 30, .inl v_isTold)), (ad 7, .inl (eI X, 30, .inl v_waits)), (ad 8, .inl (eI X, 900, .inl v_readsOf)), (ad 9, .inl (eI X, 30, .inl v_readMany)), (ad 10, .inl (eI X, 30, .inl v_heights)), (ad 11, .inl (eI X, 30, .inl v_oldValues)), (ad 12, .inl (eZ X, 30, .inl v_isOldTold)), (ad 13, .inl (eI X, 30, .inl v_oldReads)), (ad 14, .inl (eI X, 100, .inl v_undos)), (ad 15, .inl (eI X, 103, .inl v_undoAside)), (ad 16, .inl (eI X, 4, .inl v_formula)), (ad 17, .inl (eZ X, 2, .inl v_isKept)), (ad 18, .inl (eI X, 4, .inl v_lanes)), (ad 19, .inl (eI X, 4, .inl v_lengths)), (ad 20, .inl (eI X, 160, .inl v_items))] (De (some (.int o.1)) [(ad 0, .inr (8, [.ref (ad 1), .ref (ad 2), .int v_taped, .int v_fault, .int v_broken, .int v_brokenAt, .int v_spot, .int v_here, .int v_token, .int v_number, .ref (ad 3), .ref (ad 4), .ref (ad 5), .ref (ad 6), .ref (ad 7), .ref (ad 8), .ref (ad 9), .ref (ad 10), .int (o.2.2.2.2.2.2.2), .ref (ad 11), .ref (ad 12), .ref (ad 13), .int v_evaluated, .int v_moved, .int v_isChanged, .ref (ad 14), .int v_undoMany, .ref (ad 15), .ref (ad 16), .ref (ad 17), .ref (ad 18), .ref (ad 19), .ref (ad 20), .int v_torn, .int v_isAsideChanged])), (ad 1, .inl (eI X, 720, .inl v_state)), (ad 2, .inl (eI X, 320, .inl v_tape)), (ad 3, .inl (eI X, 9, .inl v_ends)), (ad 4, .inl (eI X, 27, .inl v_letters)), (ad 5, .inl (eI X, 30, .inl (o.2.1))), (ad 6, .inl (eZ X, 30, .inl (o.2.2.1))), (ad 7, .inl (eI X, 30, .inl (o.2.2.2.1))), (ad 8, .inl (eI X, 900, .inl (o.2.2.2.2.1))), (ad 9, .inl (eI X, 30, .inl (o.2.2.2.2.2.1))), (ad 10, .inl (eI X, 30, .inl (o.2.2.2.2.2.2.1))), (ad 11, .inl (eI X, 30, .inl v_oldValues)), (ad 12, .inl (eZ X, 30, .inl v_isOldTold)), (ad 13, .inl (eI X, 30, .inl v_oldReads)), (ad 14, .inl (eI X, 100, .inl v_undos)), (ad 15, .inl (eI X, 103, .inl v_undoAside)), (ad 16, .inl (eI X, 4, .inl v_formula)), (ad 17, .inl (eZ X, 2, .inl v_isKept)), (ad 18, .inl (eI X, 4, .inl v_lanes)), (ad 19, .inl (eI X, 4, .inl v_lengths)), (ad 20, .inl (eI X, 160, .inl v_items))]) := by
  refine Ctr.start (by decide) (Nat.le_of_ble_eq_true rfl) (fun k A ls C hq hin hW hl => ?_)
  replace C : Cx X k cX8_value 2 (some .int) RX8 A 6 136 0 0 := C
  replace hl : lv_has ls 2 [(0, .ref (ad 0)), (1, .int p1)] := hl
  suffices hh : ∀ (H : Heap) (L : List Loc), Wd X k A [(ad 0, .inr (8, [.ref (ad 1), .ref (ad 2), .int v_taped, .int v_fault, .int v_broken, .int v_brokenAt, .int v_spot, .int v_here, .int v_token, .int v_number, .ref (ad 3), .ref (ad 4), .ref (ad 5), .ref (ad 6), .ref (ad 7), .ref (ad 8), .ref (ad 9), .ref (ad 10), .int v_isStarted, .ref (ad 11), .ref (ad 12), .ref (ad 13), .int v_evaluated, .int v_moved, .int v_isChanged, .ref (ad 14), .int v_undoMany, .ref (ad 15), .ref (ad 16), .ref (ad 17), .ref (ad 18), .ref (ad 19), .ref (ad 20), .int v_torn, .int v_isAsideChanged])), (ad 1, .inl (eI X, 720, .inl v_state)), (ad 2, .inl (eI X, 320, .inl v_tape)), (ad 3, .inl (eI X, 9, .inl v_ends)), (ad 4, .inl (eI X, 27, .inl v_letters)), (ad 5, .inl (eI X, 30, .inl v_values)), (ad 6, .inl (eZ X, 30, .inl v_isTold)), (ad 7, .inl (eI X, 30, .inl v_waits)), (ad 8, .inl (eI X, 900, .inl v_readsOf)), (ad 9, .inl (eI X, 30, .inl v_readMany)), (ad 10, .inl (eI X, 30, .inl v_heights)), (ad 11, .inl (eI X, 30, .inl v_oldValues)), (ad 12, .inl (eZ X, 30, .inl v_isOldTold)), (ad 13, .inl (eI X, 30, .inl v_oldReads)), (ad 14, .inl (eI X, 100, .inl v_undos)), (ad 15, .inl (eI X, 103, .inl v_undoAside)), (ad 16, .inl (eI X, 4, .inl v_formula)), (ad 17, .inl (eZ X, 2, .inl v_isKept)), (ad 18, .inl (eI X, 4, .inl v_lanes)), (ad 19, .inl (eI X, 4, .inl v_lengths)), (ad 20, .inl (eI X, 160, .inl v_items))] H L → Wx X k 0 0 H L 0 ls [] from hh _ _ hW
  clear hW
  intro H L hW
  unfold fX8_value at h
  refine r_aload_n C hl 0 dX8_value_0 rfl rfl ?_
  obtain ⟨c1_values, c1_isTold, c1_waits, c1_readsOf, c1_readMany, c1_heights, c1_isStarted, h1, h⟩ := bd7_some h
  refine r_V (wr := []) (np := 0) C hl (mX8_starts X ad  v_state v_tape v_taped v_fault v_broken v_brokenAt v_spot v_here v_token v_number v_ends v_letters v_values v_isTold v_waits v_readsOf v_readMany v_heights v_isStarted v_oldValues v_isOldTold v_oldReads v_evaluated v_moved v_isChanged v_undos v_undoMany v_undoAside v_formula v_isKept v_lanes v_lengths v_items v_torn v_isAsideChanged  (c1_values, c1_isTold, c1_waits, c1_readsOf, c1_readMany, c1_heights, c1_isStarted) h1) hW [0, 1, 2, 3, 4, 5, 6, 7, 8, 9, 10, 11, 12, 13, 14, 15, 16, 17, 18, 19, 20] [] rfl rfl rfl rfl (by decide) 0 rfl rfl w_cd_X8_starts w_ml_X8_183 w_im_X8_starts w_sel_X8_starts w_in_HeightSheetModel (by decide +kernel) rfl ⟨Nat.le_of_ble_eq_true rfl, Nat.le_of_ble_eq_true rfl⟩ ⟨Nat.zero_le _, Nat.zero_le _⟩ (Nat.le_of_ble_eq_true rfl) dX8_value_1 (fun rv w1 H L hp hW => ?_) rfl
  obtain ⟨rfl, rfl⟩ := hp
  replace hW : Wd X k A [(ad 0, .inr (8, [.ref (ad 1), .ref (ad 2), .int v_taped, .int v_fault, .int v_broken, .int v_brokenAt, .int v_spot, .int v_here, .int v_token, .int v_number, .ref (ad 3), .ref (ad 4), .ref (ad 5), .ref (ad 6), .ref (ad 7), .ref (ad 8), .ref (ad 9), .ref (ad 10), .int c1_isStarted, .ref (ad 11), .ref (ad 12), .ref (ad 13), .int v_evaluated, .int v_moved, .int v_isChanged, .ref (ad 14), .int v_undoMany, .ref (ad 15), .ref (ad 16), .ref (ad 17), .ref (ad 18), .ref (ad 19), .ref (ad 20), .int v_torn, .int v_isAsideChanged])), (ad 1, .inl (eI X, 720, .inl v_state)), (ad 2, .inl (eI X, 320, .inl v_tape)), (ad 3, .inl (eI X, 9, .inl v_ends)), (ad 4, .inl (eI X, 27, .inl v_letters)), (ad 5, .inl (eI X, 30, .inl c1_values)), (ad 6, .inl (eZ X, 30, .inl c1_isTold)), (ad 7, .inl (eI X, 30, .inl c1_waits)), (ad 8, .inl (eI X, 900, .inl c1_readsOf)), (ad 9, .inl (eI X, 30, .inl c1_readMany)), (ad 10, .inl (eI X, 30, .inl c1_heights)), (ad 11, .inl (eI X, 30, .inl v_oldValues)), (ad 12, .inl (eZ X, 30, .inl v_isOldTold)), (ad 13, .inl (eI X, 30, .inl v_oldReads)), (ad 14, .inl (eI X, 100, .inl v_undos)), (ad 15, .inl (eI X, 103, .inl v_undoAside)), (ad 16, .inl (eI X, 4, .inl v_formula)), (ad 17, .inl (eZ X, 2, .inl v_isKept)), (ad 18, .inl (eI X, 4, .inl v_lanes)), (ad 19, .inl (eI X, 4, .inl v_lengths)), (ad 20, .inl (eI X, 160, .inl v_items))] H L := hW.sub [0, 1, 2, 3, 4, 5, 6, 7, 8, 9, 10, 11, 12, 13, 14, 15, 16, 17, 18, 19, 20] rfl rfl
  show Wx X k 0 0 H L 4 ls []
  refine r_iload_n C hl 1 dX8_value_4 rfl rfl ?_
  obtain ⟨r5, h5, h⟩ := bd1_some h
  refine r_S (wr := [(ad 0, .inr (8, [.ref (ad 1), .ref (ad 2), .int v_taped, .int v_fault, .int v_broken, .int v_brokenAt, .int v_spot, .int v_here, .int v_token, .int v_number, .ref (ad 3), .ref (ad 4), .ref (ad 5), .ref (ad 6), .ref (ad 7), .ref (ad 8), .ref (ad 9), .ref (ad 10), .int c1_isStarted, .ref (ad 11), .ref (ad 12), .ref (ad 13), .int v_evaluated, .int v_moved, .int v_isChanged, .ref (ad 14), .int v_undoMany, .ref (ad 15), .ref (ad 16), .ref (ad 17), .ref (ad 18), .ref (ad 19), .ref (ad 20), .int v_torn, .int v_isAsideChanged])), (ad 1, .inl (eI X, 720, .inl v_state)), (ad 2, .inl (eI X, 320, .inl v_tape)), (ad 3, .inl (eI X, 9, .inl v_ends)), (ad 4, .inl (eI X, 27, .inl v_letters)), (ad 5, .inl (eI X, 30, .inl c1_values)), (ad 6, .inl (eZ X, 30, .inl c1_isTold)), (ad 7, .inl (eI X, 30, .inl c1_waits)), (ad 8, .inl (eI X, 900, .inl c1_readsOf)), (ad 9, .inl (eI X, 30, .inl c1_readMany)), (ad 10, .inl (eI X, 30, .inl c1_heights)), (ad 11, .inl (eI X, 30, .inl v_oldValues)), (ad 12, .inl (eZ X, 30, .inl v_isOldTold)), (ad 13, .inl (eI X, 30, .inl v_oldReads)), (ad 14, .inl (eI X, 100, .inl v_undos)), (ad 15, .inl (eI X, 103, .inl v_undoAside)), (ad 16, .inl (eI X, 4, .inl v_formula)), (ad 17, .inl (eZ X, 2, .inl v_isKept)), (ad 18, .inl (eI X, 4, .inl v_lanes)), (ad 19, .inl (eI X, 4, .inl v_lengths)), (ad 20, .inl (eI X, 160, .inl v_items))]) (np := 1) C hl (mX8_isCell X    p1 r5 h5) hW [] [0, 1, 2, 3, 4, 5, 6, 7, 8, 9, 10, 11, 12, 13, 14, 15, 16, 17, 18, 19, 20] rfl rfl rfl rfl (by decide) w_cd_X8_isCell w_ml_X8_197 w_st_X8_isCell w_in_HeightSheetModel (by decide +kernel) rfl ⟨Nat.le_of_ble_eq_true rfl, Nat.le_of_ble_eq_true rfl⟩ ⟨Nat.zero_le _, Nat.zero_le _⟩ (Nat.le_of_ble_eq_true rfl) dX8_value_5 (fun rv w1 H L hp hW => ?_) rfl
  obtain ⟨rfl, rfl⟩ := hp
  replace hW : Wd X k A [(ad 0, .inr (8, [.ref (ad 1), .ref (ad 2), .int v_taped, .int v_fault, .int v_broken, .int v_brokenAt, .int v_spot, .int v_here, .int v_token, .int v_number, .ref (ad 3), .ref (ad 4), .ref (ad 5), .ref (ad 6), .ref (ad 7), .ref (ad 8), .ref (ad 9), .ref (ad 10), .int c1_isStarted, .ref (ad 11), .ref (ad 12), .ref (ad 13), .int v_evaluated, .int v_moved, .int v_isChanged, .ref (ad 14), .int v_undoMany, .ref (ad 15), .ref (ad 16), .ref (ad 17), .ref (ad 18), .ref (ad 19), .ref (ad 20), .int v_torn, .int v_isAsideChanged])), (ad 1, .inl (eI X, 720, .inl v_state)), (ad 2, .inl (eI X, 320, .inl v_tape)), (ad 3, .inl (eI X, 9, .inl v_ends)), (ad 4, .inl (eI X, 27, .inl v_letters)), (ad 5, .inl (eI X, 30, .inl c1_values)), (ad 6, .inl (eZ X, 30, .inl c1_isTold)), (ad 7, .inl (eI X, 30, .inl c1_waits)), (ad 8, .inl (eI X, 900, .inl c1_readsOf)), (ad 9, .inl (eI X, 30, .inl c1_readMany)), (ad 10, .inl (eI X, 30, .inl c1_heights)), (ad 11, .inl (eI X, 30, .inl v_oldValues)), (ad 12, .inl (eZ X, 30, .inl v_isOldTold)), (ad 13, .inl (eI X, 30, .inl v_oldReads)), (ad 14, .inl (eI X, 100, .inl v_undos)), (ad 15, .inl (eI X, 103, .inl v_undoAside)), (ad 16, .inl (eI X, 4, .inl v_formula)), (ad 17, .inl (eZ X, 2, .inl v_isKept)), (ad 18, .inl (eI X, 4, .inl v_lanes)), (ad 19, .inl (eI X, 4, .inl v_lengths)), (ad 20, .inl (eI X, 160, .inl v_items))] H L := hW.sub [0, 1, 2, 3, 4, 5, 6, 7, 8, 9, 10, 11, 12, 13, 14, 15, 16, 17, 18, 19, 20] rfl rfl
  show Wx X k 0 0 H L 8 ls [.int r5]
  refine r_if_eq (tgt := 20) C dX8_value_8 (by decide) (fun c8 => ?_) (fun c8 => ?_)
  · replace h := iT c8 h
    refine r_iconst (v := 0) C dX8_value_20 (by decide) ?_
    exact r_iret C hq hW (by obtain rfl := Option.some.inj h; exact ⟨rfl, rfl⟩) dX8_value_21
  · replace h := iF c8 h
    refine r_aload_n C hl 0 dX8_value_11 rfl rfl ?_
    refine r_get C hW 0 rfl rfl iwX8 12 (by decide) w_fl_X8_22 rfl dX8_value_12 ?_
    refine r_iload_n C hl 1 dX8_value_15 rfl rfl ?_
    obtain ⟨x16, e16, g16, h⟩ := rd_some h
    refine r_iald C hW 5 rfl g16 e16 dX8_value_16 ?_
    refine r_goto (tgt := 21) C dX8_value_17 (by decide) ?_
    exact r_iret C hq hW (by obtain rfl := Option.some.inj h; exact ⟨rfl, rfl⟩) dX8_value_21
def fX8_reads (v_state : (Nat → Int32)) (v_values : (Nat → Int32)) (v_isTold : (Nat → Int32)) (v_waits : (Nat → Int32)) (v_readsOf : (Nat → Int32)) (v_readMany : (Nat → Int32)) (v_heights : (Nat → Int32)) (v_isStarted : Int32) (p1 : Int32) (p2 : Int32) : Option (Int32 × (Nat → Int32) × (Nat → Int32) × (Nat → Int32) × (Nat → Int32) × (Nat → Int32) × (Nat → Int32) × Int32) :=
  bd1 (fX8_isCell p1) fun r1 =>
  if r1 = (0 : Int32) then
    some ((-1 : Int32), v_values, v_isTold, v_waits, v_readsOf, v_readMany, v_heights, v_isStarted)
  else
    if (0 : Int32) ≤ p2 then
      bd7 (fX8_starts v_state v_values v_isTold v_waits v_readsOf v_readMany v_heights v_isStarted) fun c14_values c14_isTold c14_waits c14_readsOf c14_readMany c14_heights c14_isStarted =>
      rd c14_readMany 30 p1 fun x23 =>
      if x23 ≤ p2 then
        some ((-4 : Int32), c14_values, c14_isTold, c14_waits, c14_readsOf, c14_readMany, c14_heights, c14_isStarted)
      else
        rd c14_readsOf 900 (((30 : Int32) * p1) + p2) fun x37 =>
        some (x37, c14_values, c14_isTold, c14_waits, c14_readsOf, c14_readMany, c14_heights, c14_isStarted)
    else
      some ((-1 : Int32), v_values, v_isTold, v_waits, v_readsOf, v_readMany, v_heights, v_isStarted)
set_option maxRecDepth 100000 in
set_option maxHeartbeats 8000000 in
theorem mX8_reads (X : Ev) (ad : Nat → Nat) (v_state : (Nat → Int32)) (v_tape : (Nat → Int32)) (v_taped : Int32) (v_fault : Int32) (v_broken : Int32) (v_brokenAt : Int32) (v_spot : Int32) (v_here : Int32) (v_token : Int32) (v_number : Int32) (v_ends : (Nat → Int32)) (v_letters : (Nat → Int32)) (v_values : (Nat → Int32)) (v_isTold : (Nat → Int32)) (v_waits : (Nat → Int32)) (v_readsOf : (Nat → Int32)) (v_readMany : (Nat → Int32)) (v_heights : (Nat → Int32)) (v_isStarted : Int32) (v_oldValues : (Nat → Int32)) (v_isOldTold : (Nat → Int32)) (v_oldReads : (Nat → Int32)) (v_evaluated : Int32) (v_moved : Int32) (v_isChanged : Int32) (v_undos : (Nat → Int32)) (v_undoMany : Int32) (v_undoAside : (Nat → Int32)) (v_formula : (Nat → Int32)) (v_isKept : (Nat → Int32)) (v_lanes : (Nat → Int32)) (v_lengths : (Nat → Int32)) (v_items : (Nat → Int32)) (v_torn : Int32) (v_isAsideChanged : Int32) (p1 : Int32) (p2 : Int32) (o : Int32 × (Nat → Int32) × (Nat → Int32) × (Nat → Int32) × (Nat → Int32) × (Nat → Int32) × (Nat → Int32) × Int32) (h : fX8_reads v_state v_values v_isTold v_waits v_readsOf v_readMany v_heights v_isStarted p1 p2 = some o) : Ctr X yX8_reads cX8_reads 3 (some .int) 6 136 0 0 [.ref (ad 0), .int p1, .int p2] [(ad 0, .inr (8, [.ref (ad 1), .ref (ad 2), .int v_taped, .int v_fault, .int v_broken, .int v_brokenAt, .int v_spot, .int v_here, .int v_token, .int v_number, .ref (ad 3), .ref (ad 4), .ref (ad 5), .ref (ad 6), .ref (ad 7), .ref (ad 8), .ref (ad 9), .ref (ad 10), .int v_isStarted, .ref (ad 11), .ref (ad 12), .ref (ad 13), .int v_evaluated, .int v_moved, .int v_isChanged, .ref (ad 14), .int v_undoMany, .ref (ad 15), .ref (ad 16), .ref (ad 17), .ref (ad 18), .ref (ad 19), .ref (ad 20), .int v_torn, .int v_isAsideChanged])), (ad 1, .inl (eI X, 720, .inl v_state)), (ad 2, .inl (eI X, 320, .inl v_tape)), (ad 3, .inl (eI X, 9, .inl v_ends)), (ad 4, .inl (eI X, 27, .inl v_letters)), (ad 5, .inl (eI X, 30, .inl v_values)), (ad 6, .inl (eZ X, 30, .inl v_isTold)), (ad 7, .inl (eI X, 30, .inl v_waits)), (ad 8, .inl (eI X, 900, .inl v_readsOf)), (ad 9, .inl (eI X, 30, .inl v_readMany)), (ad 10, .inl (eI X, 30, .inl v_heights)), (ad 11, .inl (eI X, 30, .inl v_oldValues)), (ad 12, .inl (eZ X, 30, .inl v_isOldTold)), (ad 13, .inl (eI X, 30, .inl v_oldReads)), (ad 14, .inl (eI X, 100, .inl v_undos)), (ad 15, .inl (eI X, 103, .inl v_undoAside)), (ad 16, .inl (eI X, 4, .inl v_formula)), (ad 17, .inl (eZ X, 2, .inl v_isKept)), (ad 18, .inl (eI X, 4, .inl v_lanes)), (ad 19, .inl (eI X, 4, .inl v_lengths)), (ad 20, .inl (eI X, 160, .inl v_items))] (De (some (.int o.1)) [(ad 0, .inr (8, [.ref (ad 1), .ref (ad 2), .int v_taped, .int v_fault, .int v_broken, .int v_brokenAt, .int v_spot, .int v_here, .int v_token, .int v_number, .ref (ad 3), .ref (ad 4), .ref (ad 5), .ref (ad 6), .ref (ad 7), .ref (ad 8), .ref (ad 9), .ref (ad 10), .int (o.2.2.2.2.2.2.2), .ref (ad 11), .ref (ad 12), .ref (ad 13), .int v_evaluated, .int v_moved, .int v_isChanged, .ref (ad 14), .int v_undoMany, .ref (ad 15), .ref (ad 16), .ref (ad 17), .ref (ad 18), .ref (ad 19), .ref (ad 20), .int v_torn, .int v_isAsideChanged])), (ad 1, .inl (eI X, 720, .inl v_state)), (ad 2, .inl (eI X, 320, .inl v_tape)), (ad 3, .inl (eI X, 9, .inl v_ends)), (ad 4, .inl (eI X, 27, .inl v_letters)), (ad 5, .inl (eI X, 30, .inl (o.2.1))), (ad 6, .inl (eZ X, 30, .inl (o.2.2.1))), (ad 7, .inl (eI X, 30, .inl (o.2.2.2.1))), (ad 8, .inl (eI X, 900, .inl (o.2.2.2.2.1))), (ad 9, .inl (eI X, 30, .inl (o.2.2.2.2.2.1))), (ad 10, .inl (eI X, 30, .inl (o.2.2.2.2.2.2.1))), (ad 11, .inl (eI X, 30, .inl v_oldValues)), (ad 12, .inl (eZ X, 30, .inl v_isOldTold)), (ad 13, .inl (eI X, 30, .inl v_oldReads)), (ad 14, .inl (eI X, 100, .inl v_undos)), (ad 15, .inl (eI X, 103, .inl v_undoAside)), (ad 16, .inl (eI X, 4, .inl v_formula)), (ad 17, .inl (eZ X, 2, .inl v_isKept)), (ad 18, .inl (eI X, 4, .inl v_lanes)), (ad 19, .inl (eI X, 4, .inl v_lengths)), (ad 20, .inl (eI X, 160, .inl v_items))]) := by
  refine Ctr.start (by decide) (Nat.le_of_ble_eq_true rfl) (fun k A ls C hq hin hW hl => ?_)
  replace C : Cx X k cX8_reads 3 (some .int) RX8 A 6 136 0 0 := C
  replace hl : lv_has ls 3 [(0, .ref (ad 0)), (1, .int p1), (2, .int p2)] := hl
  suffices hh : ∀ (H : Heap) (L : List Loc), Wd X k A [(ad 0, .inr (8, [.ref (ad 1), .ref (ad 2), .int v_taped, .int v_fault, .int v_broken, .int v_brokenAt, .int v_spot, .int v_here, .int v_token, .int v_number, .ref (ad 3), .ref (ad 4), .ref (ad 5), .ref (ad 6), .ref (ad 7), .ref (ad 8), .ref (ad 9), .ref (ad 10), .int v_isStarted, .ref (ad 11), .ref (ad 12), .ref (ad 13), .int v_evaluated, .int v_moved, .int v_isChanged, .ref (ad 14), .int v_undoMany, .ref (ad 15), .ref (ad 16), .ref (ad 17), .ref (ad 18), .ref (ad 19), .ref (ad 20), .int v_torn, .int v_isAsideChanged])), (ad 1, .inl (eI X, 720, .inl v_state)), (ad 2, .inl (eI X, 320, .inl v_tape)), (ad 3, .inl (eI X, 9, .inl v_ends)), (ad 4, .inl (eI X, 27, .inl v_letters)), (ad 5, .inl (eI X, 30, .inl v_values)), (ad 6, .inl (eZ X, 30, .inl v_isTold)), (ad 7, .inl (eI X, 30, .inl v_waits)), (ad 8, .inl (eI X, 900, .inl v_readsOf)), (ad 9, .inl (eI X, 30, .inl v_readMany)), (ad 10, .inl (eI X, 30, .inl v_heights)), (ad 11, .inl (eI X, 30, .inl v_oldValues)), (ad 12, .inl (eZ X, 30, .inl v_isOldTold)), (ad 13, .inl (eI X, 30, .inl v_oldReads)), (ad 14, .inl (eI X, 100, .inl v_undos)), (ad 15, .inl (eI X, 103, .inl v_undoAside)), (ad 16, .inl (eI X, 4, .inl v_formula)), (ad 17, .inl (eZ X, 2, .inl v_isKept)), (ad 18, .inl (eI X, 4, .inl v_lanes)), (ad 19, .inl (eI X, 4, .inl v_lengths)), (ad 20, .inl (eI X, 160, .inl v_items))] H L → Wx X k 0 0 H L 0 ls [] from hh _ _ hW
  clear hW
  intro H L hW
  unfold fX8_reads at h
  refine r_iload_n C hl 1 dX8_reads_0 rfl rfl ?_
  obtain ⟨r1, h1, h⟩ := bd1_some h
  refine r_S (wr := [(ad 0, .inr (8, [.ref (ad 1), .ref (ad 2), .int v_taped, .int v_fault, .int v_broken, .int v_brokenAt, .int v_spot, .int v_here, .int v_token, .int v_number, .ref (ad 3), .ref (ad 4), .ref (ad 5), .ref (ad 6), .ref (ad 7), .ref (ad 8), .ref (ad 9), .ref (ad 10), .int v_isStarted, .ref (ad 11), .ref (ad 12), .ref (ad 13), .int v_evaluated, .int v_moved, .int v_isChanged, .ref (ad 14), .int v_undoMany, .ref (ad 15), .ref (ad 16), .ref (ad 17), .ref (ad 18), .ref (ad 19), .ref (ad 20), .int v_torn, .int v_isAsideChanged])), (ad 1, .inl (eI X, 720, .inl v_state)), (ad 2, .inl (eI X, 320, .inl v_tape)), (ad 3, .inl (eI X, 9, .inl v_ends)), (ad 4, .inl (eI X, 27, .inl v_letters)), (ad 5, .inl (eI X, 30, .inl v_values)), (ad 6, .inl (eZ X, 30, .inl v_isTold)), (ad 7, .inl (eI X, 30, .inl v_waits)), (ad 8, .inl (eI X, 900, .inl v_readsOf)), (ad 9, .inl (eI X, 30, .inl v_readMany)), (ad 10, .inl (eI X, 30, .inl v_heights)), (ad 11, .inl (eI X, 30, .inl v_oldValues)), (ad 12, .inl (eZ X, 30, .inl v_isOldTold)), (ad 13, .inl (eI X, 30, .inl v_oldReads)), (ad 14, .inl (eI X, 100, .inl v_undos)), (ad 15, .inl (eI X, 103, .inl v_undoAside)), (ad 16, .inl (eI X, 4, .inl v_formula)), (ad 17, .inl (eZ X, 2, .inl v_isKept)), (ad 18, .inl (eI X, 4, .inl v_lanes)), (ad 19, .inl (eI X, 4, .inl v_lengths)), (ad 20, .inl (eI X, 160, .inl v_items))]) (np := 1) C hl (mX8_isCell X    p1 r1 h1) hW [] [0, 1, 2, 3, 4, 5, 6, 7, 8, 9, 10, 11, 12, 13, 14, 15, 16, 17, 18, 19, 20] rfl rfl rfl rfl (by decide) w_cd_X8_isCell w_ml_X8_197 w_st_X8_isCell w_in_HeightSheetModel (by decide +kernel) rfl ⟨Nat.le_of_ble_eq_true rfl, Nat.le_of_ble_eq_true rfl⟩ ⟨Nat.zero_le _, Nat.zero_le _⟩ (Nat.le_of_ble_eq_true rfl) dX8_reads_1 (fun rv w1 H L hp hW => ?_) rfl
  obtain ⟨rfl, rfl⟩ := hp
  replace hW : Wd X k A [(ad 0, .inr (8, [.ref (ad 1), .ref (ad 2), .int v_taped, .int v_fault, .int v_broken, .int v_brokenAt, .int v_spot, .int v_here, .int v_token, .int v_number, .ref (ad 3), .ref (ad 4), .ref (ad 5), .ref (ad 6), .ref (ad 7), .ref (ad 8), .ref (ad 9), .ref (ad 10), .int v_isStarted, .ref (ad 11), .ref (ad 12), .ref (ad 13), .int v_evaluated, .int v_moved, .int v_isChanged, .ref (ad 14), .int v_undoMany, .ref (ad 15), .ref (ad 16), .ref (ad 17), .ref (ad 18), .ref (ad 19), .ref (ad 20), .int v_torn, .int v_isAsideChanged])), (ad 1, .inl (eI X, 720, .inl v_state)), (ad 2, .inl (eI X, 320, .inl v_tape)), (ad 3, .inl (eI X, 9, .inl v_ends)), (ad 4, .inl (eI X, 27, .inl v_letters)), (ad 5, .inl (eI X, 30, .inl v_values)), (ad 6, .inl (eZ X, 30, .inl v_isTold)), (ad 7, .inl (eI X, 30, .inl v_waits)), (ad 8, .inl (eI X, 900, .inl v_readsOf)), (ad 9, .inl (eI X, 30, .inl v_readMany)), (ad 10, .inl (eI X, 30, .inl v_heights)), (ad 11, .inl (eI X, 30, .inl v_oldValues)), (ad 12, .inl (eZ X, 30, .inl v_isOldTold)), (ad 13, .inl (eI X, 30, .inl v_oldReads)), (ad 14, .inl (eI X, 100, .inl v_undos)), (ad 15, .inl (eI X, 103, .inl v_undoAside)), (ad 16, .inl (eI X, 4, .inl v_formula)), (ad 17, .inl (eZ X, 2, .inl v_isKept)), (ad 18, .inl (eI X, 4, .inl v_lanes)), (ad 19, .inl (eI X, 4, .inl v_lengths)), (ad 20, .inl (eI X, 160, .inl v_items))] H L := hW.sub [0, 1, 2, 3, 4, 5, 6, 7, 8, 9, 10, 11, 12, 13, 14, 15, 16, 17, 18, 19, 20] rfl rfl
  show Wx X k 0 0 H L 4 ls [.int r1]
  refine r_if_eq (tgt := 11) C dX8_reads_4 (by decide) (fun c4 => ?_) (fun c4 => ?_)
  · replace h := iT c4 h
    refine r_iconst (v := -1) C dX8_reads_11 (by decide) ?_
    exact r_iret C hq hW (by obtain rfl := Option.some.inj h; exact ⟨rfl, rfl⟩) dX8_reads_12
  · replace h := iF c4 h
    refine r_iload_n C hl 2 dX8_reads_7 rfl rfl ?_
    refine r_if_ge (tgt := 13) C dX8_reads_8 (by decide) (fun c8 => ?_) (fun c8 => ?_)
    · replace h := iT c8 h
      refine r_aload_n C hl 0 dX8_reads_13 rfl rfl ?_
      obtain ⟨c14_values, c14_isTold, c14_waits, c14_readsOf, c14_readMany, c14_heights, c14_isStarted, h14, h⟩ := bd7_some h
      refine r_V (wr := []) (np := 0) C hl (mX8_starts X ad  v_state v_tape v_taped v_fault v_broken v_brokenAt v_spot v_here v_token v_number v_ends v_letters v_values v_isTold v_waits v_readsOf v_readMany v_heights v_isStarted v_oldValues v_isOldTold v_oldReads v_evaluated v_moved v_isChanged v_undos v_undoMany v_undoAside v_formula v_isKept v_lanes v_lengths v_items v_torn v_isAsideChanged  (c14_values, c14_isTold, c14_waits, c14_readsOf, c14_readMany, c14_heights, c14_isStarted) h14) hW [0, 1, 2, 3, 4, 5, 6, 7, 8, 9, 10, 11, 12, 13, 14, 15, 16, 17, 18, 19, 20] [] rfl rfl rfl rfl (by decide) 0 rfl rfl w_cd_X8_starts w_ml_X8_183 w_im_X8_starts w_sel_X8_starts w_in_HeightSheetModel (by decide +kernel) rfl ⟨Nat.le_of_ble_eq_true rfl, Nat.le_of_ble_eq_true rfl⟩ ⟨Nat.zero_le _, Nat.zero_le _⟩ (Nat.le_of_ble_eq_true rfl) dX8_reads_14 (fun rv w1 H L hp hW => ?_) rfl
      obtain ⟨rfl, rfl⟩ := hp
      replace hW : Wd X k A [(ad 0, .inr (8, [.ref (ad 1), .ref (ad 2), .int v_taped, .int v_fault, .int v_broken, .int v_brokenAt, .int v_spot, .int v_here, .int v_token, .int v_number, .ref (ad 3), .ref (ad 4), .ref (ad 5), .ref (ad 6), .ref (ad 7), .ref (ad 8), .ref (ad 9), .ref (ad 10), .int c14_isStarted, .ref (ad 11), .ref (ad 12), .ref (ad 13), .int v_evaluated, .int v_moved, .int v_isChanged, .ref (ad 14), .int v_undoMany, .ref (ad 15), .ref (ad 16), .ref (ad 17), .ref (ad 18), .ref (ad 19), .ref (ad 20), .int v_torn, .int v_isAsideChanged])), (ad 1, .inl (eI X, 720, .inl v_state)), (ad 2, .inl (eI X, 320, .inl v_tape)), (ad 3, .inl (eI X, 9, .inl v_ends)), (ad 4, .inl (eI X, 27, .inl v_letters)), (ad 5, .inl (eI X, 30, .inl c14_values)), (ad 6, .inl (eZ X, 30, .inl c14_isTold)), (ad 7, .inl (eI X, 30, .inl c14_waits)), (ad 8, .inl (eI X, 900, .inl c14_readsOf)), (ad 9, .inl (eI X, 30, .inl c14_readMany)), (ad 10, .inl (eI X, 30, .inl c14_heights)), (ad 11, .inl (eI X, 30, .inl v_oldValues)), (ad 12, .inl (eZ X, 30, .inl v_isOldTold)), (ad 13, .inl (eI X, 30, .inl v_oldReads)), (ad 14, .inl (eI X, 100, .inl v_undos)), (ad 15, .inl (eI X, 103, .inl v_undoAside)), (ad 16, .inl (eI X, 4, .inl v_formula)), (ad 17, .inl (eZ X, 2, .inl v_isKept)), (ad 18, .inl (eI X, 4, .inl v_lanes)), (ad 19, .inl (eI X, 4, .inl v_lengths)), (ad 20, .inl (eI X, 160, .inl v_items))] H L := hW.sub [0, 1, 2, 3, 4, 5, 6, 7, 8, 9, 10, 11, 12, 13, 14, 15, 16, 17, 18, 19, 20] rfl rfl
      show Wx X k 0 0 H L 17 ls []
      refine r_iload_n C hl 2 dX8_reads_17 rfl rfl ?_
      refine r_aload_n C hl 0 dX8_reads_18 rfl rfl ?_
      refine r_get C hW 0 rfl rfl iwX8 16 (by decide) w_fl_X8_35 rfl dX8_reads_19 ?_
      refine r_iload_n C hl 1 dX8_reads_22 rfl rfl ?_
      obtain ⟨x23, e23, g23, h⟩ := rd_some h
      refine r_iald C hW 9 rfl g23 e23 dX8_reads_23 ?_
      refine r_icmp_ge (tgt := 41) C dX8_reads_24 (by decide) (fun c24 => ?_) (fun c24 => ?_)
      · replace h := iT c24 h
        refine r_bipush (v := -4) C dX8_reads_41 (by decide) ?_
        exact r_iret C hq hW (by obtain rfl := Option.some.inj h; exact ⟨rfl, rfl⟩) dX8_reads_43
      · replace h := iF c24 h
        refine r_aload_n C hl 0 dX8_reads_27 rfl rfl ?_
        refine r_get C hW 0 rfl rfl iwX8 15 (by decide) w_fl_X8_32 rfl dX8_reads_28 ?_
        refine r_bipush (v := 30) C dX8_reads_31 (by decide) ?_
        refine r_iload_n C hl 1 dX8_reads_33 rfl rfl ?_
        refine r_imul C dX8_reads_34 ?_
        refine r_iload_n C hl 2 dX8_reads_35 rfl rfl ?_
        refine r_iadd C dX8_reads_36 ?_
        obtain ⟨x37, e37, g37, h⟩ := rd_some h
        refine r_iald C hW 8 rfl g37 e37 dX8_reads_37 ?_
        refine r_goto (tgt := 43) C dX8_reads_38 (by decide) ?_
        exact r_iret C hq hW (by obtain rfl := Option.some.inj h; exact ⟨rfl, rfl⟩) dX8_reads_43
    · replace h := iF c8 h
      refine r_iconst (v := -1) C dX8_reads_11 (by decide) ?_
      exact r_iret C hq hW (by obtain rfl := Option.some.inj h; exact ⟨rfl, rfl⟩) dX8_reads_12
def fX8_reader_j49 (v_state : (Nat → Int32)) (p1 : Int32) (p2 : Int32) (self22 : Int32 → Int32 → Option (Int32 × (Nat → Int32) × (Nat → Int32) × (Nat → Int32) × (Nat → Int32) × (Nat → Int32) × (Nat → Int32) × Int32)) (v_values : (Nat → Int32)) (v_isTold : (Nat → Int32)) (v_waits : (Nat → Int32)) (v_readsOf : (Nat → Int32)) (v_readMany : (Nat → Int32)) (v_heights : (Nat → Int32)) (v_isStarted : Int32) (l3 : Int32) (l4 : Int32) : Option (Int32 × (Nat → Int32) × (Nat → Int32) × (Nat → Int32) × (Nat → Int32) × (Nat → Int32) × (Nat → Int32) × Int32) :=
  self22 l3 (l4 + (1 : Int32))
def fX8_reader_b22 (v_state : (Nat → Int32)) (p1 : Int32) (p2 : Int32)  (v_values : (Nat → Int32)) (v_isTold : (Nat → Int32)) (v_waits : (Nat → Int32)) (v_readsOf : (Nat → Int32)) (v_readMany : (Nat → Int32)) (v_heights : (Nat → Int32)) (v_isStarted : Int32) (self22 : Int32 → Int32 → Option (Int32 × (Nat → Int32) × (Nat → Int32) × (Nat → Int32) × (Nat → Int32) × (Nat → Int32) × (Nat → Int32) × Int32)) (l3 : Int32) (l4 : Int32) : Option (Int32 × (Nat → Int32) × (Nat → Int32) × (Nat → Int32) × (Nat → Int32) × (Nat → Int32) × (Nat → Int32) × Int32) :=
  if (30 : Int32) ≤ l4 then
    some ((-4 : Int32), v_values, v_isTold, v_waits, v_readsOf, v_readMany, v_heights, v_isStarted)
  else
    bd1 (fX8_isReading v_readsOf v_readMany l4 p1) fun r33 =>
    if r33 = (0 : Int32) then
      fX8_reader_j49 v_state p1 p2 self22 v_values v_isTold v_waits v_readsOf v_readMany v_heights v_isStarted l3 l4
    else
      if l3 = (0 : Int32) then
        some (l4, v_values, v_isTold, v_waits, v_readsOf, v_readMany, v_heights, v_isStarted)
      else
        fX8_reader_j49 v_state p1 p2 self22 v_values v_isTold v_waits v_readsOf v_readMany v_heights v_isStarted (l3 + (-1 : Int32)) l4
def fX8_reader (v_state : (Nat → Int32)) (v_values : (Nat → Int32)) (v_isTold : (Nat → Int32)) (v_waits : (Nat → Int32)) (v_readsOf : (Nat → Int32)) (v_readMany : (Nat → Int32)) (v_heights : (Nat → Int32)) (v_isStarted : Int32) (p1 : Int32) (p2 : Int32) : Option (Int32 × (Nat → Int32) × (Nat → Int32) × (Nat → Int32) × (Nat → Int32) × (Nat → Int32) × (Nat → Int32) × Int32) :=
  bd1 (fX8_isCell p1) fun r1 =>
  if r1 = (0 : Int32) then
    some ((-1 : Int32), v_values, v_isTold, v_waits, v_readsOf, v_readMany, v_heights, v_isStarted)
  else
    if (0 : Int32) ≤ p2 then
      bd7 (fX8_starts v_state v_values v_isTold v_waits v_readsOf v_readMany v_heights v_isStarted) fun c14_values c14_isTold c14_waits c14_readsOf c14_readMany c14_heights c14_isStarted =>
      lq2 (fX8_reader_b22 v_state p1 p2  c14_values c14_isTold c14_waits c14_readsOf c14_readMany c14_heights c14_isStarted) fu p2 (0 : Int32)
    else
      some ((-1 : Int32), v_values, v_isTold, v_waits, v_readsOf, v_readMany, v_heights, v_isStarted)
set_option maxRecDepth 100000 in
set_option maxHeartbeats 8000000 in
theorem mX8_reader (X : Ev) (ad : Nat → Nat) (v_state : (Nat → Int32)) (v_tape : (Nat → Int32)) (v_taped : Int32) (v_fault : Int32) (v_broken : Int32) (v_brokenAt : Int32) (v_spot : Int32) (v_here : Int32) (v_token : Int32) (v_number : Int32) (v_ends : (Nat → Int32)) (v_letters : (Nat → Int32)) (v_values : (Nat → Int32)) (v_isTold : (Nat → Int32)) (v_waits : (Nat → Int32)) (v_readsOf : (Nat → Int32)) (v_readMany : (Nat → Int32)) (v_heights : (Nat → Int32)) (v_isStarted : Int32) (v_oldValues : (Nat → Int32)) (v_isOldTold : (Nat → Int32)) (v_oldReads : (Nat → Int32)) (v_evaluated : Int32) (v_moved : Int32) (v_isChanged : Int32) (v_undos : (Nat → Int32)) (v_undoMany : Int32) (v_undoAside : (Nat → Int32)) (v_formula : (Nat → Int32)) (v_isKept : (Nat → Int32)) (v_lanes : (Nat → Int32)) (v_lengths : (Nat → Int32)) (v_items : (Nat → Int32)) (v_torn : Int32) (v_isAsideChanged : Int32) (p1 : Int32) (p2 : Int32) (o : Int32 × (Nat → Int32) × (Nat → Int32) × (Nat → Int32) × (Nat → Int32) × (Nat → Int32) × (Nat → Int32) × Int32) (h : fX8_reader v_state v_values v_isTold v_waits v_readsOf v_readMany v_heights v_isStarted p1 p2 = some o) : Ctr X yX8_reader cX8_reader 5 (some .int) 6 136 0 0 [.ref (ad 0), .int p1, .int p2] [(ad 0, .inr (8, [.ref (ad 1), .ref (ad 2), .int v_taped, .int v_fault, .int v_broken, .int v_brokenAt, .int v_spot, .int v_here, .int v_token, .int v_number, .ref (ad 3), .ref (ad 4), .ref (ad 5), .ref (ad 6), .ref (ad 7), .ref (ad 8), .ref (ad 9), .ref (ad 10), .int v_isStarted, .ref (ad 11), .ref (ad 12), .ref (ad 13), .int v_evaluated, .int v_moved, .int v_isChanged, .ref (ad 14), .int v_undoMany, .ref (ad 15), .ref (ad 16), .ref (ad 17), .ref (ad 18), .ref (ad 19), .ref (ad 20), .int v_torn, .int v_isAsideChanged])), (ad 1, .inl (eI X, 720, .inl v_state)), (ad 2, .inl (eI X, 320, .inl v_tape)), (ad 3, .inl (eI X, 9, .inl v_ends)), (ad 4, .inl (eI X, 27, .inl v_letters)), (ad 5, .inl (eI X, 30, .inl v_values)), (ad 6, .inl (eZ X, 30, .inl v_isTold)), (ad 7, .inl (eI X, 30, .inl v_waits)), (ad 8, .inl (eI X, 900, .inl v_readsOf)), (ad 9, .inl (eI X, 30, .inl v_readMany)), (ad 10, .inl (eI X, 30, .inl v_heights)), (ad 11, .inl (eI X, 30, .inl v_oldValues)), (ad 12, .inl (eZ X, 30, .inl v_isOldTold)), (ad 13, .inl (eI X, 30, .inl v_oldReads)), (ad 14, .inl (eI X, 100, .inl v_undos)), (ad 15, .inl (eI X, 103, .inl v_undoAside)), (ad 16, .inl (eI X, 4, .inl v_formula)), (ad 17, .inl (eZ X, 2, .inl v_isKept)), (ad 18, .inl (eI X, 4, .inl v_lanes)), (ad 19, .inl (eI X, 4, .inl v_lengths)), (ad 20, .inl (eI X, 160, .inl v_items))] (De (some (.int o.1)) [(ad 0, .inr (8, [.ref (ad 1), .ref (ad 2), .int v_taped, .int v_fault, .int v_broken, .int v_brokenAt, .int v_spot, .int v_here, .int v_token, .int v_number, .ref (ad 3), .ref (ad 4), .ref (ad 5), .ref (ad 6), .ref (ad 7), .ref (ad 8), .ref (ad 9), .ref (ad 10), .int (o.2.2.2.2.2.2.2), .ref (ad 11), .ref (ad 12), .ref (ad 13), .int v_evaluated, .int v_moved, .int v_isChanged, .ref (ad 14), .int v_undoMany, .ref (ad 15), .ref (ad 16), .ref (ad 17), .ref (ad 18), .ref (ad 19), .ref (ad 20), .int v_torn, .int v_isAsideChanged])), (ad 1, .inl (eI X, 720, .inl v_state)), (ad 2, .inl (eI X, 320, .inl v_tape)), (ad 3, .inl (eI X, 9, .inl v_ends)), (ad 4, .inl (eI X, 27, .inl v_letters)), (ad 5, .inl (eI X, 30, .inl (o.2.1))), (ad 6, .inl (eZ X, 30, .inl (o.2.2.1))), (ad 7, .inl (eI X, 30, .inl (o.2.2.2.1))), (ad 8, .inl (eI X, 900, .inl (o.2.2.2.2.1))), (ad 9, .inl (eI X, 30, .inl (o.2.2.2.2.2.1))), (ad 10, .inl (eI X, 30, .inl (o.2.2.2.2.2.2.1))), (ad 11, .inl (eI X, 30, .inl v_oldValues)), (ad 12, .inl (eZ X, 30, .inl v_isOldTold)), (ad 13, .inl (eI X, 30, .inl v_oldReads)), (ad 14, .inl (eI X, 100, .inl v_undos)), (ad 15, .inl (eI X, 103, .inl v_undoAside)), (ad 16, .inl (eI X, 4, .inl v_formula)), (ad 17, .inl (eZ X, 2, .inl v_isKept)), (ad 18, .inl (eI X, 4, .inl v_lanes)), (ad 19, .inl (eI X, 4, .inl v_lengths)), (ad 20, .inl (eI X, 160, .inl v_items))]) := by
  refine Ctr.start (by decide) (Nat.le_of_ble_eq_true rfl) (fun k A ls C hq hin hW hl => ?_)
  replace C : Cx X k cX8_reader 5 (some .int) RX8 A 6 136 0 0 := C
  replace hl : lv_has ls 5 [(0, .ref (ad 0)), (1, .int p1), (2, .int p2)] := hl
  suffices hh : ∀ (H : Heap) (L : List Loc), Wd X k A [(ad 0, .inr (8, [.ref (ad 1), .ref (ad 2), .int v_taped, .int v_fault, .int v_broken, .int v_brokenAt, .int v_spot, .int v_here, .int v_token, .int v_number, .ref (ad 3), .ref (ad 4), .ref (ad 5), .ref (ad 6), .ref (ad 7), .ref (ad 8), .ref (ad 9), .ref (ad 10), .int v_isStarted, .ref (ad 11), .ref (ad 12), .ref (ad 13), .int v_evaluated, .int v_moved, .int v_isChanged, .ref (ad 14), .int v_undoMany, .ref (ad 15), .ref (ad 16), .ref (ad 17), .ref (ad 18), .ref (ad 19), .ref (ad 20), .int v_torn, .int v_isAsideChanged])), (ad 1, .inl (eI X, 720, .inl v_state)), (ad 2, .inl (eI X, 320, .inl v_tape)), (ad 3, .inl (eI X, 9, .inl v_ends)), (ad 4, .inl (eI X, 27, .inl v_letters)), (ad 5, .inl (eI X, 30, .inl v_values)), (ad 6, .inl (eZ X, 30, .inl v_isTold)), (ad 7, .inl (eI X, 30, .inl v_waits)), (ad 8, .inl (eI X, 900, .inl v_readsOf)), (ad 9, .inl (eI X, 30, .inl v_readMany)), (ad 10, .inl (eI X, 30, .inl v_heights)), (ad 11, .inl (eI X, 30, .inl v_oldValues)), (ad 12, .inl (eZ X, 30, .inl v_isOldTold)), (ad 13, .inl (eI X, 30, .inl v_oldReads)), (ad 14, .inl (eI X, 100, .inl v_undos)), (ad 15, .inl (eI X, 103, .inl v_undoAside)), (ad 16, .inl (eI X, 4, .inl v_formula)), (ad 17, .inl (eZ X, 2, .inl v_isKept)), (ad 18, .inl (eI X, 4, .inl v_lanes)), (ad 19, .inl (eI X, 4, .inl v_lengths)), (ad 20, .inl (eI X, 160, .inl v_items))] H L → Wx X k 0 0 H L 0 ls [] from hh _ _ hW
  clear hW
  intro H L hW
  have K22 : ∀ (v_values : (Nat → Int32)), ∀ (v_isTold : (Nat → Int32)), ∀ (v_waits : (Nat → Int32)), ∀ (v_readsOf : (Nat → Int32)), ∀ (v_readMany : (Nat → Int32)), ∀ (v_heights : (Nat → Int32)), ∀ (v_isStarted : Int32), ∀ (n22 : Nat), ∀ (l3 : Int32), ∀ (l4 : Int32), ∀ (H : Heap) (L : List Loc) (ls : Array Slot), Wd X k A [(ad 0, .inr (8, [.ref (ad 1), .ref (ad 2), .int v_taped, .int v_fault, .int v_broken, .int v_brokenAt, .int v_spot, .int v_here, .int v_token, .int v_number, .ref (ad 3), .ref (ad 4), .ref (ad 5), .ref (ad 6), .ref (ad 7), .ref (ad 8), .ref (ad 9), .ref (ad 10), .int v_isStarted, .ref (ad 11), .ref (ad 12), .ref (ad 13), .int v_evaluated, .int v_moved, .int v_isChanged, .ref (ad 14), .int v_undoMany, .ref (ad 15), .ref (ad 16), .ref (ad 17), .ref (ad 18), .ref (ad 19), .ref (ad 20), .int v_torn, .int v_isAsideChanged])), (ad 1, .inl (eI X, 720, .inl v_state)), (ad 2, .inl (eI X, 320, .inl v_tape)), (ad 3, .inl (eI X, 9, .inl v_ends)), (ad 4, .inl (eI X, 27, .inl v_letters)), (ad 5, .inl (eI X, 30, .inl v_values)), (ad 6, .inl (eZ X, 30, .inl v_isTold)), (ad 7, .inl (eI X, 30, .inl v_waits)), (ad 8, .inl (eI X, 900, .inl v_readsOf)), (ad 9, .inl (eI X, 30, .inl v_readMany)), (ad 10, .inl (eI X, 30, .inl v_heights)), (ad 11, .inl (eI X, 30, .inl v_oldValues)), (ad 12, .inl (eZ X, 30, .inl v_isOldTold)), (ad 13, .inl (eI X, 30, .inl v_oldReads)), (ad 14, .inl (eI X, 100, .inl v_undos)), (ad 15, .inl (eI X, 103, .inl v_undoAside)), (ad 16, .inl (eI X, 4, .inl v_formula)), (ad 17, .inl (eZ X, 2, .inl v_isKept)), (ad 18, .inl (eI X, 4, .inl v_lanes)), (ad 19, .inl (eI X, 4, .inl v_lengths)), (ad 20, .inl (eI X, 160, .inl v_items))] H L → lv_has ls 5 [(0, .ref (ad 0)), (1, .int p1), (3, .int l3), (4, .int l4)] → lq2 (fX8_reader_b22 v_state p1 p2  v_values v_isTold v_waits v_readsOf v_readMany v_heights v_isStarted) n22 l3 l4 = some o → Wx X k 0 0 H L 22 ls [] := by
    intro v_values v_isTold v_waits v_readsOf v_readMany v_heights v_isStarted
    intro n22
    induction n22 with
    | zero => intro l3 l4 H L ls hW hl h; exact lq2_0 h
    | succ n22 ih22 =>
      have K49 : ∀ (l3 : Int32), ∀ (l4 : Int32), ∀ (H : Heap) (L : List Loc) (ls : Array Slot), Wd X k A [(ad 0, .inr (8, [.ref (ad 1), .ref (ad 2), .int v_taped, .int v_fault, .int v_broken, .int v_brokenAt, .int v_spot, .int v_here, .int v_token, .int v_number, .ref (ad 3), .ref (ad 4), .ref (ad 5), .ref (ad 6), .ref (ad 7), .ref (ad 8), .ref (ad 9), .ref (ad 10), .int v_isStarted, .ref (ad 11), .ref (ad 12), .ref (ad 13), .int v_evaluated, .int v_moved, .int v_isChanged, .ref (ad 14), .int v_undoMany, .ref (ad 15), .ref (ad 16), .ref (ad 17), .ref (ad 18), .ref (ad 19), .ref (ad 20), .int v_torn, .int v_isAsideChanged])), (ad 1, .inl (eI X, 720, .inl v_state)), (ad 2, .inl (eI X, 320, .inl v_tape)), (ad 3, .inl (eI X, 9, .inl v_ends)), (ad 4, .inl (eI X, 27, .inl v_letters)), (ad 5, .inl (eI X, 30, .inl v_values)), (ad 6, .inl (eZ X, 30, .inl v_isTold)), (ad 7, .inl (eI X, 30, .inl v_waits)), (ad 8, .inl (eI X, 900, .inl v_readsOf)), (ad 9, .inl (eI X, 30, .inl v_readMany)), (ad 10, .inl (eI X, 30, .inl v_heights)), (ad 11, .inl (eI X, 30, .inl v_oldValues)), (ad 12, .inl (eZ X, 30, .inl v_isOldTold)), (ad 13, .inl (eI X, 30, .inl v_oldReads)), (ad 14, .inl (eI X, 100, .inl v_undos)), (ad 15, .inl (eI X, 103, .inl v_undoAside)), (ad 16, .inl (eI X, 4, .inl v_formula)), (ad 17, .inl (eZ X, 2, .inl v_isKept)), (ad 18, .inl (eI X, 4, .inl v_lanes)), (ad 19, .inl (eI X, 4, .inl v_lengths)), (ad 20, .inl (eI X, 160, .inl v_items))] H L → lv_has ls 5 [(0, .ref (ad 0)), (1, .int p1), (3, .int l3), (4, .int l4)] → fX8_reader_j49 v_state p1 p2 (lq2 (fX8_reader_b22 v_state p1 p2  v_values v_isTold v_waits v_readsOf v_readMany v_heights v_isStarted) n22) v_values v_isTold v_waits v_readsOf v_readMany v_heights v_isStarted l3 l4 = some o → Wx X k 0 0 H L 49 ls [] := by
        intro l3 l4 H L ls hW hl h
        unfold fX8_reader_j49 at h
        refine r_iinc (j := 3) (v := l4 + (1 : Int32)) (lv' := [(4, .int (l4 + (1 : Int32))), (0, .ref (ad 0)), (1, .int p1), (3, .int l3)]) C hl dX8_reader_49 rfl rfl (by decide) rfl (fun ls hl => ?_)
        refine r_goto (tgt := 22) C dX8_reader_52 (by decide) ?_
        exact ih22 l3 (l4 + (1 : Int32)) H L ls hW (lv_sub hl [1, 2, 3, 0] rfl) h
      intro l3 l4 H L ls hW hl h
      rw [lq2_s] at h
      unfold fX8_reader_b22 at h
      refine r_iload C hl 3 dX8_reader_22 rfl ?_
      refine r_bipush (v := 30) C dX8_reader_24 (by decide) ?_
      refine r_icmp_ge (tgt := 55) C dX8_reader_26 (by decide) (fun c26 => ?_) (fun c26 => ?_)
      · replace h := iT c26 h
        refine r_bipush (v := -4) C dX8_reader_55 (by decide) ?_
        exact r_iret C hq hW (by obtain rfl := Option.some.inj h; exact ⟨rfl, rfl⟩) dX8_reader_57
      · replace h := iF c26 h
        refine r_aload_n C hl 0 dX8_reader_29 rfl rfl ?_
        refine r_iload C hl 3 dX8_reader_30 rfl ?_
        refine r_iload_n C hl 1 dX8_reader_32 rfl rfl ?_
        obtain ⟨r33, h33, h⟩ := bd1_some h
        refine r_V (wr := []) (np := 2) C hl (mX8_isReading X ad  v_state v_tape v_taped v_fault v_broken v_brokenAt v_spot v_here v_token v_number v_ends v_letters v_values v_isTold v_waits v_readsOf v_readMany v_heights v_isStarted v_oldValues v_isOldTold v_oldReads v_evaluated v_moved v_isChanged v_undos v_undoMany v_undoAside v_formula v_isKept v_lanes v_lengths v_items v_torn v_isAsideChanged l4 p1 r33 h33) hW [0, 1, 2, 3, 4, 5, 6, 7, 8, 9, 10, 11, 12, 13, 14, 15, 16, 17, 18, 19, 20] [] rfl rfl rfl rfl (by decide) 0 rfl rfl w_cd_X8_isReading w_ml_X8_194 w_im_X8_isReading w_sel_X8_isReading w_in_HeightSheetModel (by decide +kernel) rfl ⟨Nat.le_of_ble_eq_true rfl, Nat.le_of_ble_eq_true rfl⟩ ⟨Nat.zero_le _, Nat.zero_le _⟩ (Nat.le_of_ble_eq_true rfl) dX8_reader_33 (fun rv w1 H L hp hW => ?_) rfl
        obtain ⟨rfl, rfl⟩ := hp
        replace hW : Wd X k A [(ad 0, .inr (8, [.ref (ad 1), .ref (ad 2), .int v_taped, .int v_fault, .int v_broken, .int v_brokenAt, .int v_spot, .int v_here, .int v_token, .int v_number, .ref (ad 3), .ref (ad 4), .ref (ad 5), .ref (ad 6), .ref (ad 7), .ref (ad 8), .ref (ad 9), .ref (ad 10), .int v_isStarted, .ref (ad 11), .ref (ad 12), .ref (ad 13), .int v_evaluated, .int v_moved, .int v_isChanged, .ref (ad 14), .int v_undoMany, .ref (ad 15), .ref (ad 16), .ref (ad 17), .ref (ad 18), .ref (ad 19), .ref (ad 20), .int v_torn, .int v_isAsideChanged])), (ad 1, .inl (eI X, 720, .inl v_state)), (ad 2, .inl (eI X, 320, .inl v_tape)), (ad 3, .inl (eI X, 9, .inl v_ends)), (ad 4, .inl (eI X, 27, .inl v_letters)), (ad 5, .inl (eI X, 30, .inl v_values)), (ad 6, .inl (eZ X, 30, .inl v_isTold)), (ad 7, .inl (eI X, 30, .inl v_waits)), (ad 8, .inl (eI X, 900, .inl v_readsOf)), (ad 9, .inl (eI X, 30, .inl v_readMany)), (ad 10, .inl (eI X, 30, .inl v_heights)), (ad 11, .inl (eI X, 30, .inl v_oldValues)), (ad 12, .inl (eZ X, 30, .inl v_isOldTold)), (ad 13, .inl (eI X, 30, .inl v_oldReads)), (ad 14, .inl (eI X, 100, .inl v_undos)), (ad 15, .inl (eI X, 103, .inl v_undoAside)), (ad 16, .inl (eI X, 4, .inl v_formula)), (ad 17, .inl (eZ X, 2, .inl v_isKept)), (ad 18, .inl (eI X, 4, .inl v_lanes)), (ad 19, .inl (eI X, 4, .inl v_lengths)), (ad 20, .inl (eI X, 160, .inl v_items))] H L := hW.sub [0, 1, 2, 3, 4, 5, 6, 7, 8, 9, 10, 11, 12, 13, 14, 15, 16, 17, 18, 19, 20] rfl rfl
        show Wx X k 0 0 H L 36 ls [.int r33]
        refine r_if_eq (tgt := 49) C dX8_reader_36 (by decide) (fun c36 => ?_) (fun c36 => ?_)
        · replace h := iT c36 h
          exact K49 l3 l4 H L ls hW hl h
        · replace h := iF c36 h
          refine r_iload_n C hl 2 dX8_reader_39 rfl rfl ?_
          refine r_if_ne (tgt := 46) C dX8_reader_40 (by decide) (fun c40 => ?_) (fun c40 => ?_)
          · replace h := iF c40 h
            refine r_iinc (j := 2) (v := l3 + (-1 : Int32)) (lv' := [(3, .int (l3 + (-1 : Int32))), (0, .ref (ad 0)), (1, .int p1), (4, .int l4)]) C hl dX8_reader_46 rfl rfl (by decide) rfl (fun ls hl => ?_)
            exact K49 (l3 + (-1 : Int32)) l4 H L ls hW (lv_sub hl [1, 2, 0, 3] rfl) h
          · replace h := iT c40 h
            refine r_iload C hl 3 dX8_reader_43 rfl ?_
            exact r_iret C hq hW (by obtain rfl := Option.some.inj h; exact ⟨rfl, rfl⟩) dX8_reader_45
  unfold fX8_reader at h
  refine r_iload_n C hl 1 dX8_reader_0 rfl rfl ?_
  obtain ⟨r1, h1, h⟩ := bd1_some h
  refine r_S (wr := [(ad 0, .inr (8, [.ref (ad 1), .ref (ad 2), .int v_taped, .int v_fault, .int v_broken, .int v_brokenAt, .int v_spot, .int v_here, .int v_token, .int v_number, .ref (ad 3), .ref (ad 4), .ref (ad 5), .ref (ad 6), .ref (ad 7), .ref (ad 8), .ref (ad 9), .ref (ad 10), .int v_isStarted, .ref (ad 11), .ref (ad 12), .ref (ad 13), .int v_evaluated, .int v_moved, .int v_isChanged, .ref (ad 14), .int v_undoMany, .ref (ad 15), .ref (ad 16), .ref (ad 17), .ref (ad 18), .ref (ad 19), .ref (ad 20), .int v_torn, .int v_isAsideChanged])), (ad 1, .inl (eI X, 720, .inl v_state)), (ad 2, .inl (eI X, 320, .inl v_tape)), (ad 3, .inl (eI X, 9, .inl v_ends)), (ad 4, .inl (eI X, 27, .inl v_letters)), (ad 5, .inl (eI X, 30, .inl v_values)), (ad 6, .inl (eZ X, 30, .inl v_isTold)), (ad 7, .inl (eI X, 30, .inl v_waits)), (ad 8, .inl (eI X, 900, .inl v_readsOf)), (ad 9, .inl (eI X, 30, .inl v_readMany)), (ad 10, .inl (eI X, 30, .inl v_heights)), (ad 11, .inl (eI X, 30, .inl v_oldValues)), (ad 12, .inl (eZ X, 30, .inl v_isOldTold)), (ad 13, .inl (eI X, 30, .inl v_oldReads)), (ad 14, .inl (eI X, 100, .inl v_undos)), (ad 15, .inl (eI X, 103, .inl v_undoAside)), (ad 16, .inl (eI X, 4, .inl v_formula)), (ad 17, .inl (eZ X, 2, .inl v_isKept)), (ad 18, .inl (eI X, 4, .inl v_lanes)), (ad 19, .inl (eI X, 4, .inl v_lengths)), (ad 20, .inl (eI X, 160, .inl v_items))]) (np := 1) C hl (mX8_isCell X    p1 r1 h1) hW [] [0, 1, 2, 3, 4, 5, 6, 7, 8, 9, 10, 11, 12, 13, 14, 15, 16, 17, 18, 19, 20] rfl rfl rfl rfl (by decide) w_cd_X8_isCell w_ml_X8_197 w_st_X8_isCell w_in_HeightSheetModel (by decide +kernel) rfl ⟨Nat.le_of_ble_eq_true rfl, Nat.le_of_ble_eq_true rfl⟩ ⟨Nat.zero_le _, Nat.zero_le _⟩ (Nat.le_of_ble_eq_true rfl) dX8_reader_1 (fun rv w1 H L hp hW => ?_) rfl
  obtain ⟨rfl, rfl⟩ := hp
  replace hW : Wd X k A [(ad 0, .inr (8, [.ref (ad 1), .ref (ad 2), .int v_taped, .int v_fault, .int v_broken, .int v_brokenAt, .int v_spot, .int v_here, .int v_token, .int v_number, .ref (ad 3), .ref (ad 4), .ref (ad 5), .ref (ad 6), .ref (ad 7), .ref (ad 8), .ref (ad 9), .ref (ad 10), .int v_isStarted, .ref (ad 11), .ref (ad 12), .ref (ad 13), .int v_evaluated, .int v_moved, .int v_isChanged, .ref (ad 14), .int v_undoMany, .ref (ad 15), .ref (ad 16), .ref (ad 17), .ref (ad 18), .ref (ad 19), .ref (ad 20), .int v_torn, .int v_isAsideChanged])), (ad 1, .inl (eI X, 720, .inl v_state)), (ad 2, .inl (eI X, 320, .inl v_tape)), (ad 3, .inl (eI X, 9, .inl v_ends)), (ad 4, .inl (eI X, 27, .inl v_letters)), (ad 5, .inl (eI X, 30, .inl v_values)), (ad 6, .inl (eZ X, 30, .inl v_isTold)), (ad 7, .inl (eI X, 30, .inl v_waits)), (ad 8, .inl (eI X, 900, .inl v_readsOf)), (ad 9, .inl (eI X, 30, .inl v_readMany)), (ad 10, .inl (eI X, 30, .inl v_heights)), (ad 11, .inl (eI X, 30, .inl v_oldValues)), (ad 12, .inl (eZ X, 30, .inl v_isOldTold)), (ad 13, .inl (eI X, 30, .inl v_oldReads)), (ad 14, .inl (eI X, 100, .inl v_undos)), (ad 15, .inl (eI X, 103, .inl v_undoAside)), (ad 16, .inl (eI X, 4, .inl v_formula)), (ad 17, .inl (eZ X, 2, .inl v_isKept)), (ad 18, .inl (eI X, 4, .inl v_lanes)), (ad 19, .inl (eI X, 4, .inl v_lengths)), (ad 20, .inl (eI X, 160, .inl v_items))] H L := hW.sub [0, 1, 2, 3, 4, 5, 6, 7, 8, 9, 10, 11, 12, 13, 14, 15, 16, 17, 18, 19, 20] rfl rfl
  show Wx X k 0 0 H L 4 ls [.int r1]
  refine r_if_eq (tgt := 11) C dX8_reader_4 (by decide) (fun c4 => ?_) (fun c4 => ?_)
  · replace h := iT c4 h
    refine r_iconst (v := -1) C dX8_reader_11 (by decide) ?_
    exact r_iret C hq hW (by obtain rfl := Option.some.inj h; exact ⟨rfl, rfl⟩) dX8_reader_12
  · replace h := iF c4 h
    refine r_iload_n C hl 2 dX8_reader_7 rfl rfl ?_
    refine r_if_ge (tgt := 13) C dX8_reader_8 (by decide) (fun c8 => ?_) (fun c8 => ?_)
    · replace h := iT c8 h
      refine r_aload_n C hl 0 dX8_reader_13 rfl rfl ?_
      obtain ⟨c14_values, c14_isTold, c14_waits, c14_readsOf, c14_readMany, c14_heights, c14_isStarted, h14, h⟩ := bd7_some h
      refine r_V (wr := []) (np := 0) C hl (mX8_starts X ad  v_state v_tape v_taped v_fault v_broken v_brokenAt v_spot v_here v_token v_number v_ends v_letters v_values v_isTold v_waits v_readsOf v_readMany v_heights v_isStarted v_oldValues v_isOldTold v_oldReads v_evaluated v_moved v_isChanged v_undos v_undoMany v_undoAside v_formula v_isKept v_lanes v_lengths v_items v_torn v_isAsideChanged  (c14_values, c14_isTold, c14_waits, c14_readsOf, c14_readMany, c14_heights, c14_isStarted) h14) hW [0, 1, 2, 3, 4, 5, 6, 7, 8, 9, 10, 11, 12, 13, 14, 15, 16, 17, 18, 19, 20] [] rfl rfl rfl rfl (by decide) 0 rfl rfl w_cd_X8_starts w_ml_X8_183 w_im_X8_starts w_sel_X8_starts w_in_HeightSheetModel (by decide +kernel) rfl ⟨Nat.le_of_ble_eq_true rfl, Nat.le_of_ble_eq_true rfl⟩ ⟨Nat.zero_le _, Nat.zero_le _⟩ (Nat.le_of_ble_eq_true rfl) dX8_reader_14 (fun rv w1 H L hp hW => ?_) rfl
      obtain ⟨rfl, rfl⟩ := hp
      replace hW : Wd X k A [(ad 0, .inr (8, [.ref (ad 1), .ref (ad 2), .int v_taped, .int v_fault, .int v_broken, .int v_brokenAt, .int v_spot, .int v_here, .int v_token, .int v_number, .ref (ad 3), .ref (ad 4), .ref (ad 5), .ref (ad 6), .ref (ad 7), .ref (ad 8), .ref (ad 9), .ref (ad 10), .int c14_isStarted, .ref (ad 11), .ref (ad 12), .ref (ad 13), .int v_evaluated, .int v_moved, .int v_isChanged, .ref (ad 14), .int v_undoMany, .ref (ad 15), .ref (ad 16), .ref (ad 17), .ref (ad 18), .ref (ad 19), .ref (ad 20), .int v_torn, .int v_isAsideChanged])), (ad 1, .inl (eI X, 720, .inl v_state)), (ad 2, .inl (eI X, 320, .inl v_tape)), (ad 3, .inl (eI X, 9, .inl v_ends)), (ad 4, .inl (eI X, 27, .inl v_letters)), (ad 5, .inl (eI X, 30, .inl c14_values)), (ad 6, .inl (eZ X, 30, .inl c14_isTold)), (ad 7, .inl (eI X, 30, .inl c14_waits)), (ad 8, .inl (eI X, 900, .inl c14_readsOf)), (ad 9, .inl (eI X, 30, .inl c14_readMany)), (ad 10, .inl (eI X, 30, .inl c14_heights)), (ad 11, .inl (eI X, 30, .inl v_oldValues)), (ad 12, .inl (eZ X, 30, .inl v_isOldTold)), (ad 13, .inl (eI X, 30, .inl v_oldReads)), (ad 14, .inl (eI X, 100, .inl v_undos)), (ad 15, .inl (eI X, 103, .inl v_undoAside)), (ad 16, .inl (eI X, 4, .inl v_formula)), (ad 17, .inl (eZ X, 2, .inl v_isKept)), (ad 18, .inl (eI X, 4, .inl v_lanes)), (ad 19, .inl (eI X, 4, .inl v_lengths)), (ad 20, .inl (eI X, 160, .inl v_items))] H L := hW.sub [0, 1, 2, 3, 4, 5, 6, 7, 8, 9, 10, 11, 12, 13, 14, 15, 16, 17, 18, 19, 20] rfl rfl
      show Wx X k 0 0 H L 17 ls []
      refine r_iload_n C hl 2 dX8_reader_17 rfl rfl ?_
      refine r_istore_n (lv' := [(3, .int p2), (0, .ref (ad 0)), (1, .int p1), (2, .int p2)]) C hl dX8_reader_18 rfl (by decide) rfl (fun ls hl => ?_)
      refine r_iconst (v := 0) C dX8_reader_19 (by decide) ?_
      refine r_istore (lv' := [(4, .int (0 : Int32)), (3, .int p2), (0, .ref (ad 0)), (1, .int p1), (2, .int p2)]) C hl dX8_reader_20 (by decide) rfl (fun ls hl => ?_)
      exact K22 c14_values c14_isTold c14_waits c14_readsOf c14_readMany c14_heights c14_isStarted fu p2 (0 : Int32) H L ls hW (lv_sub hl [2, 3, 1, 0] rfl) h
    · replace h := iF c8 h
      refine r_iconst (v := -1) C dX8_reader_11 (by decide) ?_
      exact r_iret C hq hW (by obtain rfl := Option.some.inj h; exact ⟨rfl, rfl⟩) dX8_reader_12
def fX8_bitsRead_b4 (v_readsOf : (Nat → Int32)) (v_readMany : (Nat → Int32)) (p1 : Int32)   (self4 : Int32 → Int32 → Option (Int32)) (l2 : Int32) (l3 : Int32) : Option (Int32) :=
  rd v_readMany 30 p1 fun x10 =>
  if x10 ≤ l3 then
    some l2
  else
    rd v_readsOf 900 (((30 : Int32) * p1) + l3) fun x26 =>
    self4 (l2 ||| ((1 : Int32) <<< (x26 &&& 31))) (l3 + (1 : Int32))
def fX8_bitsRead (v_readsOf : (Nat → Int32)) (v_readMany : (Nat → Int32)) (p1 : Int32) : Option (Int32) :=
  lq2 (fX8_bitsRead_b4 v_readsOf v_readMany p1  ) fu (0 : Int32) (0 : Int32)
set_option maxRecDepth 100000 in
set_option maxHeartbeats 8000000 in
theorem mX8_bitsRead (X : Ev) (ad : Nat → Nat) (v_state : (Nat → Int32)) (v_tape : (Nat → Int32)) (v_taped : Int32) (v_fault : Int32) (v_broken : Int32) (v_brokenAt : Int32) (v_spot : Int32) (v_here : Int32) (v_token : Int32) (v_number : Int32) (v_ends : (Nat → Int32)) (v_letters : (Nat → Int32)) (v_values : (Nat → Int32)) (v_isTold : (Nat → Int32)) (v_waits : (Nat → Int32)) (v_readsOf : (Nat → Int32)) (v_readMany : (Nat → Int32)) (v_heights : (Nat → Int32)) (v_isStarted : Int32) (v_oldValues : (Nat → Int32)) (v_isOldTold : (Nat → Int32)) (v_oldReads : (Nat → Int32)) (v_evaluated : Int32) (v_moved : Int32) (v_isChanged : Int32) (v_undos : (Nat → Int32)) (v_undoMany : Int32) (v_undoAside : (Nat → Int32)) (v_formula : (Nat → Int32)) (v_isKept : (Nat → Int32)) (v_lanes : (Nat → Int32)) (v_lengths : (Nat → Int32)) (v_items : (Nat → Int32)) (v_torn : Int32) (v_isAsideChanged : Int32) (p1 : Int32) (o : Int32) (h : fX8_bitsRead v_readsOf v_readMany p1 = some o) : Ctr X yX8_bitsRead cX8_bitsRead 4 (some .int) 0 0 0 0 [.ref (ad 0), .int p1] [(ad 0, .inr (8, [.ref (ad 1), .ref (ad 2), .int v_taped, .int v_fault, .int v_broken, .int v_brokenAt, .int v_spot, .int v_here, .int v_token, .int v_number, .ref (ad 3), .ref (ad 4), .ref (ad 5), .ref (ad 6), .ref (ad 7), .ref (ad 8), .ref (ad 9), .ref (ad 10), .int v_isStarted, .ref (ad 11), .ref (ad 12), .ref (ad 13), .int v_evaluated, .int v_moved, .int v_isChanged, .ref (ad 14), .int v_undoMany, .ref (ad 15), .ref (ad 16), .ref (ad 17), .ref (ad 18), .ref (ad 19), .ref (ad 20), .int v_torn, .int v_isAsideChanged])), (ad 1, .inl (eI X, 720, .inl v_state)), (ad 2, .inl (eI X, 320, .inl v_tape)), (ad 3, .inl (eI X, 9, .inl v_ends)), (ad 4, .inl (eI X, 27, .inl v_letters)), (ad 5, .inl (eI X, 30, .inl v_values)), (ad 6, .inl (eZ X, 30, .inl v_isTold)), (ad 7, .inl (eI X, 30, .inl v_waits)), (ad 8, .inl (eI X, 900, .inl v_readsOf)), (ad 9, .inl (eI X, 30, .inl v_readMany)), (ad 10, .inl (eI X, 30, .inl v_heights)), (ad 11, .inl (eI X, 30, .inl v_oldValues)), (ad 12, .inl (eZ X, 30, .inl v_isOldTold)), (ad 13, .inl (eI X, 30, .inl v_oldReads)), (ad 14, .inl (eI X, 100, .inl v_undos)), (ad 15, .inl (eI X, 103, .inl v_undoAside)), (ad 16, .inl (eI X, 4, .inl v_formula)), (ad 17, .inl (eZ X, 2, .inl v_isKept)), (ad 18, .inl (eI X, 4, .inl v_lanes)), (ad 19, .inl (eI X, 4, .inl v_lengths)), (ad 20, .inl (eI X, 160, .inl v_items))] (De (some (.int o)) [(ad 0, .inr (8, [.ref (ad 1), .ref (ad 2), .int v_taped, .int v_fault, .int v_broken, .int v_brokenAt, .int v_spot, .int v_here, .int v_token, .int v_number, .ref (ad 3), .ref (ad 4), .ref (ad 5), .ref (ad 6), .ref (ad 7), .ref (ad 8), .ref (ad 9), .ref (ad 10), .int v_isStarted, .ref (ad 11), .ref (ad 12), .ref (ad 13), .int v_evaluated, .int v_moved, .int v_isChanged, .ref (ad 14), .int v_undoMany, .ref (ad 15), .ref (ad 16), .ref (ad 17), .ref (ad 18), .ref (ad 19), .ref (ad 20), .int v_torn, .int v_isAsideChanged])), (ad 1, .inl (eI X, 720, .inl v_state)), (ad 2, .inl (eI X, 320, .inl v_tape)), (ad 3, .inl (eI X, 9, .inl v_ends)), (ad 4, .inl (eI X, 27, .inl v_letters)), (ad 5, .inl (eI X, 30, .inl v_values)), (ad 6, .inl (eZ X, 30, .inl v_isTold)), (ad 7, .inl (eI X, 30, .inl v_waits)), (ad 8, .inl (eI X, 900, .inl v_readsOf)), (ad 9, .inl (eI X, 30, .inl v_readMany)), (ad 10, .inl (eI X, 30, .inl v_heights)), (ad 11, .inl (eI X, 30, .inl v_oldValues)), (ad 12, .inl (eZ X, 30, .inl v_isOldTold)), (ad 13, .inl (eI X, 30, .inl v_oldReads)), (ad 14, .inl (eI X, 100, .inl v_undos)), (ad 15, .inl (eI X, 103, .inl v_undoAside)), (ad 16, .inl (eI X, 4, .inl v_formula)), (ad 17, .inl (eZ X, 2, .inl v_isKept)), (ad 18, .inl (eI X, 4, .inl v_lanes)), (ad 19, .inl (eI X, 4, .inl v_lengths)), (ad 20, .inl (eI X, 160, .inl v_items))]) := by
  refine Ctr.start (by decide) (Nat.le_of_ble_eq_true rfl) (fun k A ls C hq hin hW hl => ?_)
  replace C : Cx X k cX8_bitsRead 4 (some .int) RX8 A 0 0 0 0 := C
  replace hl : lv_has ls 4 [(0, .ref (ad 0)), (1, .int p1)] := hl
  suffices hh : ∀ (H : Heap) (L : List Loc), Wd X k A [(ad 0, .inr (8, [.ref (ad 1), .ref (ad 2), .int v_taped, .int v_fault, .int v_broken, .int v_brokenAt, .int v_spot, .int v_here, .int v_token, .int v_number, .ref (ad 3), .ref (ad 4), .ref (ad 5), .ref (ad 6), .ref (ad 7), .ref (ad 8), .ref (ad 9), .ref (ad 10), .int v_isStarted, .ref (ad 11), .ref (ad 12), .ref (ad 13), .int v_evaluated, .int v_moved, .int v_isChanged, .ref (ad 14), .int v_undoMany, .ref (ad 15), .ref (ad 16), .ref (ad 17), .ref (ad 18), .ref (ad 19), .ref (ad 20), .int v_torn, .int v_isAsideChanged])), (ad 1, .inl (eI X, 720, .inl v_state)), (ad 2, .inl (eI X, 320, .inl v_tape)), (ad 3, .inl (eI X, 9, .inl v_ends)), (ad 4, .inl (eI X, 27, .inl v_letters)), (ad 5, .inl (eI X, 30, .inl v_values)), (ad 6, .inl (eZ X, 30, .inl v_isTold)), (ad 7, .inl (eI X, 30, .inl v_waits)), (ad 8, .inl (eI X, 900, .inl v_readsOf)), (ad 9, .inl (eI X, 30, .inl v_readMany)), (ad 10, .inl (eI X, 30, .inl v_heights)), (ad 11, .inl (eI X, 30, .inl v_oldValues)), (ad 12, .inl (eZ X, 30, .inl v_isOldTold)), (ad 13, .inl (eI X, 30, .inl v_oldReads)), (ad 14, .inl (eI X, 100, .inl v_undos)), (ad 15, .inl (eI X, 103, .inl v_undoAside)), (ad 16, .inl (eI X, 4, .inl v_formula)), (ad 17, .inl (eZ X, 2, .inl v_isKept)), (ad 18, .inl (eI X, 4, .inl v_lanes)), (ad 19, .inl (eI X, 4, .inl v_lengths)), (ad 20, .inl (eI X, 160, .inl v_items))] H L → Wx X k 0 0 H L 0 ls [] from hh _ _ hW
  clear hW
  intro H L hW
  have K4 : ∀ (n4 : Nat), ∀ (l2 : Int32), ∀ (l3 : Int32), ∀ (H : Heap) (L : List Loc) (ls : Array Slot), Wd X k A [(ad 0, .inr (8, [.ref (ad 1), .ref (ad 2), .int v_taped, .int v_fault, .int v_broken, .int v_brokenAt, .int v_spot, .int v_here, .int v_token, .int v_number, .ref (ad 3), .ref (ad 4), .ref (ad 5), .ref (ad 6), .ref (ad 7), .ref (ad 8), .ref (ad 9), .ref (ad 10), .int v_isStarted, .ref (ad 11), .ref (ad 12), .ref (ad 13), .int v_evaluated, .int v_moved, .int v_isChanged, .ref (ad 14), .int v_undoMany, .ref (ad 15), .ref (ad 16), .ref (ad 17), .ref (ad 18), .ref (ad 19), .ref (ad 20), .int v_torn, .int v_isAsideChanged])), (ad 1, .inl (eI X, 720, .inl v_state)), (ad 2, .inl (eI X, 320, .inl v_tape)), (ad 3, .inl (eI X, 9, .inl v_ends)), (ad 4, .inl (eI X, 27, .inl v_letters)), (ad 5, .inl (eI X, 30, .inl v_values)), (ad 6, .inl (eZ X, 30, .inl v_isTold)), (ad 7, .inl (eI X, 30, .inl v_waits)), (ad 8, .inl (eI X, 900, .inl v_readsOf)), (ad 9, .inl (eI X, 30, .inl v_readMany)), (ad 10, .inl (eI X, 30, .inl v_heights)), (ad 11, .inl (eI X, 30, .inl v_oldValues)), (ad 12, .inl (eZ X, 30, .inl v_isOldTold)), (ad 13, .inl (eI X, 30, .inl v_oldReads)), (ad 14, .inl (eI X, 100, .inl v_undos)), (ad 15, .inl (eI X, 103, .inl v_undoAside)), (ad 16, .inl (eI X, 4, .inl v_formula)), (ad 17, .inl (eZ X, 2, .inl v_isKept)), (ad 18, .inl (eI X, 4, .inl v_lanes)), (ad 19, .inl (eI X, 4, .inl v_lengths)), (ad 20, .inl (eI X, 160, .inl v_items))] H L → lv_has ls 4 [(0, .ref (ad 0)), (1, .int p1), (2, .int l2), (3, .int l3)] → lq2 (fX8_bitsRead_b4 v_readsOf v_readMany p1  ) n4 l2 l3 = some o → Wx X k 0 0 H L 4 ls [] := by
    intro n4
    induction n4 with
    | zero => intro l2 l3 H L ls hW hl h; exact lq2_0 h
    | succ n4 ih4 =>
      intro l2 l3 H L ls hW hl h
      rw [lq2_s] at h
      unfold fX8_bitsRead_b4 at h
      refine r_iload_n C hl 3 dX8_bitsRead_4 rfl rfl ?_
      refine r_aload_n C hl 0 dX8_bitsRead_5 rfl rfl ?_
      refine r_get C hW 0 rfl rfl iwX8 16 (by decide) w_fl_X8_35 rfl dX8_bitsRead_6 ?_
      refine r_iload_n C hl 1 dX8_bitsRead_9 rfl rfl ?_
      obtain ⟨x10, e10, g10, h⟩ := rd_some h
      refine r_iald C hW 9 rfl g10 e10 dX8_bitsRead_10 ?_
      refine r_icmp_ge (tgt := 36) C dX8_bitsRead_11 (by decide) (fun c11 => ?_) (fun c11 => ?_)
      · replace h := iT c11 h
        refine r_iload_n C hl 2 dX8_bitsRead_36 rfl rfl ?_
        exact r_iret C hq hW (by obtain rfl := Option.some.inj h; exact ⟨rfl, rfl⟩) dX8_bitsRead_37
      · replace h := iF c11 h
        refine r_iload_n C hl 2 dX8_bitsRead_14 rfl rfl ?_
        refine r_iconst (v := 1) C dX8_bitsRead_15 (by decide) ?_
        refine r_aload_n C hl 0 dX8_bitsRead_16 rfl rfl ?_
        refine r_get C hW 0 rfl rfl iwX8 15 (by decide) w_fl_X8_32 rfl dX8_bitsRead_17 ?_
        refine r_bipush (v := 30) C dX8_bitsRead_20 (by decide) ?_
        refine r_iload_n C hl 1 dX8_bitsRead_22 rfl rfl ?_
        refine r_imul C dX8_bitsRead_23 ?_
        refine r_iload_n C hl 3 dX8_bitsRead_24 rfl rfl ?_
        refine r_iadd C dX8_bitsRead_25 ?_
        obtain ⟨x26, e26, g26, h⟩ := rd_some h
        refine r_iald C hW 8 rfl g26 e26 dX8_bitsRead_26 ?_
        refine r_ishl C dX8_bitsRead_27 ?_
        refine r_ior C dX8_bitsRead_28 ?_
        refine r_istore_n (lv' := [(2, .int (l2 ||| ((1 : Int32) <<< (x26 &&& 31)))), (0, .ref (ad 0)), (1, .int p1), (3, .int l3)]) C hl dX8_bitsRead_29 rfl (by decide) rfl (fun ls hl => ?_)
        refine r_iinc (j := 3) (v := l3 + (1 : Int32)) (lv' := [(3, .int (l3 + (1 : Int32))), (2, .int (l2 ||| ((1 : Int32) <<< (x26 &&& 31)))), (0, .ref (ad 0)), (1, .int p1)]) C hl dX8_bitsRead_30 rfl rfl (by decide) rfl (fun ls hl => ?_)
        refine r_goto (tgt := 4) C dX8_bitsRead_33 (by decide) ?_
        exact ih4 (l2 ||| ((1 : Int32) <<< (x26 &&& 31))) (l3 + (1 : Int32)) H L ls hW (lv_sub hl [2, 3, 1, 0] rfl) h
  unfold fX8_bitsRead at h
  refine r_iconst (v := 0) C dX8_bitsRead_0 (by decide) ?_
  refine r_istore_n (lv' := [(2, .int (0 : Int32)), (0, .ref (ad 0)), (1, .int p1)]) C hl dX8_bitsRead_1 rfl (by decide) rfl (fun ls hl => ?_)
  refine r_iconst (v := 0) C dX8_bitsRead_2 (by decide) ?_
  refine r_istore_n (lv' := [(3, .int (0 : Int32)), (2, .int (0 : Int32)), (0, .ref (ad 0)), (1, .int p1)]) C hl dX8_bitsRead_3 rfl (by decide) rfl (fun ls hl => ?_)
  exact K4  fu (0 : Int32) (0 : Int32) H L ls hW (lv_sub hl [2, 3, 1, 0] rfl) h
def fX8_needsOf_j45 (v_readsOf : (Nat → Int32)) (v_readMany : (Nat → Int32)) (p1 : Int32) (self8 : Int32 → Int32 → Option (Int32)) (self17 : Int32 → Int32 → Option (Int32)) (l3 : Int32) (l4 : Int32) (s0 : Int32) (s1 : Int32) : Option (Int32) :=
  self17 (s0 ||| s1) (l4 + (1 : Int32))
def fX8_needsOf_b17 (v_readsOf : (Nat → Int32)) (v_readMany : (Nat → Int32)) (p1 : Int32) (self8 : Int32 → Int32 → Option (Int32)) (l3 : Int32) (self17 : Int32 → Int32 → Option (Int32)) (l2 : Int32) (l4 : Int32) : Option (Int32) :=
  if (30 : Int32) ≤ l4 then
    self8 l2 (l3 + (1 : Int32))
  else
    if ((l2 >>> (l4 &&& 31)) &&& (1 : Int32)) = (1 : Int32) then
      bd1 (fX8_bitsRead v_readsOf v_readMany l4) fun r38 =>
      fX8_needsOf_j45 v_readsOf v_readMany p1 self8 self17 l3 l4 l2 r38
    else
      fX8_needsOf_j45 v_readsOf v_readMany p1 self8 self17 l3 l4 l2 (0 : Int32)
def fX8_needsOf_b8 (v_readsOf : (Nat → Int32)) (v_readMany : (Nat → Int32)) (p1 : Int32)   (self8 : Int32 → Int32 → Option (Int32)) (l2 : Int32) (l3 : Int32) : Option (Int32) :=
  if (30 : Int32) ≤ l3 then
    some l2
  else
    lq2 (fX8_needsOf_b17 v_readsOf v_readMany p1 self8 l3) fu l2 (0 : Int32)
def fX8_needsOf (v_readsOf : (Nat → Int32)) (v_readMany : (Nat → Int32)) (p1 : Int32) : Option (Int32) :=
  bd1 (fX8_bitsRead v_readsOf v_readMany p1) fun r2 =>
  lq2 (fX8_needsOf_b8 v_readsOf v_readMany p1  ) fu r2 (0 : Int32)
set_option maxRecDepth 100000 in
set_option maxHeartbeats 8000000 in
theorem mX8_needsOf (X : Ev) (ad : Nat → Nat) (v_state : (Nat → Int32)) (v_tape : (Nat → Int32)) (v_taped : Int32) (v_fault : Int32) (v_broken : Int32) (v_brokenAt : Int32) (v_spot : Int32) (v_here : Int32) (v_token : Int32) (v_number : Int32) (v_ends : (Nat → Int32)) (v_letters : (Nat → Int32)) (v_values : (Nat → Int32)) (v_isTold : (Nat → Int32)) (v_waits : (Nat → Int32)) (v_readsOf : (Nat → Int32)) (v_readMany : (Nat → Int32)) (v_heights : (Nat → Int32)) (v_isStarted : Int32) (v_oldValues : (Nat → Int32)) (v_isOldTold : (Nat → Int32)) (v_oldReads : (Nat → Int32)) (v_evaluated : Int32) (v_moved : Int32) (v_isChanged : Int32) (v_undos : (Nat → Int32)) (v_undoMany : Int32) (v_undoAside : (Nat → Int32)) (v_formula : (Nat → Int32)) (v_isKept : (Nat → Int32)) (v_lanes : (Nat → Int32)) (v_lengths : (Nat → Int32)) (v_items : (Nat → Int32)) (v_torn : Int32) (v_isAsideChanged : Int32) (p1 : Int32) (o : Int32) (h : fX8_needsOf v_readsOf v_readMany p1 = some o) : Ctr X yX8_needsOf cX8_needsOf 5 (some .int) 1 23 0 0 [.ref (ad 0), .int p1] [(ad 0, .inr (8, [.ref (ad 1), .ref (ad 2), .int v_taped, .int v_fault, .int v_broken, .int v_brokenAt, .int v_spot, .int v_here, .int v_token, .int v_number, .ref (ad 3), .ref (ad 4), .ref (ad 5), .ref (ad 6), .ref (ad 7), .ref (ad 8), .ref (ad 9), .ref (ad 10), .int v_isStarted, .ref (ad 11), .ref (ad 12), .ref (ad 13), .int v_evaluated, .int v_moved, .int v_isChanged, .ref (ad 14), .int v_undoMany, .ref (ad 15), .ref (ad 16), .ref (ad 17), .ref (ad 18), .ref (ad 19), .ref (ad 20), .int v_torn, .int v_isAsideChanged])), (ad 1, .inl (eI X, 720, .inl v_state)), (ad 2, .inl (eI X, 320, .inl v_tape)), (ad 3, .inl (eI X, 9, .inl v_ends)), (ad 4, .inl (eI X, 27, .inl v_letters)), (ad 5, .inl (eI X, 30, .inl v_values)), (ad 6, .inl (eZ X, 30, .inl v_isTold)), (ad 7, .inl (eI X, 30, .inl v_waits)), (ad 8, .inl (eI X, 900, .inl v_readsOf)), (ad 9, .inl (eI X, 30, .inl v_readMany)), (ad 10, .inl (eI X, 30, .inl v_heights)), (ad 11, .inl (eI X, 30, .inl v_oldValues)), (ad 12, .inl (eZ X, 30, .inl v_isOldTold)), (ad 13, .inl (eI X, 30, .inl v_oldReads)), (ad 14, .inl (eI X, 100, .inl v_undos)), (ad 15, .inl (eI X, 103, .inl v_undoAside)), (ad 16, .inl (eI X, 4, .inl v_formula)), (ad 17, .inl (eZ X, 2, .inl v_isKept)), (ad 18, .inl (eI X, 4, .inl v_lanes)), (ad 19, .inl (eI X, 4, .inl v_lengths)), (ad 20, .inl (eI X, 160, .inl v_items))] (De (some (.int o)) [(ad 0, .inr (8, [.ref (ad 1), .ref (ad 2), .int v_taped, .int v_fault, .int v_broken, .int v_brokenAt, .int v_spot, .int v_here, .int v_token, .int v_number, .ref (ad 3), .ref (ad 4), .ref (ad 5), .ref (ad 6), .ref (ad 7), .ref (ad 8), .ref (ad 9), .ref (ad 10), .int v_isStarted, .ref (ad 11), .ref (ad 12), .ref (ad 13), .int v_evaluated, .int v_moved, .int v_isChanged, .ref (ad 14), .int v_undoMany, .ref (ad 15), .ref (ad 16), .ref (ad 17), .ref (ad 18), .ref (ad 19), .ref (ad 20), .int v_torn, .int v_isAsideChanged])), (ad 1, .inl (eI X, 720, .inl v_state)), (ad 2, .inl (eI X, 320, .inl v_tape)), (ad 3, .inl (eI X, 9, .inl v_ends)), (ad 4, .inl (eI X, 27, .inl v_letters)), (ad 5, .inl (eI X, 30, .inl v_values)), (ad 6, .inl (eZ X, 30, .inl v_isTold)), (ad 7, .inl (eI X, 30, .inl v_waits)), (ad 8, .inl (eI X, 900, .inl v_readsOf)), (ad 9, .inl (eI X, 30, .inl v_readMany)), (ad 10, .inl (eI X, 30, .inl v_heights)), (ad 11, .inl (eI X, 30, .inl v_oldValues)), (ad 12, .inl (eZ X, 30, .inl v_isOldTold)), (ad 13, .inl (eI X, 30, .inl v_oldReads)), (ad 14, .inl (eI X, 100, .inl v_undos)), (ad 15, .inl (eI X, 103, .inl v_undoAside)), (ad 16, .inl (eI X, 4, .inl v_formula)), (ad 17, .inl (eZ X, 2, .inl v_isKept)), (ad 18, .inl (eI X, 4, .inl v_lanes)), (ad 19, .inl (eI X, 4, .inl v_lengths)), (ad 20, .inl (eI X, 160, .inl v_items))]) := by
  refine Ctr.start (by decide) (Nat.le_of_ble_eq_true rfl) (fun k A ls C hq hin hW hl => ?_)
  replace C : Cx X k cX8_needsOf 5 (some .int) RX8 A 1 23 0 0 := C
  replace hl : lv_has ls 5 [(0, .ref (ad 0)), (1, .int p1)] := hl
  suffices hh : ∀ (H : Heap) (L : List Loc), Wd X k A [(ad 0, .inr (8, [.ref (ad 1), .ref (ad 2), .int v_taped, .int v_fault, .int v_broken, .int v_brokenAt, .int v_spot, .int v_here, .int v_token, .int v_number, .ref (ad 3), .ref (ad 4), .ref (ad 5), .ref (ad 6), .ref (ad 7), .ref (ad 8), .ref (ad 9), .ref (ad 10), .int v_isStarted, .ref (ad 11), .ref (ad 12), .ref (ad 13), .int v_evaluated, .int v_moved, .int v_isChanged, .ref (ad 14), .int v_undoMany, .ref (ad 15), .ref (ad 16), .ref (ad 17), .ref (ad 18), .ref (ad 19), .ref (ad 20), .int v_torn, .int v_isAsideChanged])), (ad 1, .inl (eI X, 720, .inl v_state)), (ad 2, .inl (eI X, 320, .inl v_tape)), (ad 3, .inl (eI X, 9, .inl v_ends)), (ad 4, .inl (eI X, 27, .inl v_letters)), (ad 5, .inl (eI X, 30, .inl v_values)), (ad 6, .inl (eZ X, 30, .inl v_isTold)), (ad 7, .inl (eI X, 30, .inl v_waits)), (ad 8, .inl (eI X, 900, .inl v_readsOf)), (ad 9, .inl (eI X, 30, .inl v_readMany)), (ad 10, .inl (eI X, 30, .inl v_heights)), (ad 11, .inl (eI X, 30, .inl v_oldValues)), (ad 12, .inl (eZ X, 30, .inl v_isOldTold)), (ad 13, .inl (eI X, 30, .inl v_oldReads)), (ad 14, .inl (eI X, 100, .inl v_undos)), (ad 15, .inl (eI X, 103, .inl v_undoAside)), (ad 16, .inl (eI X, 4, .inl v_formula)), (ad 17, .inl (eZ X, 2, .inl v_isKept)), (ad 18, .inl (eI X, 4, .inl v_lanes)), (ad 19, .inl (eI X, 4, .inl v_lengths)), (ad 20, .inl (eI X, 160, .inl v_items))] H L → Wx X k 0 0 H L 0 ls [] from hh _ _ hW
  clear hW
  intro H L hW
  have K8 : ∀ (n8 : Nat), ∀ (l2 : Int32), ∀ (l3 : Int32), ∀ (H : Heap) (L : List Loc) (ls : Array Slot), Wd X k A [(ad 0, .inr (8, [.ref (ad 1), .ref (ad 2), .int v_taped, .int v_fault, .int v_broken, .int v_brokenAt, .int v_spot, .int v_here, .int v_token, .int v_number, .ref (ad 3), .ref (ad 4), .ref (ad 5), .ref (ad 6), .ref (ad 7), .ref (ad 8), .ref (ad 9), .ref (ad 10), .int v_isStarted, .ref (ad 11), .ref (ad 12), .ref (ad 13), .int v_evaluated, .int v_moved, .int v_isChanged, .ref (ad 14), .int v_undoMany, .ref (ad 15), .ref (ad 16), .ref (ad 17), .ref (ad 18), .ref (ad 19), .ref (ad 20), .int v_torn, .int v_isAsideChanged])), (ad 1, .inl (eI X, 720, .inl v_state)), (ad 2, .inl (eI X, 320, .inl v_tape)), (ad 3, .inl (eI X, 9, .inl v_ends)), (ad 4, .inl (eI X, 27, .inl v_letters)), (ad 5, .inl (eI X, 30, .inl v_values)), (ad 6, .inl (eZ X, 30, .inl v_isTold)), (ad 7, .inl (eI X, 30, .inl v_waits)), (ad 8, .inl (eI X, 900, .inl v_readsOf)), (ad 9, .inl (eI X, 30, .inl v_readMany)), (ad 10, .inl (eI X, 30, .inl v_heights)), (ad 11, .inl (eI X, 30, .inl v_oldValues)), (ad 12, .inl (eZ X, 30, .inl v_isOldTold)), (ad 13, .inl (eI X, 30, .inl v_oldReads)), (ad 14, .inl (eI X, 100, .inl v_undos)), (ad 15, .inl (eI X, 103, .inl v_undoAside)), (ad 16, .inl (eI X, 4, .inl v_formula)), (ad 17, .inl (eZ X, 2, .inl v_isKept)), (ad 18, .inl (eI X, 4, .inl v_lanes)), (ad 19, .inl (eI X, 4, .inl v_lengths)), (ad 20, .inl (eI X, 160, .inl v_items))] H L → lv_has ls 5 [(0, .ref (ad 0)), (2, .int l2), (3, .int l3)] → lq2 (fX8_needsOf_b8 v_readsOf v_readMany p1  ) n8 l2 l3 = some o → Wx X k 0 0 H L 8 ls [] := by
    intro n8
    induction n8 with
    | zero => intro l2 l3 H L ls hW hl h; exact lq2_0 h
    | succ n8 ih8 =>
      have K17 : ∀ (l3 : Int32), ∀ (n17 : Nat), ∀ (l2 : Int32), ∀ (l4 : Int32), ∀ (H : Heap) (L : List Loc) (ls : Array Slot), Wd X k A [(ad 0, .inr (8, [.ref (ad 1), .ref (ad 2), .int v_taped, .int v_fault, .int v_broken, .int v_brokenAt, .int v_spot, .int v_here, .int v_token, .int v_number, .ref (ad 3), .ref (ad 4), .ref (ad 5), .ref (ad 6), .ref (ad 7), .ref (ad 8), .ref (ad 9), .ref (ad 10), .int v_isStarted, .ref (ad 11), .ref (ad 12), .ref (ad 13), .int v_evaluated, .int v_moved, .int v_isChanged, .ref (ad 14), .int v_undoMany, .ref (ad 15), .ref (ad 16), .ref (ad 17), .ref (ad 18), .ref (ad 19), .ref (ad 20), .int v_torn, .int v_isAsideChanged])), (ad 1, .inl (eI X, 720, .inl v_state)), (ad 2, .inl (eI X, 320, .inl v_tape)), (ad 3, .inl (eI X, 9, .inl v_ends)), (ad 4, .inl (eI X, 27, .inl v_letters)), (ad 5, .inl (eI X, 30, .inl v_values)), (ad 6, .inl (eZ X, 30, .inl v_isTold)), (ad 7, .inl (eI X, 30, .inl v_waits)), (ad 8, .inl (eI X, 900, .inl v_readsOf)), (ad 9, .inl (eI X, 30, .inl v_readMany)), (ad 10, .inl (eI X, 30, .inl v_heights)), (ad 11, .inl (eI X, 30, .inl v_oldValues)), (ad 12, .inl (eZ X, 30, .inl v_isOldTold)), (ad 13, .inl (eI X, 30, .inl v_oldReads)), (ad 14, .inl (eI X, 100, .inl v_undos)), (ad 15, .inl (eI X, 103, .inl v_undoAside)), (ad 16, .inl (eI X, 4, .inl v_formula)), (ad 17, .inl (eZ X, 2, .inl v_isKept)), (ad 18, .inl (eI X, 4, .inl v_lanes)), (ad 19, .inl (eI X, 4, .inl v_lengths)), (ad 20, .inl (eI X, 160, .inl v_items))] H L → lv_has ls 5 [(0, .ref (ad 0)), (2, .int l2), (3, .int l3), (4, .int l4)] → lq2 (fX8_needsOf_b17 v_readsOf v_readMany p1 (lq2 (fX8_needsOf_b8 v_readsOf v_readMany p1  ) n8) l3) n17 l2 l4 = some o → Wx X k 0 0 H L 17 ls [] := by
        intro l3
        intro n17
        induction n17 with
        | zero => intro l2 l4 H L ls hW hl h; exact lq2_0 h
        | succ n17 ih17 =>
          have K45 : ∀ (l4 : Int32), ∀ (s0 : Int32), ∀ (s1 : Int32), ∀ (H : Heap) (L : List Loc) (ls : Array Slot), Wd X k A [(ad 0, .inr (8, [.ref (ad 1), .ref (ad 2), .int v_taped, .int v_fault, .int v_broken, .int v_brokenAt, .int v_spot, .int v_here, .int v_token, .int v_number, .ref (ad 3), .ref (ad 4), .ref (ad 5), .ref (ad 6), .ref (ad 7), .ref (ad 8), .ref (ad 9), .ref (ad 10), .int v_isStarted, .ref (ad 11), .ref (ad 12), .ref (ad 13), .int v_evaluated, .int v_moved, .int v_isChanged, .ref (ad 14), .int v_undoMany, .ref (ad 15), .ref (ad 16), .ref (ad 17), .ref (ad 18), .ref (ad 19), .ref (ad 20), .int v_torn, .int v_isAsideChanged])), (ad 1, .inl (eI X, 720, .inl v_state)), (ad 2, .inl (eI X, 320, .inl v_tape)), (ad 3, .inl (eI X, 9, .inl v_ends)), (ad 4, .inl (eI X, 27, .inl v_letters)), (ad 5, .inl (eI X, 30, .inl v_values)), (ad 6, .inl (eZ X, 30, .inl v_isTold)), (ad 7, .inl (eI X, 30, .inl v_waits)), (ad 8, .inl (eI X, 900, .inl v_readsOf)), (ad 9, .inl (eI X, 30, .inl v_readMany)), (ad 10, .inl (eI X, 30, .inl v_heights)), (ad 11, .inl (eI X, 30, .inl v_oldValues)), (ad 12, .inl (eZ X, 30, .inl v_isOldTold)), (ad 13, .inl (eI X, 30, .inl v_oldReads)), (ad 14, .inl (eI X, 100, .inl v_undos)), (ad 15, .inl (eI X, 103, .inl v_undoAside)), (ad 16, .inl (eI X, 4, .inl v_formula)), (ad 17, .inl (eZ X, 2, .inl v_isKept)), (ad 18, .inl (eI X, 4, .inl v_lanes)), (ad 19, .inl (eI X, 4, .inl v_lengths)), (ad 20, .inl (eI X, 160, .inl v_items))] H L → lv_has ls 5 [(0, .ref (ad 0)), (3, .int l3), (4, .int l4)] → fX8_needsOf_j45 v_readsOf v_readMany p1 (lq2 (fX8_needsOf_b8 v_readsOf v_readMany p1  ) n8) (lq2 (fX8_needsOf_b17 v_readsOf v_readMany p1 (lq2 (fX8_needsOf_b8 v_readsOf v_readMany p1  ) n8) l3) n17) l3 l4 s0 s1 = some o → Wx X k 0 0 H L 45 ls [.int s1, .int s0] := by
            intro l4 s0 s1 H L ls hW hl h
            unfold fX8_needsOf_j45 at h
            refine r_ior C dX8_needsOf_45 ?_
            refine r_istore_n (lv' := [(2, .int (s0 ||| s1)), (0, .ref (ad 0)), (3, .int l3), (4, .int l4)]) C hl dX8_needsOf_46 rfl (by decide) rfl (fun ls hl => ?_)
            refine r_iinc (j := 3) (v := l4 + (1 : Int32)) (lv' := [(4, .int (l4 + (1 : Int32))), (2, .int (s0 ||| s1)), (0, .ref (ad 0)), (3, .int l3)]) C hl dX8_needsOf_47 rfl rfl (by decide) rfl (fun ls hl => ?_)
            refine r_goto (tgt := 17) C dX8_needsOf_50 (by decide) ?_
            exact ih17 (s0 ||| s1) (l4 + (1 : Int32)) H L ls hW (lv_sub hl [2, 1, 3, 0] rfl) h
          intro l2 l4 H L ls hW hl h
          rw [lq2_s] at h
          unfold fX8_needsOf_b17 at h
          refine r_iload C hl 3 dX8_needsOf_17 rfl ?_
          refine r_bipush (v := 30) C dX8_needsOf_19 (by decide) ?_
          refine r_icmp_ge (tgt := 53) C dX8_needsOf_21 (by decide) (fun c21 => ?_) (fun c21 => ?_)
          · replace h := iT c21 h
            refine r_iinc (j := 2) (v := l3 + (1 : Int32)) (lv' := [(3, .int (l3 + (1 : Int32))), (0, .ref (ad 0)), (2, .int l2), (4, .int l4)]) C hl dX8_needsOf_53 rfl rfl (by decide) rfl (fun ls hl => ?_)
            refine r_goto (tgt := 8) C dX8_needsOf_56 (by decide) ?_
            exact ih8 l2 (l3 + (1 : Int32)) H L ls hW (lv_sub hl [1, 2, 0] rfl) h
          · replace h := iF c21 h
            refine r_iload_n C hl 1 dX8_needsOf_24 rfl rfl ?_
            refine r_iload_n C hl 1 dX8_needsOf_25 rfl rfl ?_
            refine r_iload C hl 3 dX8_needsOf_26 rfl ?_
            refine r_ishr C dX8_needsOf_28 ?_
            refine r_iconst (v := 1) C dX8_needsOf_29 (by decide) ?_
            refine r_iand C dX8_needsOf_30 ?_
            refine r_iconst (v := 1) C dX8_needsOf_31 (by decide) ?_
            refine r_icmp_ne (tgt := 44) C dX8_needsOf_32 (by decide) (fun c32 => ?_) (fun c32 => ?_)
            · replace h := iF c32 h
              refine r_iconst (v := 0) C dX8_needsOf_44 (by decide) ?_
              exact K45 l4 l2 (0 : Int32) H L ls hW (lv_sub hl [0, 2, 3] rfl) h
            · replace h := iT c32 h
              refine r_aload_n C hl 0 dX8_needsOf_35 rfl rfl ?_
              refine r_iload C hl 3 dX8_needsOf_36 rfl ?_
              obtain ⟨r38, h38, h⟩ := bd1_some h
              refine r_V (wr := []) (np := 1) C hl (mX8_bitsRead X ad  v_state v_tape v_taped v_fault v_broken v_brokenAt v_spot v_here v_token v_number v_ends v_letters v_values v_isTold v_waits v_readsOf v_readMany v_heights v_isStarted v_oldValues v_isOldTold v_oldReads v_evaluated v_moved v_isChanged v_undos v_undoMany v_undoAside v_formula v_isKept v_lanes v_lengths v_items v_torn v_isAsideChanged l4 r38 h38) hW [0, 1, 2, 3, 4, 5, 6, 7, 8, 9, 10, 11, 12, 13, 14, 15, 16, 17, 18, 19, 20] [] rfl rfl rfl rfl (by decide) 0 rfl rfl w_cd_X8_bitsRead w_ml_X8_203 w_im_X8_bitsRead w_sel_X8_bitsRead w_in_HeightSheetModel (by decide +kernel) rfl ⟨Nat.le_of_ble_eq_true rfl, Nat.le_of_ble_eq_true rfl⟩ ⟨Nat.zero_le _, Nat.zero_le _⟩ (Nat.le_of_ble_eq_true rfl) dX8_needsOf_38 (fun rv w1 H L hp hW => ?_) rfl
              obtain ⟨rfl, rfl⟩ := hp
              replace hW : Wd X k A [(ad 0, .inr (8, [.ref (ad 1), .ref (ad 2), .int v_taped, .int v_fault, .int v_broken, .int v_brokenAt, .int v_spot, .int v_here, .int v_token, .int v_number, .ref (ad 3), .ref (ad 4), .ref (ad 5), .ref (ad 6), .ref (ad 7), .ref (ad 8), .ref (ad 9), .ref (ad 10), .int v_isStarted, .ref (ad 11), .ref (ad 12), .ref (ad 13), .int v_evaluated, .int v_moved, .int v_isChanged, .ref (ad 14), .int v_undoMany, .ref (ad 15), .ref (ad 16), .ref (ad 17), .ref (ad 18), .ref (ad 19), .ref (ad 20), .int v_torn, .int v_isAsideChanged])), (ad 1, .inl (eI X, 720, .inl v_state)), (ad 2, .inl (eI X, 320, .inl v_tape)), (ad 3, .inl (eI X, 9, .inl v_ends)), (ad 4, .inl (eI X, 27, .inl v_letters)), (ad 5, .inl (eI X, 30, .inl v_values)), (ad 6, .inl (eZ X, 30, .inl v_isTold)), (ad 7, .inl (eI X, 30, .inl v_waits)), (ad 8, .inl (eI X, 900, .inl v_readsOf)), (ad 9, .inl (eI X, 30, .inl v_readMany)), (ad 10, .inl (eI X, 30, .inl v_heights)), (ad 11, .inl (eI X, 30, .inl v_oldValues)), (ad 12, .inl (eZ X, 30, .inl v_isOldTold)), (ad 13, .inl (eI X, 30, .inl v_oldReads)), (ad 14, .inl (eI X, 100, .inl v_undos)), (ad 15, .inl (eI X, 103, .inl v_undoAside)), (ad 16, .inl (eI X, 4, .inl v_formula)), (ad 17, .inl (eZ X, 2, .inl v_isKept)), (ad 18, .inl (eI X, 4, .inl v_lanes)), (ad 19, .inl (eI X, 4, .inl v_lengths)), (ad 20, .inl (eI X, 160, .inl v_items))] H L := hW.sub [0, 1, 2, 3, 4, 5, 6, 7, 8, 9, 10, 11, 12, 13, 14, 15, 16, 17, 18, 19, 20] rfl rfl
              show Wx X k 0 0 H L 41 ls [.int r38, .int l2]
              refine r_goto (tgt := 45) C dX8_needsOf_41 (by decide) ?_
              exact K45 l4 l2 r38 H L ls hW (lv_sub hl [0, 2, 3] rfl) h
      intro l2 l3 H L ls hW hl h
      rw [lq2_s] at h
      unfold fX8_needsOf_b8 at h
      refine r_iload_n C hl 2 dX8_needsOf_8 rfl rfl ?_
      refine r_bipush (v := 30) C dX8_needsOf_9 (by decide) ?_
      refine r_icmp_ge (tgt := 59) C dX8_needsOf_11 (by decide) (fun c11 => ?_) (fun c11 => ?_)
      · replace h := iT c11 h
        refine r_iload_n C hl 1 dX8_needsOf_59 rfl rfl ?_
        exact r_iret C hq hW (by obtain rfl := Option.some.inj h; exact ⟨rfl, rfl⟩) dX8_needsOf_60
      · replace h := iF c11 h
        refine r_iconst (v := 0) C dX8_needsOf_14 (by decide) ?_
        refine r_istore (lv' := [(4, .int (0 : Int32)), (0, .ref (ad 0)), (2, .int l2), (3, .int l3)]) C hl dX8_needsOf_15 (by decide) rfl (fun ls hl => ?_)
        exact K17 l3 fu l2 (0 : Int32) H L ls hW (lv_sub hl [1, 2, 3, 0] rfl) h
  unfold fX8_needsOf at h
  refine r_aload_n C hl 0 dX8_needsOf_0 rfl rfl ?_
  refine r_iload_n C hl 1 dX8_needsOf_1 rfl rfl ?_
  obtain ⟨r2, h2, h⟩ := bd1_some h
  refine r_V (wr := []) (np := 1) C hl (mX8_bitsRead X ad  v_state v_tape v_taped v_fault v_broken v_brokenAt v_spot v_here v_token v_number v_ends v_letters v_values v_isTold v_waits v_readsOf v_readMany v_heights v_isStarted v_oldValues v_isOldTold v_oldReads v_evaluated v_moved v_isChanged v_undos v_undoMany v_undoAside v_formula v_isKept v_lanes v_lengths v_items v_torn v_isAsideChanged p1 r2 h2) hW [0, 1, 2, 3, 4, 5, 6, 7, 8, 9, 10, 11, 12, 13, 14, 15, 16, 17, 18, 19, 20] [] rfl rfl rfl rfl (by decide) 0 rfl rfl w_cd_X8_bitsRead w_ml_X8_203 w_im_X8_bitsRead w_sel_X8_bitsRead w_in_HeightSheetModel (by decide +kernel) rfl ⟨Nat.le_of_ble_eq_true rfl, Nat.le_of_ble_eq_true rfl⟩ ⟨Nat.zero_le _, Nat.zero_le _⟩ (Nat.le_of_ble_eq_true rfl) dX8_needsOf_2 (fun rv w1 H L hp hW => ?_) rfl
  obtain ⟨rfl, rfl⟩ := hp
  replace hW : Wd X k A [(ad 0, .inr (8, [.ref (ad 1), .ref (ad 2), .int v_taped, .int v_fault, .int v_broken, .int v_brokenAt, .int v_spot, .int v_here, .int v_token, .int v_number, .ref (ad 3), .ref (ad 4), .ref (ad 5), .ref (ad 6), .ref (ad 7), .ref (ad 8), .ref (ad 9), .ref (ad 10), .int v_isStarted, .ref (ad 11), .ref (ad 12), .ref (ad 13), .int v_evaluated, .int v_moved, .int v_isChanged, .ref (ad 14), .int v_undoMany, .ref (ad 15), .ref (ad 16), .ref (ad 17), .ref (ad 18), .ref (ad 19), .ref (ad 20), .int v_torn, .int v_isAsideChanged])), (ad 1, .inl (eI X, 720, .inl v_state)), (ad 2, .inl (eI X, 320, .inl v_tape)), (ad 3, .inl (eI X, 9, .inl v_ends)), (ad 4, .inl (eI X, 27, .inl v_letters)), (ad 5, .inl (eI X, 30, .inl v_values)), (ad 6, .inl (eZ X, 30, .inl v_isTold)), (ad 7, .inl (eI X, 30, .inl v_waits)), (ad 8, .inl (eI X, 900, .inl v_readsOf)), (ad 9, .inl (eI X, 30, .inl v_readMany)), (ad 10, .inl (eI X, 30, .inl v_heights)), (ad 11, .inl (eI X, 30, .inl v_oldValues)), (ad 12, .inl (eZ X, 30, .inl v_isOldTold)), (ad 13, .inl (eI X, 30, .inl v_oldReads)), (ad 14, .inl (eI X, 100, .inl v_undos)), (ad 15, .inl (eI X, 103, .inl v_undoAside)), (ad 16, .inl (eI X, 4, .inl v_formula)), (ad 17, .inl (eZ X, 2, .inl v_isKept)), (ad 18, .inl (eI X, 4, .inl v_lanes)), (ad 19, .inl (eI X, 4, .inl v_lengths)), (ad 20, .inl (eI X, 160, .inl v_items))] H L := hW.sub [0, 1, 2, 3, 4, 5, 6, 7, 8, 9, 10, 11, 12, 13, 14, 15, 16, 17, 18, 19, 20] rfl rfl
  show Wx X k 0 0 H L 5 ls [.int r2]
  refine r_istore_n (lv' := [(2, .int r2), (0, .ref (ad 0)), (1, .int p1)]) C hl dX8_needsOf_5 rfl (by decide) rfl (fun ls hl => ?_)
  refine r_iconst (v := 0) C dX8_needsOf_6 (by decide) ?_
  refine r_istore_n (lv' := [(3, .int (0 : Int32)), (2, .int r2), (0, .ref (ad 0)), (1, .int p1)]) C hl dX8_needsOf_7 rfl (by decide) rfl (fun ls hl => ?_)
  exact K8  fu r2 (0 : Int32) H L ls hW (lv_sub hl [2, 1, 0] rfl) h
def fX8_far_j68 (v_state : (Nat → Int32)) (p1 : Int32) (p2 : Int32) (self38 : Int32 → Int32 → Option (Int32 × (Nat → Int32) × (Nat → Int32) × (Nat → Int32) × (Nat → Int32) × (Nat → Int32) × (Nat → Int32) × Int32)) (v_values : (Nat → Int32)) (v_isTold : (Nat → Int32)) (v_waits : (Nat → Int32)) (v_readsOf : (Nat → Int32)) (v_readMany : (Nat → Int32)) (v_heights : (Nat → Int32)) (v_isStarted : Int32) (l4 : Int32) (s0 : Int32) (s1 : Int32) : Option (Int32 × (Nat → Int32) × (Nat → Int32) × (Nat → Int32) × (Nat → Int32) × (Nat → Int32) × (Nat → Int32) × Int32) :=
  self38 (s0 ||| s1) (l4 + (1 : Int32))
def fX8_far_b38 (v_state : (Nat → Int32)) (p1 : Int32) (p2 : Int32)  (v_values : (Nat → Int32)) (v_isTold : (Nat → Int32)) (v_waits : (Nat → Int32)) (v_readsOf : (Nat → Int32)) (v_readMany : (Nat → Int32)) (v_heights : (Nat → Int32)) (v_isStarted : Int32) (self38 : Int32 → Int32 → Option (Int32 × (Nat → Int32) × (Nat → Int32) × (Nat → Int32) × (Nat → Int32) × (Nat → Int32) × (Nat → Int32) × Int32)) (l3 : Int32) (l4 : Int32) : Option (Int32 × (Nat → Int32) × (Nat → Int32) × (Nat → Int32) × (Nat → Int32) × (Nat → Int32) × (Nat → Int32) × Int32) :=
  if (30 : Int32) ≤ l4 then
    some (l3, v_values, v_isTold, v_waits, v_readsOf, v_readMany, v_heights, v_isStarted)
  else
    bd1 (fX8_needsOf v_readsOf v_readMany l4) fun r49 =>
    if ((r49 >>> (p1 &&& 31)) &&& (1 : Int32)) = (1 : Int32) then
      fX8_far_j68 v_state p1 p2 self38 v_values v_isTold v_waits v_readsOf v_readMany v_heights v_isStarted l4 l3 ((1 : Int32) <<< (l4 &&& 31))
    else
      fX8_far_j68 v_state p1 p2 self38 v_values v_isTold v_waits v_readsOf v_readMany v_heights v_isStarted l4 l3 (0 : Int32)
def fX8_far (v_state : (Nat → Int32)) (v_values : (Nat → Int32)) (v_isTold : (Nat → Int32)) (v_waits : (Nat → Int32)) (v_readsOf : (Nat → Int32)) (v_readMany : (Nat → Int32)) (v_heights : (Nat → Int32)) (v_isStarted : Int32) (p1 : Int32) (p2 : Int32) : Option (Int32 × (Nat → Int32) × (Nat → Int32) × (Nat → Int32) × (Nat → Int32) × (Nat → Int32) × (Nat → Int32) × Int32) :=
  bd1 (fX8_isCell p1) fun r1 =>
  if r1 = (0 : Int32) then
    some ((-1 : Int32), v_values, v_isTold, v_waits, v_readsOf, v_readMany, v_heights, v_isStarted)
  else
    bd1 (fX8_in (p2.toInt64) (0 : Int64) (1 : Int64)) fun r11 =>
    if r11 = (0 : Int32) then
      some ((-1 : Int32), v_values, v_isTold, v_waits, v_readsOf, v_readMany, v_heights, v_isStarted)
    else
      bd7 (fX8_starts v_state v_values v_isTold v_waits v_readsOf v_readMany v_heights v_isStarted) fun c20_values c20_isTold c20_waits c20_readsOf c20_readMany c20_heights c20_isStarted =>
      if p2 = (0 : Int32) then
        bd1 (fX8_needsOf c20_readsOf c20_readMany p1) fun r29 =>
        some (r29, c20_values, c20_isTold, c20_waits, c20_readsOf, c20_readMany, c20_heights, c20_isStarted)
      else
        lq2 (fX8_far_b38 v_state p1 p2  c20_values c20_isTold c20_waits c20_readsOf c20_readMany c20_heights c20_isStarted) fu (0 : Int32) (0 : Int32)
set_option maxRecDepth 100000 in
set_option maxHeartbeats 8000000 in
theorem mX8_far (X : Ev) (ad : Nat → Nat) (v_state : (Nat → Int32)) (v_tape : (Nat → Int32)) (v_taped : Int32) (v_fault : Int32) (v_broken : Int32) (v_brokenAt : Int32) (v_spot : Int32) (v_here : Int32) (v_token : Int32) (v_number : Int32) (v_ends : (Nat → Int32)) (v_letters : (Nat → Int32)) (v_values : (Nat → Int32)) (v_isTold : (Nat → Int32)) (v_waits : (Nat → Int32)) (v_readsOf : (Nat → Int32)) (v_readMany : (Nat → Int32)) (v_heights : (Nat → Int32)) (v_isStarted : Int32) (v_oldValues : (Nat → Int32)) (v_isOldTold : (Nat → Int32)) (v_oldReads : (Nat → Int32)) (v_evaluated : Int32) (v_moved : Int32) (v_isChanged : Int32) (v_undos : (Nat → Int32)) (v_undoMany : Int32) (v_undoAside : (Nat → Int32)) (v_formula : (Nat → Int32)) (v_isKept : (Nat → Int32)) (v_lanes : (Nat → Int32)) (v_lengths : (Nat → Int32)) (v_items : (Nat → Int32)) (v_torn : Int32) (v_isAsideChanged : Int32) (p1 : Int32) (p2 : Int32) (o : Int32 × (Nat → Int32) × (Nat → Int32) × (Nat → Int32) × (Nat → Int32) × (Nat → Int32) × (Nat → Int32) × Int32) (h : fX8_far v_state v_values v_isTold v_waits v_readsOf v_readMany v_heights v_isStarted p1 p2 = some o) : Ctr X yX8_far cX8_far 5 (some .int) 6 136 0 0 [.ref (ad 0), .int p1, .int p2] [(ad 0, .inr (8, [.ref (ad 1), .ref (ad 2), .int v_taped, .int v_fault, .int v_broken, .int v_brokenAt, .int v_spot, .int v_here, .int v_token, .int v_number, .ref (ad 3), .ref (ad 4), .ref (ad 5), .ref (ad 6), .ref (ad 7), .ref (ad 8), .ref (ad 9), .ref (ad 10), .int v_isStarted, .ref (ad 11), .ref (ad 12), .ref (ad 13), .int v_evaluated, .int v_moved, .int v_isChanged, .ref (ad 14), .int v_undoMany, .ref (ad 15), .ref (ad 16), .ref (ad 17), .ref (ad 18), .ref (ad 19), .ref (ad 20), .int v_torn, .int v_isAsideChanged])), (ad 1, .inl (eI X, 720, .inl v_state)), (ad 2, .inl (eI X, 320, .inl v_tape)), (ad 3, .inl (eI X, 9, .inl v_ends)), (ad 4, .inl (eI X, 27, .inl v_letters)), (ad 5, .inl (eI X, 30, .inl v_values)), (ad 6, .inl (eZ X, 30, .inl v_isTold)), (ad 7, .inl (eI X, 30, .inl v_waits)), (ad 8, .inl (eI X, 900, .inl v_readsOf)), (ad 9, .inl (eI X, 30, .inl v_readMany)), (ad 10, .inl (eI X, 30, .inl v_heights)), (ad 11, .inl (eI X, 30, .inl v_oldValues)), (ad 12, .inl (eZ X, 30, .inl v_isOldTold)), (ad 13, .inl (eI X, 30, .inl v_oldReads)), (ad 14, .inl (eI X, 100, .inl v_undos)), (ad 15, .inl (eI X, 103, .inl v_undoAside)), (ad 16, .inl (eI X, 4, .inl v_formula)), (ad 17, .inl (eZ X, 2, .inl v_isKept)), (ad 18, .inl (eI X, 4, .inl v_lanes)), (ad 19, .inl (eI X, 4, .inl v_lengths)), (ad 20, .inl (eI X, 160, .inl v_items))] (De (some (.int o.1)) [(ad 0, .inr (8, [.ref (ad 1), .ref (ad 2), .int v_taped, .int v_fault, .int v_broken, .int v_brokenAt, .int v_spot, .int v_here, .int v_token, .int v_number, .ref (ad 3), .ref (ad 4), .ref (ad 5), .ref (ad 6), .ref (ad 7), .ref (ad 8), .ref (ad 9), .ref (ad 10), .int (o.2.2.2.2.2.2.2), .ref (ad 11), .ref (ad 12), .ref (ad 13), .int v_evaluated, .int v_moved, .int v_isChanged, .ref (ad 14), .int v_undoMany, .ref (ad 15), .ref (ad 16), .ref (ad 17), .ref (ad 18), .ref (ad 19), .ref (ad 20), .int v_torn, .int v_isAsideChanged])), (ad 1, .inl (eI X, 720, .inl v_state)), (ad 2, .inl (eI X, 320, .inl v_tape)), (ad 3, .inl (eI X, 9, .inl v_ends)), (ad 4, .inl (eI X, 27, .inl v_letters)), (ad 5, .inl (eI X, 30, .inl (o.2.1))), (ad 6, .inl (eZ X, 30, .inl (o.2.2.1))), (ad 7, .inl (eI X, 30, .inl (o.2.2.2.1))), (ad 8, .inl (eI X, 900, .inl (o.2.2.2.2.1))), (ad 9, .inl (eI X, 30, .inl (o.2.2.2.2.2.1))), (ad 10, .inl (eI X, 30, .inl (o.2.2.2.2.2.2.1))), (ad 11, .inl (eI X, 30, .inl v_oldValues)), (ad 12, .inl (eZ X, 30, .inl v_isOldTold)), (ad 13, .inl (eI X, 30, .inl v_oldReads)), (ad 14, .inl (eI X, 100, .inl v_undos)), (ad 15, .inl (eI X, 103, .inl v_undoAside)), (ad 16, .inl (eI X, 4, .inl v_formula)), (ad 17, .inl (eZ X, 2, .inl v_isKept)), (ad 18, .inl (eI X, 4, .inl v_lanes)), (ad 19, .inl (eI X, 4, .inl v_lengths)), (ad 20, .inl (eI X, 160, .inl v_items))]) := by
  refine Ctr.start (by decide) (Nat.le_of_ble_eq_true rfl) (fun k A ls C hq hin hW hl => ?_)
  replace C : Cx X k cX8_far 5 (some .int) RX8 A 6 136 0 0 := C
  replace hl : lv_has ls 5 [(0, .ref (ad 0)), (1, .int p1), (2, .int p2)] := hl
  suffices hh : ∀ (H : Heap) (L : List Loc), Wd X k A [(ad 0, .inr (8, [.ref (ad 1), .ref (ad 2), .int v_taped, .int v_fault, .int v_broken, .int v_brokenAt, .int v_spot, .int v_here, .int v_token, .int v_number, .ref (ad 3), .ref (ad 4), .ref (ad 5), .ref (ad 6), .ref (ad 7), .ref (ad 8), .ref (ad 9), .ref (ad 10), .int v_isStarted, .ref (ad 11), .ref (ad 12), .ref (ad 13), .int v_evaluated, .int v_moved, .int v_isChanged, .ref (ad 14), .int v_undoMany, .ref (ad 15), .ref (ad 16), .ref (ad 17), .ref (ad 18), .ref (ad 19), .ref (ad 20), .int v_torn, .int v_isAsideChanged])), (ad 1, .inl (eI X, 720, .inl v_state)), (ad 2, .inl (eI X, 320, .inl v_tape)), (ad 3, .inl (eI X, 9, .inl v_ends)), (ad 4, .inl (eI X, 27, .inl v_letters)), (ad 5, .inl (eI X, 30, .inl v_values)), (ad 6, .inl (eZ X, 30, .inl v_isTold)), (ad 7, .inl (eI X, 30, .inl v_waits)), (ad 8, .inl (eI X, 900, .inl v_readsOf)), (ad 9, .inl (eI X, 30, .inl v_readMany)), (ad 10, .inl (eI X, 30, .inl v_heights)), (ad 11, .inl (eI X, 30, .inl v_oldValues)), (ad 12, .inl (eZ X, 30, .inl v_isOldTold)), (ad 13, .inl (eI X, 30, .inl v_oldReads)), (ad 14, .inl (eI X, 100, .inl v_undos)), (ad 15, .inl (eI X, 103, .inl v_undoAside)), (ad 16, .inl (eI X, 4, .inl v_formula)), (ad 17, .inl (eZ X, 2, .inl v_isKept)), (ad 18, .inl (eI X, 4, .inl v_lanes)), (ad 19, .inl (eI X, 4, .inl v_lengths)), (ad 20, .inl (eI X, 160, .inl v_items))] H L → Wx X k 0 0 H L 0 ls [] from hh _ _ hW
  clear hW
  intro H L hW
  have K38 : ∀ (v_values : (Nat → Int32)), ∀ (v_isTold : (Nat → Int32)), ∀ (v_waits : (Nat → Int32)), ∀ (v_readsOf : (Nat → Int32)), ∀ (v_readMany : (Nat → Int32)), ∀ (v_heights : (Nat → Int32)), ∀ (v_isStarted : Int32), ∀ (n38 : Nat), ∀ (l3 : Int32), ∀ (l4 : Int32), ∀ (H : Heap) (L : List Loc) (ls : Array Slot), Wd X k A [(ad 0, .inr (8, [.ref (ad 1), .ref (ad 2), .int v_taped, .int v_fault, .int v_broken, .int v_brokenAt, .int v_spot, .int v_here, .int v_token, .int v_number, .ref (ad 3), .ref (ad 4), .ref (ad 5), .ref (ad 6), .ref (ad 7), .ref (ad 8), .ref (ad 9), .ref (ad 10), .int v_isStarted, .ref (ad 11), .ref (ad 12), .ref (ad 13), .int v_evaluated, .int v_moved, .int v_isChanged, .ref (ad 14), .int v_undoMany, .ref (ad 15), .ref (ad 16), .ref (ad 17), .ref (ad 18), .ref (ad 19), .ref (ad 20), .int v_torn, .int v_isAsideChanged])), (ad 1, .inl (eI X, 720, .inl v_state)), (ad 2, .inl (eI X, 320, .inl v_tape)), (ad 3, .inl (eI X, 9, .inl v_ends)), (ad 4, .inl (eI X, 27, .inl v_letters)), (ad 5, .inl (eI X, 30, .inl v_values)), (ad 6, .inl (eZ X, 30, .inl v_isTold)), (ad 7, .inl (eI X, 30, .inl v_waits)), (ad 8, .inl (eI X, 900, .inl v_readsOf)), (ad 9, .inl (eI X, 30, .inl v_readMany)), (ad 10, .inl (eI X, 30, .inl v_heights)), (ad 11, .inl (eI X, 30, .inl v_oldValues)), (ad 12, .inl (eZ X, 30, .inl v_isOldTold)), (ad 13, .inl (eI X, 30, .inl v_oldReads)), (ad 14, .inl (eI X, 100, .inl v_undos)), (ad 15, .inl (eI X, 103, .inl v_undoAside)), (ad 16, .inl (eI X, 4, .inl v_formula)), (ad 17, .inl (eZ X, 2, .inl v_isKept)), (ad 18, .inl (eI X, 4, .inl v_lanes)), (ad 19, .inl (eI X, 4, .inl v_lengths)), (ad 20, .inl (eI X, 160, .inl v_items))] H L → lv_has ls 5 [(0, .ref (ad 0)), (1, .int p1), (3, .int l3), (4, .int l4)] → lq2 (fX8_far_b38 v_state p1 p2  v_values v_isTold v_waits v_readsOf v_readMany v_heights v_isStarted) n38 l3 l4 = some o → Wx X k 0 0 H L 38 ls [] := by
    intro v_values v_isTold v_waits v_readsOf v_readMany v_heights v_isStarted
    intro n38
    induction n38 with
    | zero => intro l3 l4 H L ls hW hl h; exact lq2_0 h
    | succ n38 ih38 =>
      have K68 : ∀ (l4 : Int32), ∀ (s0 : Int32), ∀ (s1 : Int32), ∀ (H : Heap) (L : List Loc) (ls : Array Slot), Wd X k A [(ad 0, .inr (8, [.ref (ad 1), .ref (ad 2), .int v_taped, .int v_fault, .int v_broken, .int v_brokenAt, .int v_spot, .int v_here, .int v_token, .int v_number, .ref (ad 3), .ref (ad 4), .ref (ad 5), .ref (ad 6), .ref (ad 7), .ref (ad 8), .ref (ad 9), .ref (ad 10), .int v_isStarted, .ref (ad 11), .ref (ad 12), .ref (ad 13), .int v_evaluated, .int v_moved, .int v_isChanged, .ref (ad 14), .int v_undoMany, .ref (ad 15), .ref (ad 16), .ref (ad 17), .ref (ad 18), .ref (ad 19), .ref (ad 20), .int v_torn, .int v_isAsideChanged])), (ad 1, .inl (eI X, 720, .inl v_state)), (ad 2, .inl (eI X, 320, .inl v_tape)), (ad 3, .inl (eI X, 9, .inl v_ends)), (ad 4, .inl (eI X, 27, .inl v_letters)), (ad 5, .inl (eI X, 30, .inl v_values)), (ad 6, .inl (eZ X, 30, .inl v_isTold)), (ad 7, .inl (eI X, 30, .inl v_waits)), (ad 8, .inl (eI X, 900, .inl v_readsOf)), (ad 9, .inl (eI X, 30, .inl v_readMany)), (ad 10, .inl (eI X, 30, .inl v_heights)), (ad 11, .inl (eI X, 30, .inl v_oldValues)), (ad 12, .inl (eZ X, 30, .inl v_isOldTold)), (ad 13, .inl (eI X, 30, .inl v_oldReads)), (ad 14, .inl (eI X, 100, .inl v_undos)), (ad 15, .inl (eI X, 103, .inl v_undoAside)), (ad 16, .inl (eI X, 4, .inl v_formula)), (ad 17, .inl (eZ X, 2, .inl v_isKept)), (ad 18, .inl (eI X, 4, .inl v_lanes)), (ad 19, .inl (eI X, 4, .inl v_lengths)), (ad 20, .inl (eI X, 160, .inl v_items))] H L → lv_has ls 5 [(0, .ref (ad 0)), (1, .int p1), (4, .int l4)] → fX8_far_j68 v_state p1 p2 (lq2 (fX8_far_b38 v_state p1 p2  v_values v_isTold v_waits v_readsOf v_readMany v_heights v_isStarted) n38) v_values v_isTold v_waits v_readsOf v_readMany v_heights v_isStarted l4 s0 s1 = some o → Wx X k 0 0 H L 68 ls [.int s1, .int s0] := by
        intro l4 s0 s1 H L ls hW hl h
        unfold fX8_far_j68 at h
        refine r_ior C dX8_far_68 ?_
        refine r_istore_n (lv' := [(3, .int (s0 ||| s1)), (0, .ref (ad 0)), (1, .int p1), (4, .int l4)]) C hl dX8_far_69 rfl (by decide) rfl (fun ls hl => ?_)
        refine r_iinc (j := 3) (v := l4 + (1 : Int32)) (lv' := [(4, .int (l4 + (1 : Int32))), (3, .int (s0 ||| s1)), (0, .ref (ad 0)), (1, .int p1)]) C hl dX8_far_70 rfl rfl (by decide) rfl (fun ls hl => ?_)
        refine r_goto (tgt := 38) C dX8_far_73 (by decide) ?_
        exact ih38 (s0 ||| s1) (l4 + (1 : Int32)) H L ls hW (lv_sub hl [2, 3, 1, 0] rfl) h
      intro l3 l4 H L ls hW hl h
      rw [lq2_s] at h
      unfold fX8_far_b38 at h
      refine r_iload C hl 3 dX8_far_38 rfl ?_
      refine r_bipush (v := 30) C dX8_far_40 (by decide) ?_
      refine r_icmp_ge (tgt := 76) C dX8_far_42 (by decide) (fun c42 => ?_) (fun c42 => ?_)
      · replace h := iT c42 h
        refine r_iload_n C hl 2 dX8_far_76 rfl rfl ?_
        exact r_iret C hq hW (by obtain rfl := Option.some.inj h; exact ⟨rfl, rfl⟩) dX8_far_77
      · replace h := iF c42 h
        refine r_iload_n C hl 2 dX8_far_45 rfl rfl ?_
        refine r_aload_n C hl 0 dX8_far_46 rfl rfl ?_
        refine r_iload C hl 3 dX8_far_47 rfl ?_
        obtain ⟨r49, h49, h⟩ := bd1_some h
        refine r_V (wr := []) (np := 1) C hl (mX8_needsOf X ad  v_state v_tape v_taped v_fault v_broken v_brokenAt v_spot v_here v_token v_number v_ends v_letters v_values v_isTold v_waits v_readsOf v_readMany v_heights v_isStarted v_oldValues v_isOldTold v_oldReads v_evaluated v_moved v_isChanged v_undos v_undoMany v_undoAside v_formula v_isKept v_lanes v_lengths v_items v_torn v_isAsideChanged l4 r49 h49) hW [0, 1, 2, 3, 4, 5, 6, 7, 8, 9, 10, 11, 12, 13, 14, 15, 16, 17, 18, 19, 20] [] rfl rfl rfl rfl (by decide) 0 rfl rfl w_cd_X8_needsOf w_ml_X8_206 w_im_X8_needsOf w_sel_X8_needsOf w_in_HeightSheetModel (by decide +kernel) rfl ⟨Nat.le_of_ble_eq_true rfl, Nat.le_of_ble_eq_true rfl⟩ ⟨Nat.zero_le _, Nat.zero_le _⟩ (Nat.le_of_ble_eq_true rfl) dX8_far_49 (fun rv w1 H L hp hW => ?_) rfl
        obtain ⟨rfl, rfl⟩ := hp
        replace hW : Wd X k A [(ad 0, .inr (8, [.ref (ad 1), .ref (ad 2), .int v_taped, .int v_fault, .int v_broken, .int v_brokenAt, .int v_spot, .int v_here, .int v_token, .int v_number, .ref (ad 3), .ref (ad 4), .ref (ad 5), .ref (ad 6), .ref (ad 7), .ref (ad 8), .ref (ad 9), .ref (ad 10), .int v_isStarted, .ref (ad 11), .ref (ad 12), .ref (ad 13), .int v_evaluated, .int v_moved, .int v_isChanged, .ref (ad 14), .int v_undoMany, .ref (ad 15), .ref (ad 16), .ref (ad 17), .ref (ad 18), .ref (ad 19), .ref (ad 20), .int v_torn, .int v_isAsideChanged])), (ad 1, .inl (eI X, 720, .inl v_state)), (ad 2, .inl (eI X, 320, .inl v_tape)), (ad 3, .inl (eI X, 9, .inl v_ends)), (ad 4, .inl (eI X, 27, .inl v_letters)), (ad 5, .inl (eI X, 30, .inl v_values)), (ad 6, .inl (eZ X, 30, .inl v_isTold)), (ad 7, .inl (eI X, 30, .inl v_waits)), (ad 8, .inl (eI X, 900, .inl v_readsOf)), (ad 9, .inl (eI X, 30, .inl v_readMany)), (ad 10, .inl (eI X, 30, .inl v_heights)), (ad 11, .inl (eI X, 30, .inl v_oldValues)), (ad 12, .inl (eZ X, 30, .inl v_isOldTold)), (ad 13, .inl (eI X, 30, .inl v_oldReads)), (ad 14, .inl (eI X, 100, .inl v_undos)), (ad 15, .inl (eI X, 103, .inl v_undoAside)), (ad 16, .inl (eI X, 4, .inl v_formula)), (ad 17, .inl (eZ X, 2, .inl v_isKept)), (ad 18, .inl (eI X, 4, .inl v_lanes)), (ad 19, .inl (eI X, 4, .inl v_lengths)), (ad 20, .inl (eI X, 160, .inl v_items))] H L := hW.sub [0, 1, 2, 3, 4, 5, 6, 7, 8, 9, 10, 11, 12, 13, 14, 15, 16, 17, 18, 19, 20] rfl rfl
        show Wx X k 0 0 H L 52 ls [.int r49, .int l3]
        refine r_iload_n C hl 1 dX8_far_52 rfl rfl ?_
        refine r_ishr C dX8_far_53 ?_
        refine r_iconst (v := 1) C dX8_far_54 (by decide) ?_
        refine r_iand C dX8_far_55 ?_
        refine r_iconst (v := 1) C dX8_far_56 (by decide) ?_
        refine r_icmp_ne (tgt := 67) C dX8_far_57 (by decide) (fun c57 => ?_) (fun c57 => ?_)
        · replace h := iF c57 h
          refine r_iconst (v := 0) C dX8_far_67 (by decide) ?_
          exact K68 l4 l3 (0 : Int32) H L ls hW (lv_sub hl [0, 1, 3] rfl) h
        · replace h := iT c57 h
          refine r_iconst (v := 1) C dX8_far_60 (by decide) ?_
          refine r_iload C hl 3 dX8_far_61 rfl ?_
          refine r_ishl C dX8_far_63 ?_
          refine r_goto (tgt := 68) C dX8_far_64 (by decide) ?_
          exact K68 l4 l3 ((1 : Int32) <<< (l4 &&& 31)) H L ls hW (lv_sub hl [0, 1, 3] rfl) h
  unfold fX8_far at h
  refine r_iload_n C hl 1 dX8_far_0 rfl rfl ?_
  obtain ⟨r1, h1, h⟩ := bd1_some h
  refine r_S (wr := [(ad 0, .inr (8, [.ref (ad 1), .ref (ad 2), .int v_taped, .int v_fault, .int v_broken, .int v_brokenAt, .int v_spot, .int v_here, .int v_token, .int v_number, .ref (ad 3), .ref (ad 4), .ref (ad 5), .ref (ad 6), .ref (ad 7), .ref (ad 8), .ref (ad 9), .ref (ad 10), .int v_isStarted, .ref (ad 11), .ref (ad 12), .ref (ad 13), .int v_evaluated, .int v_moved, .int v_isChanged, .ref (ad 14), .int v_undoMany, .ref (ad 15), .ref (ad 16), .ref (ad 17), .ref (ad 18), .ref (ad 19), .ref (ad 20), .int v_torn, .int v_isAsideChanged])), (ad 1, .inl (eI X, 720, .inl v_state)), (ad 2, .inl (eI X, 320, .inl v_tape)), (ad 3, .inl (eI X, 9, .inl v_ends)), (ad 4, .inl (eI X, 27, .inl v_letters)), (ad 5, .inl (eI X, 30, .inl v_values)), (ad 6, .inl (eZ X, 30, .inl v_isTold)), (ad 7, .inl (eI X, 30, .inl v_waits)), (ad 8, .inl (eI X, 900, .inl v_readsOf)), (ad 9, .inl (eI X, 30, .inl v_readMany)), (ad 10, .inl (eI X, 30, .inl v_heights)), (ad 11, .inl (eI X, 30, .inl v_oldValues)), (ad 12, .inl (eZ X, 30, .inl v_isOldTold)), (ad 13, .inl (eI X, 30, .inl v_oldReads)), (ad 14, .inl (eI X, 100, .inl v_undos)), (ad 15, .inl (eI X, 103, .inl v_undoAside)), (ad 16, .inl (eI X, 4, .inl v_formula)), (ad 17, .inl (eZ X, 2, .inl v_isKept)), (ad 18, .inl (eI X, 4, .inl v_lanes)), (ad 19, .inl (eI X, 4, .inl v_lengths)), (ad 20, .inl (eI X, 160, .inl v_items))]) (np := 1) C hl (mX8_isCell X    p1 r1 h1) hW [] [0, 1, 2, 3, 4, 5, 6, 7, 8, 9, 10, 11, 12, 13, 14, 15, 16, 17, 18, 19, 20] rfl rfl rfl rfl (by decide) w_cd_X8_isCell w_ml_X8_197 w_st_X8_isCell w_in_HeightSheetModel (by decide +kernel) rfl ⟨Nat.le_of_ble_eq_true rfl, Nat.le_of_ble_eq_true rfl⟩ ⟨Nat.zero_le _, Nat.zero_le _⟩ (Nat.le_of_ble_eq_true rfl) dX8_far_1 (fun rv w1 H L hp hW => ?_) rfl
  obtain ⟨rfl, rfl⟩ := hp
  replace hW : Wd X k A [(ad 0, .inr (8, [.ref (ad 1), .ref (ad 2), .int v_taped, .int v_fault, .int v_broken, .int v_brokenAt, .int v_spot, .int v_here, .int v_token, .int v_number, .ref (ad 3), .ref (ad 4), .ref (ad 5), .ref (ad 6), .ref (ad 7), .ref (ad 8), .ref (ad 9), .ref (ad 10), .int v_isStarted, .ref (ad 11), .ref (ad 12), .ref (ad 13), .int v_evaluated, .int v_moved, .int v_isChanged, .ref (ad 14), .int v_undoMany, .ref (ad 15), .ref (ad 16), .ref (ad 17), .ref (ad 18), .ref (ad 19), .ref (ad 20), .int v_torn, .int v_isAsideChanged])), (ad 1, .inl (eI X, 720, .inl v_state)), (ad 2, .inl (eI X, 320, .inl v_tape)), (ad 3, .inl (eI X, 9, .inl v_ends)), (ad 4, .inl (eI X, 27, .inl v_letters)), (ad 5, .inl (eI X, 30, .inl v_values)), (ad 6, .inl (eZ X, 30, .inl v_isTold)), (ad 7, .inl (eI X, 30, .inl v_waits)), (ad 8, .inl (eI X, 900, .inl v_readsOf)), (ad 9, .inl (eI X, 30, .inl v_readMany)), (ad 10, .inl (eI X, 30, .inl v_heights)), (ad 11, .inl (eI X, 30, .inl v_oldValues)), (ad 12, .inl (eZ X, 30, .inl v_isOldTold)), (ad 13, .inl (eI X, 30, .inl v_oldReads)), (ad 14, .inl (eI X, 100, .inl v_undos)), (ad 15, .inl (eI X, 103, .inl v_undoAside)), (ad 16, .inl (eI X, 4, .inl v_formula)), (ad 17, .inl (eZ X, 2, .inl v_isKept)), (ad 18, .inl (eI X, 4, .inl v_lanes)), (ad 19, .inl (eI X, 4, .inl v_lengths)), (ad 20, .inl (eI X, 160, .inl v_items))] H L := hW.sub [0, 1, 2, 3, 4, 5, 6, 7, 8, 9, 10, 11, 12, 13, 14, 15, 16, 17, 18, 19, 20] rfl rfl
  show Wx X k 0 0 H L 4 ls [.int r1]
  refine r_if_eq (tgt := 17) C dX8_far_4 (by decide) (fun c4 => ?_) (fun c4 => ?_)
  · replace h := iT c4 h
    refine r_iconst (v := -1) C dX8_far_17 (by decide) ?_
    exact r_iret C hq hW (by obtain rfl := Option.some.inj h; exact ⟨rfl, rfl⟩) dX8_far_18
  · replace h := iF c4 h
    refine r_iload_n C hl 2 dX8_far_7 rfl rfl ?_
    refine r_i2l C dX8_far_8 ?_
    refine r_lconst (v := 0) C dX8_far_9 (by decide) ?_
    refine r_lconst (v := 1) C dX8_far_10 (by decide) ?_
    obtain ⟨r11, h11, h⟩ := bd1_some h
    refine r_S (wr := [(ad 0, .inr (8, [.ref (ad 1), .ref (ad 2), .int v_taped, .int v_fault, .int v_broken, .int v_brokenAt, .int v_spot, .int v_here, .int v_token, .int v_number, .ref (ad 3), .ref (ad 4), .ref (ad 5), .ref (ad 6), .ref (ad 7), .ref (ad 8), .ref (ad 9), .ref (ad 10), .int v_isStarted, .ref (ad 11), .ref (ad 12), .ref (ad 13), .int v_evaluated, .int v_moved, .int v_isChanged, .ref (ad 14), .int v_undoMany, .ref (ad 15), .ref (ad 16), .ref (ad 17), .ref (ad 18), .ref (ad 19), .ref (ad 20), .int v_torn, .int v_isAsideChanged])), (ad 1, .inl (eI X, 720, .inl v_state)), (ad 2, .inl (eI X, 320, .inl v_tape)), (ad 3, .inl (eI X, 9, .inl v_ends)), (ad 4, .inl (eI X, 27, .inl v_letters)), (ad 5, .inl (eI X, 30, .inl v_values)), (ad 6, .inl (eZ X, 30, .inl v_isTold)), (ad 7, .inl (eI X, 30, .inl v_waits)), (ad 8, .inl (eI X, 900, .inl v_readsOf)), (ad 9, .inl (eI X, 30, .inl v_readMany)), (ad 10, .inl (eI X, 30, .inl v_heights)), (ad 11, .inl (eI X, 30, .inl v_oldValues)), (ad 12, .inl (eZ X, 30, .inl v_isOldTold)), (ad 13, .inl (eI X, 30, .inl v_oldReads)), (ad 14, .inl (eI X, 100, .inl v_undos)), (ad 15, .inl (eI X, 103, .inl v_undoAside)), (ad 16, .inl (eI X, 4, .inl v_formula)), (ad 17, .inl (eZ X, 2, .inl v_isKept)), (ad 18, .inl (eI X, 4, .inl v_lanes)), (ad 19, .inl (eI X, 4, .inl v_lengths)), (ad 20, .inl (eI X, 160, .inl v_items))]) (np := 3) C hl (mX8_in X    (p2.toInt64) (0 : Int64) (1 : Int64) r11 h11) hW [] [0, 1, 2, 3, 4, 5, 6, 7, 8, 9, 10, 11, 12, 13, 14, 15, 16, 17, 18, 19, 20] rfl rfl rfl rfl (by decide) w_cd_X8_in w_ml_X8_73 w_st_X8_in w_in_HeightSheetModel (by decide +kernel) rfl ⟨Nat.le_of_ble_eq_true rfl, Nat.le_of_ble_eq_true rfl⟩ ⟨Nat.zero_le _, Nat.zero_le _⟩ (Nat.le_of_ble_eq_true rfl) dX8_far_11 (fun rv w1 H L hp hW => ?_) rfl
    obtain ⟨rfl, rfl⟩ := hp
    replace hW : Wd X k A [(ad 0, .inr (8, [.ref (ad 1), .ref (ad 2), .int v_taped, .int v_fault, .int v_broken, .int v_brokenAt, .int v_spot, .int v_here, .int v_token, .int v_number, .ref (ad 3), .ref (ad 4), .ref (ad 5), .ref (ad 6), .ref (ad 7), .ref (ad 8), .ref (ad 9), .ref (ad 10), .int v_isStarted, .ref (ad 11), .ref (ad 12), .ref (ad 13), .int v_evaluated, .int v_moved, .int v_isChanged, .ref (ad 14), .int v_undoMany, .ref (ad 15), .ref (ad 16), .ref (ad 17), .ref (ad 18), .ref (ad 19), .ref (ad 20), .int v_torn, .int v_isAsideChanged])), (ad 1, .inl (eI X, 720, .inl v_state)), (ad 2, .inl (eI X, 320, .inl v_tape)), (ad 3, .inl (eI X, 9, .inl v_ends)), (ad 4, .inl (eI X, 27, .inl v_letters)), (ad 5, .inl (eI X, 30, .inl v_values)), (ad 6, .inl (eZ X, 30, .inl v_isTold)), (ad 7, .inl (eI X, 30, .inl v_waits)), (ad 8, .inl (eI X, 900, .inl v_readsOf)), (ad 9, .inl (eI X, 30, .inl v_readMany)), (ad 10, .inl (eI X, 30, .inl v_heights)), (ad 11, .inl (eI X, 30, .inl v_oldValues)), (ad 12, .inl (eZ X, 30, .inl v_isOldTold)), (ad 13, .inl (eI X, 30, .inl v_oldReads)), (ad 14, .inl (eI X, 100, .inl v_undos)), (ad 15, .inl (eI X, 103, .inl v_undoAside)), (ad 16, .inl (eI X, 4, .inl v_formula)), (ad 17, .inl (eZ X, 2, .inl v_isKept)), (ad 18, .inl (eI X, 4, .inl v_lanes)), (ad 19, .inl (eI X, 4, .inl v_lengths)), (ad 20, .inl (eI X, 160, .inl v_items))] H L := hW.sub [0, 1, 2, 3, 4, 5, 6, 7, 8, 9, 10, 11, 12, 13, 14, 15, 16, 17, 18, 19, 20] rfl rfl
    show Wx X k 0 0 H L 14 ls [.int r11]
    refine r_if_ne (tgt := 19) C dX8_far_14 (by decide) (fun c14 => ?_) (fun c14 => ?_)
    · replace h := iF c14 h
      refine r_aload_n C hl 0 dX8_far_19 rfl rfl ?_
      obtain ⟨c20_values, c20_isTold, c20_waits, c20_readsOf, c20_readMany, c20_heights, c20_isStarted, h20, h⟩ := bd7_some h
      refine r_V (wr := []) (np := 0) C hl (mX8_starts X ad  v_state v_tape v_taped v_fault v_broken v_brokenAt v_spot v_here v_token v_number v_ends v_letters v_values v_isTold v_waits v_readsOf v_readMany v_heights v_isStarted v_oldValues v_isOldTold v_oldReads v_evaluated v_moved v_isChanged v_undos v_undoMany v_undoAside v_formula v_isKept v_lanes v_lengths v_items v_torn v_isAsideChanged  (c20_values, c20_isTold, c20_waits, c20_readsOf, c20_readMany, c20_heights, c20_isStarted) h20) hW [0, 1, 2, 3, 4, 5, 6, 7, 8, 9, 10, 11, 12, 13, 14, 15, 16, 17, 18, 19, 20] [] rfl rfl rfl rfl (by decide) 0 rfl rfl w_cd_X8_starts w_ml_X8_183 w_im_X8_starts w_sel_X8_starts w_in_HeightSheetModel (by decide +kernel) rfl ⟨Nat.le_of_ble_eq_true rfl, Nat.le_of_ble_eq_true rfl⟩ ⟨Nat.zero_le _, Nat.zero_le _⟩ (Nat.le_of_ble_eq_true rfl) dX8_far_20 (fun rv w1 H L hp hW => ?_) rfl
      obtain ⟨rfl, rfl⟩ := hp
      replace hW : Wd X k A [(ad 0, .inr (8, [.ref (ad 1), .ref (ad 2), .int v_taped, .int v_fault, .int v_broken, .int v_brokenAt, .int v_spot, .int v_here, .int v_token, .int v_number, .ref (ad 3), .ref (ad 4), .ref (ad 5), .ref (ad 6), .ref (ad 7), .ref (ad 8), .ref (ad 9), .ref (ad 10), .int c20_isStarted, .ref (ad 11), .ref (ad 12), .ref (ad 13), .int v_evaluated, .int v_moved, .int v_isChanged, .ref (ad 14), .int v_undoMany, .ref (ad 15), .ref (ad 16), .ref (ad 17), .ref (ad 18), .ref (ad 19), .ref (ad 20), .int v_torn, .int v_isAsideChanged])), (ad 1, .inl (eI X, 720, .inl v_state)), (ad 2, .inl (eI X, 320, .inl v_tape)), (ad 3, .inl (eI X, 9, .inl v_ends)), (ad 4, .inl (eI X, 27, .inl v_letters)), (ad 5, .inl (eI X, 30, .inl c20_values)), (ad 6, .inl (eZ X, 30, .inl c20_isTold)), (ad 7, .inl (eI X, 30, .inl c20_waits)), (ad 8, .inl (eI X, 900, .inl c20_readsOf)), (ad 9, .inl (eI X, 30, .inl c20_readMany)), (ad 10, .inl (eI X, 30, .inl c20_heights)), (ad 11, .inl (eI X, 30, .inl v_oldValues)), (ad 12, .inl (eZ X, 30, .inl v_isOldTold)), (ad 13, .inl (eI X, 30, .inl v_oldReads)), (ad 14, .inl (eI X, 100, .inl v_undos)), (ad 15, .inl (eI X, 103, .inl v_undoAside)), (ad 16, .inl (eI X, 4, .inl v_formula)), (ad 17, .inl (eZ X, 2, .inl v_isKept)), (ad 18, .inl (eI X, 4, .inl v_lanes)), (ad 19, .inl (eI X, 4, .inl v_lengths)), (ad 20, .inl (eI X, 160, .inl v_items))] H L := hW.sub [0, 1, 2, 3, 4, 5, 6, 7, 8, 9, 10, 11, 12, 13, 14, 15, 16, 17, 18, 19, 20] rfl rfl
      show Wx X k 0 0 H L 23 ls []
      refine r_iload_n C hl 2 dX8_far_23 rfl rfl ?_
      refine r_if_ne (tgt := 33) C dX8_far_24 (by decide) (fun c24 => ?_) (fun c24 => ?_)
      · replace h := iF c24 h
        refine r_iconst (v := 0) C dX8_far_33 (by decide) ?_
        refine r_istore_n (lv' := [(3, .int (0 : Int32)), (0, .ref (ad 0)), (1, .int p1), (2, .int p2)]) C hl dX8_far_34 rfl (by decide) rfl (fun ls hl => ?_)
        refine r_iconst (v := 0) C dX8_far_35 (by decide) ?_
        refine r_istore (lv' := [(4, .int (0 : Int32)), (3, .int (0 : Int32)), (0, .ref (ad 0)), (1, .int p1), (2, .int p2)]) C hl dX8_far_36 (by decide) rfl (fun ls hl => ?_)
        exact K38 c20_values c20_isTold c20_waits c20_readsOf c20_readMany c20_heights c20_isStarted fu (0 : Int32) (0 : Int32) H L ls hW (lv_sub hl [2, 3, 1, 0] rfl) h
      · replace h := iT c24 h
        refine r_aload_n C hl 0 dX8_far_27 rfl rfl ?_
        refine r_iload_n C hl 1 dX8_far_28 rfl rfl ?_
        obtain ⟨r29, h29, h⟩ := bd1_some h
        refine r_V (wr := []) (np := 1) C hl (mX8_needsOf X ad  v_state v_tape v_taped v_fault v_broken v_brokenAt v_spot v_here v_token v_number v_ends v_letters c20_values c20_isTold c20_waits c20_readsOf c20_readMany c20_heights c20_isStarted v_oldValues v_isOldTold v_oldReads v_evaluated v_moved v_isChanged v_undos v_undoMany v_undoAside v_formula v_isKept v_lanes v_lengths v_items v_torn v_isAsideChanged p1 r29 h29) hW [0, 1, 2, 3, 4, 5, 6, 7, 8, 9, 10, 11, 12, 13, 14, 15, 16, 17, 18, 19, 20] [] rfl rfl rfl rfl (by decide) 0 rfl rfl w_cd_X8_needsOf w_ml_X8_206 w_im_X8_needsOf w_sel_X8_needsOf w_in_HeightSheetModel (by decide +kernel) rfl ⟨Nat.le_of_ble_eq_true rfl, Nat.le_of_ble_eq_true rfl⟩ ⟨Nat.zero_le _, Nat.zero_le _⟩ (Nat.le_of_ble_eq_true rfl) dX8_far_29 (fun rv w1 H L hp hW => ?_) rfl
        obtain ⟨rfl, rfl⟩ := hp
        replace hW : Wd X k A [(ad 0, .inr (8, [.ref (ad 1), .ref (ad 2), .int v_taped, .int v_fault, .int v_broken, .int v_brokenAt, .int v_spot, .int v_here, .int v_token, .int v_number, .ref (ad 3), .ref (ad 4), .ref (ad 5), .ref (ad 6), .ref (ad 7), .ref (ad 8), .ref (ad 9), .ref (ad 10), .int c20_isStarted, .ref (ad 11), .ref (ad 12), .ref (ad 13), .int v_evaluated, .int v_moved, .int v_isChanged, .ref (ad 14), .int v_undoMany, .ref (ad 15), .ref (ad 16), .ref (ad 17), .ref (ad 18), .ref (ad 19), .ref (ad 20), .int v_torn, .int v_isAsideChanged])), (ad 1, .inl (eI X, 720, .inl v_state)), (ad 2, .inl (eI X, 320, .inl v_tape)), (ad 3, .inl (eI X, 9, .inl v_ends)), (ad 4, .inl (eI X, 27, .inl v_letters)), (ad 5, .inl (eI X, 30, .inl c20_values)), (ad 6, .inl (eZ X, 30, .inl c20_isTold)), (ad 7, .inl (eI X, 30, .inl c20_waits)), (ad 8, .inl (eI X, 900, .inl c20_readsOf)), (ad 9, .inl (eI X, 30, .inl c20_readMany)), (ad 10, .inl (eI X, 30, .inl c20_heights)), (ad 11, .inl (eI X, 30, .inl v_oldValues)), (ad 12, .inl (eZ X, 30, .inl v_isOldTold)), (ad 13, .inl (eI X, 30, .inl v_oldReads)), (ad 14, .inl (eI X, 100, .inl v_undos)), (ad 15, .inl (eI X, 103, .inl v_undoAside)), (ad 16, .inl (eI X, 4, .inl v_formula)), (ad 17, .inl (eZ X, 2, .inl v_isKept)), (ad 18, .inl (eI X, 4, .inl v_lanes)), (ad 19, .inl (eI X, 4, .inl v_lengths)), (ad 20, .inl (eI X, 160, .inl v_items))] H L := hW.sub [0, 1, 2, 3, 4, 5, 6, 7, 8, 9, 10, 11, 12, 13, 14, 15, 16, 17, 18, 19, 20] rfl rfl
        show Wx X k 0 0 H L 32 ls [.int r29]
        exact r_iret C hq hW (by obtain rfl := Option.some.inj h; exact ⟨rfl, rfl⟩) dX8_far_32
    · replace h := iT c14 h
      refine r_iconst (v := -1) C dX8_far_17 (by decide) ?_
      exact r_iret C hq hW (by obtain rfl := Option.some.inj h; exact ⟨rfl, rfl⟩) dX8_far_18
def fX8_order_j51 (v_state : (Nat → Int32)) (p1 : Int32) (self14 : Int32 → Int32 → Option (Int32 × (Nat → Int32) × (Nat → Int32) × (Nat → Int32) × (Nat → Int32) × (Nat → Int32) × (Nat → Int32) × Int32)) (self23 : Int32 → Int32 → Option (Int32 × (Nat → Int32) × (Nat → Int32) × (Nat → Int32) × (Nat → Int32) × (Nat → Int32) × (Nat → Int32) × Int32)) (v_values : (Nat → Int32)) (v_isTold : (Nat → Int32)) (v_waits : (Nat → Int32)) (v_readsOf : (Nat → Int32)) (v_readMany : (Nat → Int32)) (v_heights : (Nat → Int32)) (v_isStarted : Int32) (l2 : Int32) (l3 : Int32) (l4 : Int32) : Option (Int32 × (Nat → Int32) × (Nat → Int32) × (Nat → Int32) × (Nat → Int32) × (Nat → Int32) × (Nat → Int32) × Int32) :=
  self23 l2 (l4 + (1 : Int32))
def fX8_order_b23 (v_state : (Nat → Int32)) (p1 : Int32) (self14 : Int32 → Int32 → Option (Int32 × (Nat → Int32) × (Nat → Int32) × (Nat → Int32) × (Nat → Int32) × (Nat → Int32) × (Nat → Int32) × Int32)) (v_values : (Nat → Int32)) (v_isTold : (Nat → Int32)) (v_waits : (Nat → Int32)) (v_readsOf : (Nat → Int32)) (v_readMany : (Nat → Int32)) (v_heights : (Nat → Int32)) (v_isStarted : Int32) (l3 : Int32) (self23 : Int32 → Int32 → Option (Int32 × (Nat → Int32) × (Nat → Int32) × (Nat → Int32) × (Nat → Int32) × (Nat → Int32) × (Nat → Int32) × Int32)) (l2 : Int32) (l4 : Int32) : Option (Int32 × (Nat → Int32) × (Nat → Int32) × (Nat → Int32) × (Nat → Int32) × (Nat → Int32) × (Nat → Int32) × Int32) :=
  if (30 : Int32) ≤ l4 then
    self14 l2 (l3 + (1 : Int32))
  else
    rd v_heights 30 l4 fun x36 =>
    if x36 = l3 then
      if l2 = (0 : Int32) then
        some (l4, v_values, v_isTold, v_waits, v_readsOf, v_readMany, v_heights, v_isStarted)
      else
        fX8_order_j51 v_state p1 self14 self23 v_values v_isTold v_waits v_readsOf v_readMany v_heights v_isStarted (l2 + (-1 : Int32)) l3 l4
    else
      fX8_order_j51 v_state p1 self14 self23 v_values v_isTold v_waits v_readsOf v_readMany v_heights v_isStarted l2 l3 l4
def fX8_order_b14 (v_state : (Nat → Int32)) (p1 : Int32)  (v_values : (Nat → Int32)) (v_isTold : (Nat → Int32)) (v_waits : (Nat → Int32)) (v_readsOf : (Nat → Int32)) (v_readMany : (Nat → Int32)) (v_heights : (Nat → Int32)) (v_isStarted : Int32) (self14 : Int32 → Int32 → Option (Int32 × (Nat → Int32) × (Nat → Int32) × (Nat → Int32) × (Nat → Int32) × (Nat → Int32) × (Nat → Int32) × Int32)) (l2 : Int32) (l3 : Int32) : Option (Int32 × (Nat → Int32) × (Nat → Int32) × (Nat → Int32) × (Nat → Int32) × (Nat → Int32) × (Nat → Int32) × Int32) :=
  if (30 : Int32) ≤ l3 then
    some ((-4 : Int32), v_values, v_isTold, v_waits, v_readsOf, v_readMany, v_heights, v_isStarted)
  else
    lq2 (fX8_order_b23 v_state p1 self14 v_values v_isTold v_waits v_readsOf v_readMany v_heights v_isStarted l3) fu l2 (0 : Int32)
def fX8_order (v_state : (Nat → Int32)) (v_values : (Nat → Int32)) (v_isTold : (Nat → Int32)) (v_waits : (Nat → Int32)) (v_readsOf : (Nat → Int32)) (v_readMany : (Nat → Int32)) (v_heights : (Nat → Int32)) (v_isStarted : Int32) (p1 : Int32) : Option (Int32 × (Nat → Int32) × (Nat → Int32) × (Nat → Int32) × (Nat → Int32) × (Nat → Int32) × (Nat → Int32) × Int32) :=
  if (0 : Int32) ≤ p1 then
    bd7 (fX8_starts v_state v_values v_isTold v_waits v_readsOf v_readMany v_heights v_isStarted) fun c7_values c7_isTold c7_waits c7_readsOf c7_readMany c7_heights c7_isStarted =>
    lq2 (fX8_order_b14 v_state p1  c7_values c7_isTold c7_waits c7_readsOf c7_readMany c7_heights c7_isStarted) fu p1 (0 : Int32)
  else
    some ((-1 : Int32), v_values, v_isTold, v_waits, v_readsOf, v_readMany, v_heights, v_isStarted)
set_option maxRecDepth 100000 in
set_option maxHeartbeats 8000000 in
theorem mX8_order (X : Ev) (ad : Nat → Nat) (v_state : (Nat → Int32)) (v_tape : (Nat → Int32)) (v_taped : Int32) (v_fault : Int32) (v_broken : Int32) (v_brokenAt : Int32) (v_spot : Int32) (v_here : Int32) (v_token : Int32) (v_number : Int32) (v_ends : (Nat → Int32)) (v_letters : (Nat → Int32)) (v_values : (Nat → Int32)) (v_isTold : (Nat → Int32)) (v_waits : (Nat → Int32)) (v_readsOf : (Nat → Int32)) (v_readMany : (Nat → Int32)) (v_heights : (Nat → Int32)) (v_isStarted : Int32) (v_oldValues : (Nat → Int32)) (v_isOldTold : (Nat → Int32)) (v_oldReads : (Nat → Int32)) (v_evaluated : Int32) (v_moved : Int32) (v_isChanged : Int32) (v_undos : (Nat → Int32)) (v_undoMany : Int32) (v_undoAside : (Nat → Int32)) (v_formula : (Nat → Int32)) (v_isKept : (Nat → Int32)) (v_lanes : (Nat → Int32)) (v_lengths : (Nat → Int32)) (v_items : (Nat → Int32)) (v_torn : Int32) (v_isAsideChanged : Int32) (p1 : Int32) (o : Int32 × (Nat → Int32) × (Nat → Int32) × (Nat → Int32) × (Nat → Int32) × (Nat → Int32) × (Nat → Int32) × Int32) (h : fX8_order v_state v_values v_isTold v_waits v_readsOf v_readMany v_heights v_isStarted p1 = some o) : Ctr X yX8_order cX8_order 5 (some .int) 6 136 0 0 [.ref (ad 0), .int p1] [(ad 0, .inr (8, [.ref (ad 1), .ref (ad 2), .int v_taped, .int v_fault, .int v_broken, .int v_brokenAt, .int v_spot, .int v_here, .int v_token, .int v_number, .ref (ad 3), .ref (ad 4), .ref (ad 5), .ref (ad 6), .ref (ad 7), .ref (ad 8), .ref (ad 9), .ref (ad 10), .int v_isStarted, .ref (ad 11), .ref (ad 12), .ref (ad 13), .int v_evaluated, .int v_moved, .int v_isChanged, .ref (ad 14), .int v_undoMany, .ref (ad 15), .ref (ad 16), .ref (ad 17), .ref (ad 18), .ref (ad 19), .ref (ad 20), .int v_torn, .int v_isAsideChanged])), (ad 1, .inl (eI X, 720, .inl v_state)), (ad 2, .inl (eI X, 320, .inl v_tape)), (ad 3, .inl (eI X, 9, .inl v_ends)), (ad 4, .inl (eI X, 27, .inl v_letters)), (ad 5, .inl (eI X, 30, .inl v_values)), (ad 6, .inl (eZ X, 30, .inl v_isTold)), (ad 7, .inl (eI X, 30, .inl v_waits)), (ad 8, .inl (eI X, 900, .inl v_readsOf)), (ad 9, .inl (eI X, 30, .inl v_readMany)), (ad 10, .inl (eI X, 30, .inl v_heights)), (ad 11, .inl (eI X, 30, .inl v_oldValues)), (ad 12, .inl (eZ X, 30, .inl v_isOldTold)), (ad 13, .inl (eI X, 30, .inl v_oldReads)), (ad 14, .inl (eI X, 100, .inl v_undos)), (ad 15, .inl (eI X, 103, .inl v_undoAside)), (ad 16, .inl (eI X, 4, .inl v_formula)), (ad 17, .inl (eZ X, 2, .inl v_isKept)), (ad 18, .inl (eI X, 4, .inl v_lanes)), (ad 19, .inl (eI X, 4, .inl v_lengths)), (ad 20, .inl (eI X, 160, .inl v_items))] (De (some (.int o.1)) [(ad 0, .inr (8, [.ref (ad 1), .ref (ad 2), .int v_taped, .int v_fault, .int v_broken, .int v_brokenAt, .int v_spot, .int v_here, .int v_token, .int v_number, .ref (ad 3), .ref (ad 4), .ref (ad 5), .ref (ad 6), .ref (ad 7), .ref (ad 8), .ref (ad 9), .ref (ad 10), .int (o.2.2.2.2.2.2.2), .ref (ad 11), .ref (ad 12), .ref (ad 13), .int v_evaluated, .int v_moved, .int v_isChanged, .ref (ad 14), .int v_undoMany, .ref (ad 15), .ref (ad 16), .ref (ad 17), .ref (ad 18), .ref (ad 19), .ref (ad 20), .int v_torn, .int v_isAsideChanged])), (ad 1, .inl (eI X, 720, .inl v_state)), (ad 2, .inl (eI X, 320, .inl v_tape)), (ad 3, .inl (eI X, 9, .inl v_ends)), (ad 4, .inl (eI X, 27, .inl v_letters)), (ad 5, .inl (eI X, 30, .inl (o.2.1))), (ad 6, .inl (eZ X, 30, .inl (o.2.2.1))), (ad 7, .inl (eI X, 30, .inl (o.2.2.2.1))), (ad 8, .inl (eI X, 900, .inl (o.2.2.2.2.1))), (ad 9, .inl (eI X, 30, .inl (o.2.2.2.2.2.1))), (ad 10, .inl (eI X, 30, .inl (o.2.2.2.2.2.2.1))), (ad 11, .inl (eI X, 30, .inl v_oldValues)), (ad 12, .inl (eZ X, 30, .inl v_isOldTold)), (ad 13, .inl (eI X, 30, .inl v_oldReads)), (ad 14, .inl (eI X, 100, .inl v_undos)), (ad 15, .inl (eI X, 103, .inl v_undoAside)), (ad 16, .inl (eI X, 4, .inl v_formula)), (ad 17, .inl (eZ X, 2, .inl v_isKept)), (ad 18, .inl (eI X, 4, .inl v_lanes)), (ad 19, .inl (eI X, 4, .inl v_lengths)), (ad 20, .inl (eI X, 160, .inl v_items))]) := by
  refine Ctr.start (by decide) (Nat.le_of_ble_eq_true rfl) (fun k A ls C hq hin hW hl => ?_)
  replace C : Cx X k cX8_order 5 (some .int) RX8 A 6 136 0 0 := C
  replace hl : lv_has ls 5 [(0, .ref (ad 0)), (1, .int p1)] := hl
  suffices hh : ∀ (H : Heap) (L : List Loc), Wd X k A [(ad 0, .inr (8, [.ref (ad 1), .ref (ad 2), .int v_taped, .int v_fault, .int v_broken, .int v_brokenAt, .int v_spot, .int v_here, .int v_token, .int v_number, .ref (ad 3), .ref (ad 4), .ref (ad 5), .ref (ad 6), .ref (ad 7), .ref (ad 8), .ref (ad 9), .ref (ad 10), .int v_isStarted, .ref (ad 11), .ref (ad 12), .ref (ad 13), .int v_evaluated, .int v_moved, .int v_isChanged, .ref (ad 14), .int v_undoMany, .ref (ad 15), .ref (ad 16), .ref (ad 17), .ref (ad 18), .ref (ad 19), .ref (ad 20), .int v_torn, .int v_isAsideChanged])), (ad 1, .inl (eI X, 720, .inl v_state)), (ad 2, .inl (eI X, 320, .inl v_tape)), (ad 3, .inl (eI X, 9, .inl v_ends)), (ad 4, .inl (eI X, 27, .inl v_letters)), (ad 5, .inl (eI X, 30, .inl v_values)), (ad 6, .inl (eZ X, 30, .inl v_isTold)), (ad 7, .inl (eI X, 30, .inl v_waits)), (ad 8, .inl (eI X, 900, .inl v_readsOf)), (ad 9, .inl (eI X, 30, .inl v_readMany)), (ad 10, .inl (eI X, 30, .inl v_heights)), (ad 11, .inl (eI X, 30, .inl v_oldValues)), (ad 12, .inl (eZ X, 30, .inl v_isOldTold)), (ad 13, .inl (eI X, 30, .inl v_oldReads)), (ad 14, .inl (eI X, 100, .inl v_undos)), (ad 15, .inl (eI X, 103, .inl v_undoAside)), (ad 16, .inl (eI X, 4, .inl v_formula)), (ad 17, .inl (eZ X, 2, .inl v_isKept)), (ad 18, .inl (eI X, 4, .inl v_lanes)), (ad 19, .inl (eI X, 4, .inl v_lengths)), (ad 20, .inl (eI X, 160, .inl v_items))] H L → Wx X k 0 0 H L 0 ls [] from hh _ _ hW
  clear hW
  intro H L hW
  have K14 : ∀ (v_values : (Nat → Int32)), ∀ (v_isTold : (Nat → Int32)), ∀ (v_waits : (Nat → Int32)), ∀ (v_readsOf : (Nat → Int32)), ∀ (v_readMany : (Nat → Int32)), ∀ (v_heights : (Nat → Int32)), ∀ (v_isStarted : Int32), ∀ (n14 : Nat), ∀ (l2 : Int32), ∀ (l3 : Int32), ∀ (H : Heap) (L : List Loc) (ls : Array Slot), Wd X k A [(ad 0, .inr (8, [.ref (ad 1), .ref (ad 2), .int v_taped, .int v_fault, .int v_broken, .int v_brokenAt, .int v_spot, .int v_here, .int v_token, .int v_number, .ref (ad 3), .ref (ad 4), .ref (ad 5), .ref (ad 6), .ref (ad 7), .ref (ad 8), .ref (ad 9), .ref (ad 10), .int v_isStarted, .ref (ad 11), .ref (ad 12), .ref (ad 13), .int v_evaluated, .int v_moved, .int v_isChanged, .ref (ad 14), .int v_undoMany, .ref (ad 15), .ref (ad 16), .ref (ad 17), .ref (ad 18), .ref (ad 19), .ref (ad 20), .int v_torn, .int v_isAsideChanged])), (ad 1, .inl (eI X, 720, .inl v_state)), (ad 2, .inl (eI X, 320, .inl v_tape)), (ad 3, .inl (eI X, 9, .inl v_ends)), (ad 4, .inl (eI X, 27, .inl v_letters)), (ad 5, .inl (eI X, 30, .inl v_values)), (ad 6, .inl (eZ X, 30, .inl v_isTold)), (ad 7, .inl (eI X, 30, .inl v_waits)), (ad 8, .inl (eI X, 900, .inl v_readsOf)), (ad 9, .inl (eI X, 30, .inl v_readMany)), (ad 10, .inl (eI X, 30, .inl v_heights)), (ad 11, .inl (eI X, 30, .inl v_oldValues)), (ad 12, .inl (eZ X, 30, .inl v_isOldTold)), (ad 13, .inl (eI X, 30, .inl v_oldReads)), (ad 14, .inl (eI X, 100, .inl v_undos)), (ad 15, .inl (eI X, 103, .inl v_undoAside)), (ad 16, .inl (eI X, 4, .inl v_formula)), (ad 17, .inl (eZ X, 2, .inl v_isKept)), (ad 18, .inl (eI X, 4, .inl v_lanes)), (ad 19, .inl (eI X, 4, .inl v_lengths)), (ad 20, .inl (eI X, 160, .inl v_items))] H L → lv_has ls 5 [(0, .ref (ad 0)), (2, .int l2), (3, .int l3)] → lq2 (fX8_order_b14 v_state p1  v_values v_isTold v_waits v_readsOf v_readMany v_heights v_isStarted) n14 l2 l3 = some o → Wx X k 0 0 H L 14 ls [] := by
    intro v_values v_isTold v_waits v_readsOf v_readMany v_heights v_isStarted
    intro n14
    induction n14 with
    | zero => intro l2 l3 H L ls hW hl h; exact lq2_0 h
    | succ n14 ih14 =>
      have K23 : ∀ (l3 : Int32), ∀ (n23 : Nat), ∀ (l2 : Int32), ∀ (l4 : Int32), ∀ (H : Heap) (L : List Loc) (ls : Array Slot), Wd X k A [(ad 0, .inr (8, [.ref (ad 1), .ref (ad 2), .int v_taped, .int v_fault, .int v_broken, .int v_brokenAt, .int v_spot, .int v_here, .int v_token, .int v_number, .ref (ad 3), .ref (ad 4), .ref (ad 5), .ref (ad 6), .ref (ad 7), .ref (ad 8), .ref (ad 9), .ref (ad 10), .int v_isStarted, .ref (ad 11), .ref (ad 12), .ref (ad 13), .int v_evaluated, .int v_moved, .int v_isChanged, .ref (ad 14), .int v_undoMany, .ref (ad 15), .ref (ad 16), .ref (ad 17), .ref (ad 18), .ref (ad 19), .ref (ad 20), .int v_torn, .int v_isAsideChanged])), (ad 1, .inl (eI X, 720, .inl v_state)), (ad 2, .inl (eI X, 320, .inl v_tape)), (ad 3, .inl (eI X, 9, .inl v_ends)), (ad 4, .inl (eI X, 27, .inl v_letters)), (ad 5, .inl (eI X, 30, .inl v_values)), (ad 6, .inl (eZ X, 30, .inl v_isTold)), (ad 7, .inl (eI X, 30, .inl v_waits)), (ad 8, .inl (eI X, 900, .inl v_readsOf)), (ad 9, .inl (eI X, 30, .inl v_readMany)), (ad 10, .inl (eI X, 30, .inl v_heights)), (ad 11, .inl (eI X, 30, .inl v_oldValues)), (ad 12, .inl (eZ X, 30, .inl v_isOldTold)), (ad 13, .inl (eI X, 30, .inl v_oldReads)), (ad 14, .inl (eI X, 100, .inl v_undos)), (ad 15, .inl (eI X, 103, .inl v_undoAside)), (ad 16, .inl (eI X, 4, .inl v_formula)), (ad 17, .inl (eZ X, 2, .inl v_isKept)), (ad 18, .inl (eI X, 4, .inl v_lanes)), (ad 19, .inl (eI X, 4, .inl v_lengths)), (ad 20, .inl (eI X, 160, .inl v_items))] H L → lv_has ls 5 [(0, .ref (ad 0)), (2, .int l2), (3, .int l3), (4, .int l4)] → lq2 (fX8_order_b23 v_state p1 (lq2 (fX8_order_b14 v_state p1  v_values v_isTold v_waits v_readsOf v_readMany v_heights v_isStarted) n14) v_values v_isTold v_waits v_readsOf v_readMany v_heights v_isStarted l3) n23 l2 l4 = some o → Wx X k 0 0 H L 23 ls [] := by
        intro l3
        intro n23
        induction n23 with
        | zero => intro l2 l4 H L ls hW hl h; exact lq2_0 h
        | succ n23 ih23 =>
          have K51 : ∀ (l2 : Int32), ∀ (l4 : Int32), ∀ (H : Heap) (L : List Loc) (ls : Array Slot), Wd X k A [(ad 0, .inr (8, [.ref (ad 1), .ref (ad 2), .int v_taped, .int v_fault, .int v_broken, .int v_brokenAt, .int v_spot, .int v_here, .int v_token, .int v_number, .ref (ad 3), .ref (ad 4), .ref (ad 5), .ref (ad 6), .ref (ad 7), .ref (ad 8), .ref (ad 9), .ref (ad 10), .int v_isStarted, .ref (ad 11), .ref (ad 12), .ref (ad 13), .int v_evaluated, .int v_moved, .int v_isChanged, .ref (ad 14), .int v_undoMany, .ref (ad 15), .ref (ad 16), .ref (ad 17), .ref (ad 18), .ref (ad 19), .ref (ad 20), .int v_torn, .int v_isAsideChanged])), (ad 1, .inl (eI X, 720, .inl v_state)), (ad 2, .inl (eI X, 320, .inl v_tape)), (ad 3, .inl (eI X, 9, .inl v_ends)), (ad 4, .inl (eI X, 27, .inl v_letters)), (ad 5, .inl (eI X, 30, .inl v_values)), (ad 6, .inl (eZ X, 30, .inl v_isTold)), (ad 7, .inl (eI X, 30, .inl v_waits)), (ad 8, .inl (eI X, 900, .inl v_readsOf)), (ad 9, .inl (eI X, 30, .inl v_readMany)), (ad 10, .inl (eI X, 30, .inl v_heights)), (ad 11, .inl (eI X, 30, .inl v_oldValues)), (ad 12, .inl (eZ X, 30, .inl v_isOldTold)), (ad 13, .inl (eI X, 30, .inl v_oldReads)), (ad 14, .inl (eI X, 100, .inl v_undos)), (ad 15, .inl (eI X, 103, .inl v_undoAside)), (ad 16, .inl (eI X, 4, .inl v_formula)), (ad 17, .inl (eZ X, 2, .inl v_isKept)), (ad 18, .inl (eI X, 4, .inl v_lanes)), (ad 19, .inl (eI X, 4, .inl v_lengths)), (ad 20, .inl (eI X, 160, .inl v_items))] H L → lv_has ls 5 [(0, .ref (ad 0)), (2, .int l2), (3, .int l3), (4, .int l4)] → fX8_order_j51 v_state p1 (lq2 (fX8_order_b14 v_state p1  v_values v_isTold v_waits v_readsOf v_readMany v_heights v_isStarted) n14) (lq2 (fX8_order_b23 v_state p1 (lq2 (fX8_order_b14 v_state p1  v_values v_isTold v_waits v_readsOf v_readMany v_heights v_isStarted) n14) v_values v_isTold v_waits v_readsOf v_readMany v_heights v_isStarted l3) n23) v_values v_isTold v_waits v_readsOf v_readMany v_heights v_isStarted l2 l3 l4 = some o → Wx X k 0 0 H L 51 ls [] := by
            intro l2 l4 H L ls hW hl h
            unfold fX8_order_j51 at h
            refine r_iinc (j := 3) (v := l4 + (1 : Int32)) (lv' := [(4, .int (l4 + (1 : Int32))), (0, .ref (ad 0)), (2, .int l2), (3, .int l3)]) C hl dX8_order_51 rfl rfl (by decide) rfl (fun ls hl => ?_)
            refine r_goto (tgt := 23) C dX8_order_54 (by decide) ?_
            exact ih23 l2 (l4 + (1 : Int32)) H L ls hW (lv_sub hl [1, 2, 3, 0] rfl) h
          intro l2 l4 H L ls hW hl h
          rw [lq2_s] at h
          unfold fX8_order_b23 at h
          refine r_iload C hl 3 dX8_order_23 rfl ?_
          refine r_bipush (v := 30) C dX8_order_25 (by decide) ?_
          refine r_icmp_ge (tgt := 57) C dX8_order_27 (by decide) (fun c27 => ?_) (fun c27 => ?_)
          · replace h := iT c27 h
            refine r_iinc (j := 2) (v := l3 + (1 : Int32)) (lv' := [(3, .int (l3 + (1 : Int32))), (0, .ref (ad 0)), (2, .int l2), (4, .int l4)]) C hl dX8_order_57 rfl rfl (by decide) rfl (fun ls hl => ?_)
            refine r_goto (tgt := 14) C dX8_order_60 (by decide) ?_
            exact ih14 l2 (l3 + (1 : Int32)) H L ls hW (lv_sub hl [1, 2, 0] rfl) h
          · replace h := iF c27 h
            refine r_aload_n C hl 0 dX8_order_30 rfl rfl ?_
            refine r_get C hW 0 rfl rfl iwX8 17 (by decide) w_fl_X8_38 rfl dX8_order_31 ?_
            refine r_iload C hl 3 dX8_order_34 rfl ?_
            obtain ⟨x36, e36, g36, h⟩ := rd_some h
            refine r_iald C hW 10 rfl g36 e36 dX8_order_36 ?_
            refine r_iload_n C hl 2 dX8_order_37 rfl rfl ?_
            refine r_icmp_ne (tgt := 51) C dX8_order_38 (by decide) (fun c38 => ?_) (fun c38 => ?_)
            · replace h := iF c38 h
              exact K51 l2 l4 H L ls hW hl h
            · replace h := iT c38 h
              refine r_iload_n C hl 1 dX8_order_41 rfl rfl ?_
              refine r_if_ne (tgt := 48) C dX8_order_42 (by decide) (fun c42 => ?_) (fun c42 => ?_)
              · replace h := iF c42 h
                refine r_iinc (j := 1) (v := l2 + (-1 : Int32)) (lv' := [(2, .int (l2 + (-1 : Int32))), (0, .ref (ad 0)), (3, .int l3), (4, .int l4)]) C hl dX8_order_48 rfl rfl (by decide) rfl (fun ls hl => ?_)
                exact K51 (l2 + (-1 : Int32)) l4 H L ls hW (lv_sub hl [1, 0, 2, 3] rfl) h
              · replace h := iT c42 h
                refine r_iload C hl 3 dX8_order_45 rfl ?_
                exact r_iret C hq hW (by obtain rfl := Option.some.inj h; exact ⟨rfl, rfl⟩) dX8_order_47
      intro l2 l3 H L ls hW hl h
      rw [lq2_s] at h
      unfold fX8_order_b14 at h
      refine r_iload_n C hl 2 dX8_order_14 rfl rfl ?_
      refine r_bipush (v := 30) C dX8_order_15 (by decide) ?_
      refine r_icmp_ge (tgt := 63) C dX8_order_17 (by decide) (fun c17 => ?_) (fun c17 => ?_)
      · replace h := iT c17 h
        refine r_bipush (v := -4) C dX8_order_63 (by decide) ?_
        exact r_iret C hq hW (by obtain rfl := Option.some.inj h; exact ⟨rfl, rfl⟩) dX8_order_65
      · replace h := iF c17 h
        refine r_iconst (v := 0) C dX8_order_20 (by decide) ?_
        refine r_istore (lv' := [(4, .int (0 : Int32)), (0, .ref (ad 0)), (2, .int l2), (3, .int l3)]) C hl dX8_order_21 (by decide) rfl (fun ls hl => ?_)
        exact K23 l3 fu l2 (0 : Int32) H L ls hW (lv_sub hl [1, 2, 3, 0] rfl) h
  unfold fX8_order at h
  refine r_iload_n C hl 1 dX8_order_0 rfl rfl ?_
  refine r_if_ge (tgt := 6) C dX8_order_1 (by decide) (fun c1 => ?_) (fun c1 => ?_)
  · replace h := iT c1 h
    refine r_aload_n C hl 0 dX8_order_6 rfl rfl ?_
    obtain ⟨c7_values, c7_isTold, c7_waits, c7_readsOf, c7_readMany, c7_heights, c7_isStarted, h7, h⟩ := bd7_some h
    refine r_V (wr := []) (np := 0) C hl (mX8_starts X ad  v_state v_tape v_taped v_fault v_broken v_brokenAt v_spot v_here v_token v_number v_ends v_letters v_values v_isTold v_waits v_readsOf v_readMany v_heights v_isStarted v_oldValues v_isOldTold v_oldReads v_evaluated v_moved v_isChanged v_undos v_undoMany v_undoAside v_formula v_isKept v_lanes v_lengths v_items v_torn v_isAsideChanged  (c7_values, c7_isTold, c7_waits, c7_readsOf, c7_readMany, c7_heights, c7_isStarted) h7) hW [0, 1, 2, 3, 4, 5, 6, 7, 8, 9, 10, 11, 12, 13, 14, 15, 16, 17, 18, 19, 20] [] rfl rfl rfl rfl (by decide) 0 rfl rfl w_cd_X8_starts w_ml_X8_183 w_im_X8_starts w_sel_X8_starts w_in_HeightSheetModel (by decide +kernel) rfl ⟨Nat.le_of_ble_eq_true rfl, Nat.le_of_ble_eq_true rfl⟩ ⟨Nat.zero_le _, Nat.zero_le _⟩ (Nat.le_of_ble_eq_true rfl) dX8_order_7 (fun rv w1 H L hp hW => ?_) rfl
    obtain ⟨rfl, rfl⟩ := hp
    replace hW : Wd X k A [(ad 0, .inr (8, [.ref (ad 1), .ref (ad 2), .int v_taped, .int v_fault, .int v_broken, .int v_brokenAt, .int v_spot, .int v_here, .int v_token, .int v_number, .ref (ad 3), .ref (ad 4), .ref (ad 5), .ref (ad 6), .ref (ad 7), .ref (ad 8), .ref (ad 9), .ref (ad 10), .int c7_isStarted, .ref (ad 11), .ref (ad 12), .ref (ad 13), .int v_evaluated, .int v_moved, .int v_isChanged, .ref (ad 14), .int v_undoMany, .ref (ad 15), .ref (ad 16), .ref (ad 17), .ref (ad 18), .ref (ad 19), .ref (ad 20), .int v_torn, .int v_isAsideChanged])), (ad 1, .inl (eI X, 720, .inl v_state)), (ad 2, .inl (eI X, 320, .inl v_tape)), (ad 3, .inl (eI X, 9, .inl v_ends)), (ad 4, .inl (eI X, 27, .inl v_letters)), (ad 5, .inl (eI X, 30, .inl c7_values)), (ad 6, .inl (eZ X, 30, .inl c7_isTold)), (ad 7, .inl (eI X, 30, .inl c7_waits)), (ad 8, .inl (eI X, 900, .inl c7_readsOf)), (ad 9, .inl (eI X, 30, .inl c7_readMany)), (ad 10, .inl (eI X, 30, .inl c7_heights)), (ad 11, .inl (eI X, 30, .inl v_oldValues)), (ad 12, .inl (eZ X, 30, .inl v_isOldTold)), (ad 13, .inl (eI X, 30, .inl v_oldReads)), (ad 14, .inl (eI X, 100, .inl v_undos)), (ad 15, .inl (eI X, 103, .inl v_undoAside)), (ad 16, .inl (eI X, 4, .inl v_formula)), (ad 17, .inl (eZ X, 2, .inl v_isKept)), (ad 18, .inl (eI X, 4, .inl v_lanes)), (ad 19, .inl (eI X, 4, .inl v_lengths)), (ad 20, .inl (eI X, 160, .inl v_items))] H L := hW.sub [0, 1, 2, 3, 4, 5, 6, 7, 8, 9, 10, 11, 12, 13, 14, 15, 16, 17, 18, 19, 20] rfl rfl
    show Wx X k 0 0 H L 10 ls []
    refine r_iload_n C hl 1 dX8_order_10 rfl rfl ?_
    refine r_istore_n (lv' := [(2, .int p1), (0, .ref (ad 0)), (1, .int p1)]) C hl dX8_order_11 rfl (by decide) rfl (fun ls hl => ?_)
    refine r_iconst (v := 0) C dX8_order_12 (by decide) ?_
    refine r_istore_n (lv' := [(3, .int (0 : Int32)), (2, .int p1), (0, .ref (ad 0)), (1, .int p1)]) C hl dX8_order_13 rfl (by decide) rfl (fun ls hl => ?_)
    exact K14 c7_values c7_isTold c7_waits c7_readsOf c7_readMany c7_heights c7_isStarted fu p1 (0 : Int32) H L ls hW (lv_sub hl [2, 1, 0] rfl) h
  · replace h := iF c1 h
    refine r_iconst (v := -1) C dX8_order_4 (by decide) ?_
    exact r_iret C hq hW (by obtain rfl := Option.some.inj h; exact ⟨rfl, rfl⟩) dX8_order_5
def fX8_circle_b34 (v_state : (Nat → Int32)) (p1 : Int32) (p2 : Int32)  (v_values : (Nat → Int32)) (v_isTold : (Nat → Int32)) (v_waits : (Nat → Int32)) (v_readsOf : (Nat → Int32)) (v_readMany : (Nat → Int32)) (v_heights : (Nat → Int32)) (v_isStarted : Int32) (self34 : Int32 → Int32 → Option (Int32 × (Nat → Int32) × (Nat → Int32) × (Nat → Int32) × (Nat → Int32) × (Nat → Int32) × (Nat → Int32) × Int32)) (l3 : Int32) (l4 : Int32) : Option (Int32 × (Nat → Int32) × (Nat → Int32) × (Nat → Int32) × (Nat → Int32) × (Nat → Int32) × (Nat → Int32) × Int32) :=
  if p2 ≤ l4 then
    some (l3, v_values, v_isTold, v_waits, v_readsOf, v_readMany, v_heights, v_isStarted)
  else
    rd v_waits 30 l3 fun x45 =>
    self34 x45 (l4 + (1 : Int32))
def fX8_circle (v_state : (Nat → Int32)) (v_values : (Nat → Int32)) (v_isTold : (Nat → Int32)) (v_waits : (Nat → Int32)) (v_readsOf : (Nat → Int32)) (v_readMany : (Nat → Int32)) (v_heights : (Nat → Int32)) (v_isStarted : Int32) (p1 : Int32) (p2 : Int32) : Option (Int32 × (Nat → Int32) × (Nat → Int32) × (Nat → Int32) × (Nat → Int32) × (Nat → Int32) × (Nat → Int32) × Int32) :=
  bd1 (fX8_isCell p1) fun r1 =>
  if r1 = (0 : Int32) then
    some ((-1 : Int32), v_values, v_isTold, v_waits, v_readsOf, v_readMany, v_heights, v_isStarted)
  else
    if (0 : Int32) ≤ p2 then
      bd7 (fX8_starts v_state v_values v_isTold v_waits v_readsOf v_readMany v_heights v_isStarted) fun c14_values c14_isTold c14_waits c14_readsOf c14_readMany c14_heights c14_isStarted =>
      bd1 (fX8_circleOf c14_isTold c14_waits p1) fun r20 =>
      if p2 < r20 then
        lq2 (fX8_circle_b34 v_state p1 p2  c14_values c14_isTold c14_waits c14_readsOf c14_readMany c14_heights c14_isStarted) fu p1 (0 : Int32)
      else
        some ((-4 : Int32), c14_values, c14_isTold, c14_waits, c14_readsOf, c14_readMany, c14_heights, c14_isStarted)
    else
      some ((-1 : Int32), v_values, v_isTold, v_waits, v_readsOf, v_readMany, v_heights, v_isStarted)
set_option maxRecDepth 100000 in
set_option maxHeartbeats 8000000 in
theorem mX8_circle (X : Ev) (ad : Nat → Nat) (v_state : (Nat → Int32)) (v_tape : (Nat → Int32)) (v_taped : Int32) (v_fault : Int32) (v_broken : Int32) (v_brokenAt : Int32) (v_spot : Int32) (v_here : Int32) (v_token : Int32) (v_number : Int32) (v_ends : (Nat → Int32)) (v_letters : (Nat → Int32)) (v_values : (Nat → Int32)) (v_isTold : (Nat → Int32)) (v_waits : (Nat → Int32)) (v_readsOf : (Nat → Int32)) (v_readMany : (Nat → Int32)) (v_heights : (Nat → Int32)) (v_isStarted : Int32) (v_oldValues : (Nat → Int32)) (v_isOldTold : (Nat → Int32)) (v_oldReads : (Nat → Int32)) (v_evaluated : Int32) (v_moved : Int32) (v_isChanged : Int32) (v_undos : (Nat → Int32)) (v_undoMany : Int32) (v_undoAside : (Nat → Int32)) (v_formula : (Nat → Int32)) (v_isKept : (Nat → Int32)) (v_lanes : (Nat → Int32)) (v_lengths : (Nat → Int32)) (v_items : (Nat → Int32)) (v_torn : Int32) (v_isAsideChanged : Int32) (p1 : Int32) (p2 : Int32) (o : Int32 × (Nat → Int32) × (Nat → Int32) × (Nat → Int32) × (Nat → Int32) × (Nat → Int32) × (Nat → Int32) × Int32) (h : fX8_circle v_state v_values v_isTold v_waits v_readsOf v_readMany v_heights v_isStarted p1 p2 = some o) : Ctr X yX8_circle cX8_circle 5 (some .int) 6 136 0 0 [.ref (ad 0), .int p1, .int p2] [(ad 0, .inr (8, [.ref (ad 1), .ref (ad 2), .int v_taped, .int v_fault, .int v_broken, .int v_brokenAt, .int v_spot, .int v_here, .int v_token, .int v_number, .ref (ad 3), .ref (ad 4), .ref (ad 5), .ref (ad 6), .ref (ad 7), .ref (ad 8), .ref (ad 9), .ref (ad 10), .int v_isStarted, .ref (ad 11), .ref (ad 12), .ref (ad 13), .int v_evaluated, .int v_moved, .int v_isChanged, .ref (ad 14), .int v_undoMany, .ref (ad 15), .ref (ad 16), .ref (ad 17), .ref (ad 18), .ref (ad 19), .ref (ad 20), .int v_torn, .int v_isAsideChanged])), (ad 1, .inl (eI X, 720, .inl v_state)), (ad 2, .inl (eI X, 320, .inl v_tape)), (ad 3, .inl (eI X, 9, .inl v_ends)), (ad 4, .inl (eI X, 27, .inl v_letters)), (ad 5, .inl (eI X, 30, .inl v_values)), (ad 6, .inl (eZ X, 30, .inl v_isTold)), (ad 7, .inl (eI X, 30, .inl v_waits)), (ad 8, .inl (eI X, 900, .inl v_readsOf)), (ad 9, .inl (eI X, 30, .inl v_readMany)), (ad 10, .inl (eI X, 30, .inl v_heights)), (ad 11, .inl (eI X, 30, .inl v_oldValues)), (ad 12, .inl (eZ X, 30, .inl v_isOldTold)), (ad 13, .inl (eI X, 30, .inl v_oldReads)), (ad 14, .inl (eI X, 100, .inl v_undos)), (ad 15, .inl (eI X, 103, .inl v_undoAside)), (ad 16, .inl (eI X, 4, .inl v_formula)), (ad 17, .inl (eZ X, 2, .inl v_isKept)), (ad 18, .inl (eI X, 4, .inl v_lanes)), (ad 19, .inl (eI X, 4, .inl v_lengths)), (ad 20, .inl (eI X, 160, .inl v_items))] (De (some (.int o.1)) [(ad 0, .inr (8, [.ref (ad 1), .ref (ad 2), .int v_taped, .int v_fault, .int v_broken, .int v_brokenAt, .int v_spot, .int v_here, .int v_token, .int v_number, .ref (ad 3), .ref (ad 4), .ref (ad 5), .ref (ad 6), .ref (ad 7), .ref (ad 8), .ref (ad 9), .ref (ad 10), .int (o.2.2.2.2.2.2.2), .ref (ad 11), .ref (ad 12), .ref (ad 13), .int v_evaluated, .int v_moved, .int v_isChanged, .ref (ad 14), .int v_undoMany, .ref (ad 15), .ref (ad 16), .ref (ad 17), .ref (ad 18), .ref (ad 19), .ref (ad 20), .int v_torn, .int v_isAsideChanged])), (ad 1, .inl (eI X, 720, .inl v_state)), (ad 2, .inl (eI X, 320, .inl v_tape)), (ad 3, .inl (eI X, 9, .inl v_ends)), (ad 4, .inl (eI X, 27, .inl v_letters)), (ad 5, .inl (eI X, 30, .inl (o.2.1))), (ad 6, .inl (eZ X, 30, .inl (o.2.2.1))), (ad 7, .inl (eI X, 30, .inl (o.2.2.2.1))), (ad 8, .inl (eI X, 900, .inl (o.2.2.2.2.1))), (ad 9, .inl (eI X, 30, .inl (o.2.2.2.2.2.1))), (ad 10, .inl (eI X, 30, .inl (o.2.2.2.2.2.2.1))), (ad 11, .inl (eI X, 30, .inl v_oldValues)), (ad 12, .inl (eZ X, 30, .inl v_isOldTold)), (ad 13, .inl (eI X, 30, .inl v_oldReads)), (ad 14, .inl (eI X, 100, .inl v_undos)), (ad 15, .inl (eI X, 103, .inl v_undoAside)), (ad 16, .inl (eI X, 4, .inl v_formula)), (ad 17, .inl (eZ X, 2, .inl v_isKept)), (ad 18, .inl (eI X, 4, .inl v_lanes)), (ad 19, .inl (eI X, 4, .inl v_lengths)), (ad 20, .inl (eI X, 160, .inl v_items))]) := by
  refine Ctr.start (by decide) (Nat.le_of_ble_eq_true rfl) (fun k A ls C hq hin hW hl => ?_)
  replace C : Cx X k cX8_circle 5 (some .int) RX8 A 6 136 0 0 := C
  replace hl : lv_has ls 5 [(0, .ref (ad 0)), (1, .int p1), (2, .int p2)] := hl
  suffices hh : ∀ (H : Heap) (L : List Loc), Wd X k A [(ad 0, .inr (8, [.ref (ad 1), .ref (ad 2), .int v_taped, .int v_fault, .int v_broken, .int v_brokenAt, .int v_spot, .int v_here, .int v_token, .int v_number, .ref (ad 3), .ref (ad 4), .ref (ad 5), .ref (ad 6), .ref (ad 7), .ref (ad 8), .ref (ad 9), .ref (ad 10), .int v_isStarted, .ref (ad 11), .ref (ad 12), .ref (ad 13), .int v_evaluated, .int v_moved, .int v_isChanged, .ref (ad 14), .int v_undoMany, .ref (ad 15), .ref (ad 16), .ref (ad 17), .ref (ad 18), .ref (ad 19), .ref (ad 20), .int v_torn, .int v_isAsideChanged])), (ad 1, .inl (eI X, 720, .inl v_state)), (ad 2, .inl (eI X, 320, .inl v_tape)), (ad 3, .inl (eI X, 9, .inl v_ends)), (ad 4, .inl (eI X, 27, .inl v_letters)), (ad 5, .inl (eI X, 30, .inl v_values)), (ad 6, .inl (eZ X, 30, .inl v_isTold)), (ad 7, .inl (eI X, 30, .inl v_waits)), (ad 8, .inl (eI X, 900, .inl v_readsOf)), (ad 9, .inl (eI X, 30, .inl v_readMany)), (ad 10, .inl (eI X, 30, .inl v_heights)), (ad 11, .inl (eI X, 30, .inl v_oldValues)), (ad 12, .inl (eZ X, 30, .inl v_isOldTold)), (ad 13, .inl (eI X, 30, .inl v_oldReads)), (ad 14, .inl (eI X, 100, .inl v_undos)), (ad 15, .inl (eI X, 103, .inl v_undoAside)), (ad 16, .inl (eI X, 4, .inl v_formula)), (ad 17, .inl (eZ X, 2, .inl v_isKept)), (ad 18, .inl (eI X, 4, .inl v_lanes)), (ad 19, .inl (eI X, 4, .inl v_lengths)), (ad 20, .inl (eI X, 160, .inl v_items))] H L → Wx X k 0 0 H L 0 ls [] from hh _ _ hW
  clear hW
  intro H L hW
  have K34 : ∀ (v_values : (Nat → Int32)), ∀ (v_isTold : (Nat → Int32)), ∀ (v_waits : (Nat → Int32)), ∀ (v_readsOf : (Nat → Int32)), ∀ (v_readMany : (Nat → Int32)), ∀ (v_heights : (Nat → Int32)), ∀ (v_isStarted : Int32), ∀ (n34 : Nat), ∀ (l3 : Int32), ∀ (l4 : Int32), ∀ (H : Heap) (L : List Loc) (ls : Array Slot), Wd X k A [(ad 0, .inr (8, [.ref (ad 1), .ref (ad 2), .int v_taped, .int v_fault, .int v_broken, .int v_brokenAt, .int v_spot, .int v_here, .int v_token, .int v_number, .ref (ad 3), .ref (ad 4), .ref (ad 5), .ref (ad 6), .ref (ad 7), .ref (ad 8), .ref (ad 9), .ref (ad 10), .int v_isStarted, .ref (ad 11), .ref (ad 12), .ref (ad 13), .int v_evaluated, .int v_moved, .int v_isChanged, .ref (ad 14), .int v_undoMany, .ref (ad 15), .ref (ad 16), .ref (ad 17), .ref (ad 18), .ref (ad 19), .ref (ad 20), .int v_torn, .int v_isAsideChanged])), (ad 1, .inl (eI X, 720, .inl v_state)), (ad 2, .inl (eI X, 320, .inl v_tape)), (ad 3, .inl (eI X, 9, .inl v_ends)), (ad 4, .inl (eI X, 27, .inl v_letters)), (ad 5, .inl (eI X, 30, .inl v_values)), (ad 6, .inl (eZ X, 30, .inl v_isTold)), (ad 7, .inl (eI X, 30, .inl v_waits)), (ad 8, .inl (eI X, 900, .inl v_readsOf)), (ad 9, .inl (eI X, 30, .inl v_readMany)), (ad 10, .inl (eI X, 30, .inl v_heights)), (ad 11, .inl (eI X, 30, .inl v_oldValues)), (ad 12, .inl (eZ X, 30, .inl v_isOldTold)), (ad 13, .inl (eI X, 30, .inl v_oldReads)), (ad 14, .inl (eI X, 100, .inl v_undos)), (ad 15, .inl (eI X, 103, .inl v_undoAside)), (ad 16, .inl (eI X, 4, .inl v_formula)), (ad 17, .inl (eZ X, 2, .inl v_isKept)), (ad 18, .inl (eI X, 4, .inl v_lanes)), (ad 19, .inl (eI X, 4, .inl v_lengths)), (ad 20, .inl (eI X, 160, .inl v_items))] H L → lv_has ls 5 [(0, .ref (ad 0)), (2, .int p2), (3, .int l3), (4, .int l4)] → lq2 (fX8_circle_b34 v_state p1 p2  v_values v_isTold v_waits v_readsOf v_readMany v_heights v_isStarted) n34 l3 l4 = some o → Wx X k 0 0 H L 34 ls [] := by
    intro v_values v_isTold v_waits v_readsOf v_readMany v_heights v_isStarted
    intro n34
    induction n34 with
    | zero => intro l3 l4 H L ls hW hl h; exact lq2_0 h
    | succ n34 ih34 =>
      intro l3 l4 H L ls hW hl h
      rw [lq2_s] at h
      unfold fX8_circle_b34 at h
      refine r_iload C hl 3 dX8_circle_34 rfl ?_
      refine r_iload_n C hl 1 dX8_circle_36 rfl rfl ?_
      refine r_icmp_ge (tgt := 53) C dX8_circle_37 (by decide) (fun c37 => ?_) (fun c37 => ?_)
      · replace h := iT c37 h
        refine r_iload_n C hl 2 dX8_circle_53 rfl rfl ?_
        exact r_iret C hq hW (by obtain rfl := Option.some.inj h; exact ⟨rfl, rfl⟩) dX8_circle_54
      · replace h := iF c37 h
        refine r_aload_n C hl 0 dX8_circle_40 rfl rfl ?_
        refine r_get C hW 0 rfl rfl iwX8 14 (by decide) w_fl_X8_29 rfl dX8_circle_41 ?_
        refine r_iload_n C hl 2 dX8_circle_44 rfl rfl ?_
        obtain ⟨x45, e45, g45, h⟩ := rd_some h
        refine r_iald C hW 7 rfl g45 e45 dX8_circle_45 ?_
        refine r_istore_n (lv' := [(3, .int x45), (0, .ref (ad 0)), (2, .int p2), (4, .int l4)]) C hl dX8_circle_46 rfl (by decide) rfl (fun ls hl => ?_)
        refine r_iinc (j := 3) (v := l4 + (1 : Int32)) (lv' := [(4, .int (l4 + (1 : Int32))), (3, .int x45), (0, .ref (ad 0)), (2, .int p2)]) C hl dX8_circle_47 rfl rfl (by decide) rfl (fun ls hl => ?_)
        refine r_goto (tgt := 34) C dX8_circle_50 (by decide) ?_
        exact ih34 x45 (l4 + (1 : Int32)) H L ls hW (lv_sub hl [2, 3, 1, 0] rfl) h
  unfold fX8_circle at h
  refine r_iload_n C hl 1 dX8_circle_0 rfl rfl ?_
  obtain ⟨r1, h1, h⟩ := bd1_some h
  refine r_S (wr := [(ad 0, .inr (8, [.ref (ad 1), .ref (ad 2), .int v_taped, .int v_fault, .int v_broken, .int v_brokenAt, .int v_spot, .int v_here, .int v_token, .int v_number, .ref (ad 3), .ref (ad 4), .ref (ad 5), .ref (ad 6), .ref (ad 7), .ref (ad 8), .ref (ad 9), .ref (ad 10), .int v_isStarted, .ref (ad 11), .ref (ad 12), .ref (ad 13), .int v_evaluated, .int v_moved, .int v_isChanged, .ref (ad 14), .int v_undoMany, .ref (ad 15), .ref (ad 16), .ref (ad 17), .ref (ad 18), .ref (ad 19), .ref (ad 20), .int v_torn, .int v_isAsideChanged])), (ad 1, .inl (eI X, 720, .inl v_state)), (ad 2, .inl (eI X, 320, .inl v_tape)), (ad 3, .inl (eI X, 9, .inl v_ends)), (ad 4, .inl (eI X, 27, .inl v_letters)), (ad 5, .inl (eI X, 30, .inl v_values)), (ad 6, .inl (eZ X, 30, .inl v_isTold)), (ad 7, .inl (eI X, 30, .inl v_waits)), (ad 8, .inl (eI X, 900, .inl v_readsOf)), (ad 9, .inl (eI X, 30, .inl v_readMany)), (ad 10, .inl (eI X, 30, .inl v_heights)), (ad 11, .inl (eI X, 30, .inl v_oldValues)), (ad 12, .inl (eZ X, 30, .inl v_isOldTold)), (ad 13, .inl (eI X, 30, .inl v_oldReads)), (ad 14, .inl (eI X, 100, .inl v_undos)), (ad 15, .inl (eI X, 103, .inl v_undoAside)), (ad 16, .inl (eI X, 4, .inl v_formula)), (ad 17, .inl (eZ X, 2, .inl v_isKept)), (ad 18, .inl (eI X, 4, .inl v_lanes)), (ad 19, .inl (eI X, 4, .inl v_lengths)), (ad 20, .inl (eI X, 160, .inl v_items))]) (np := 1) C hl (mX8_isCell X    p1 r1 h1) hW [] [0, 1, 2, 3, 4, 5, 6, 7, 8, 9, 10, 11, 12, 13, 14, 15, 16, 17, 18, 19, 20] rfl rfl rfl rfl (by decide) w_cd_X8_isCell w_ml_X8_197 w_st_X8_isCell w_in_HeightSheetModel (by decide +kernel) rfl ⟨Nat.le_of_ble_eq_true rfl, Nat.le_of_ble_eq_true rfl⟩ ⟨Nat.zero_le _, Nat.zero_le _⟩ (Nat.le_of_ble_eq_true rfl) dX8_circle_1 (fun rv w1 H L hp hW => ?_) rfl
  obtain ⟨rfl, rfl⟩ := hp
  replace hW : Wd X k A [(ad 0, .inr (8, [.ref (ad 1), .ref (ad 2), .int v_taped, .int v_fault, .int v_broken, .int v_brokenAt, .int v_spot, .int v_here, .int v_token, .int v_number, .ref (ad 3), .ref (ad 4), .ref (ad 5), .ref (ad 6), .ref (ad 7), .ref (ad 8), .ref (ad 9), .ref (ad 10), .int v_isStarted, .ref (ad 11), .ref (ad 12), .ref (ad 13), .int v_evaluated, .int v_moved, .int v_isChanged, .ref (ad 14), .int v_undoMany, .ref (ad 15), .ref (ad 16), .ref (ad 17), .ref (ad 18), .ref (ad 19), .ref (ad 20), .int v_torn, .int v_isAsideChanged])), (ad 1, .inl (eI X, 720, .inl v_state)), (ad 2, .inl (eI X, 320, .inl v_tape)), (ad 3, .inl (eI X, 9, .inl v_ends)), (ad 4, .inl (eI X, 27, .inl v_letters)), (ad 5, .inl (eI X, 30, .inl v_values)), (ad 6, .inl (eZ X, 30, .inl v_isTold)), (ad 7, .inl (eI X, 30, .inl v_waits)), (ad 8, .inl (eI X, 900, .inl v_readsOf)), (ad 9, .inl (eI X, 30, .inl v_readMany)), (ad 10, .inl (eI X, 30, .inl v_heights)), (ad 11, .inl (eI X, 30, .inl v_oldValues)), (ad 12, .inl (eZ X, 30, .inl v_isOldTold)), (ad 13, .inl (eI X, 30, .inl v_oldReads)), (ad 14, .inl (eI X, 100, .inl v_undos)), (ad 15, .inl (eI X, 103, .inl v_undoAside)), (ad 16, .inl (eI X, 4, .inl v_formula)), (ad 17, .inl (eZ X, 2, .inl v_isKept)), (ad 18, .inl (eI X, 4, .inl v_lanes)), (ad 19, .inl (eI X, 4, .inl v_lengths)), (ad 20, .inl (eI X, 160, .inl v_items))] H L := hW.sub [0, 1, 2, 3, 4, 5, 6, 7, 8, 9, 10, 11, 12, 13, 14, 15, 16, 17, 18, 19, 20] rfl rfl
  show Wx X k 0 0 H L 4 ls [.int r1]
  refine r_if_eq (tgt := 11) C dX8_circle_4 (by decide) (fun c4 => ?_) (fun c4 => ?_)
  · replace h := iT c4 h
    refine r_iconst (v := -1) C dX8_circle_11 (by decide) ?_
    exact r_iret C hq hW (by obtain rfl := Option.some.inj h; exact ⟨rfl, rfl⟩) dX8_circle_12
  · replace h := iF c4 h
    refine r_iload_n C hl 2 dX8_circle_7 rfl rfl ?_
    refine r_if_ge (tgt := 13) C dX8_circle_8 (by decide) (fun c8 => ?_) (fun c8 => ?_)
    · replace h := iT c8 h
      refine r_aload_n C hl 0 dX8_circle_13 rfl rfl ?_
      obtain ⟨c14_values, c14_isTold, c14_waits, c14_readsOf, c14_readMany, c14_heights, c14_isStarted, h14, h⟩ := bd7_some h
      refine r_V (wr := []) (np := 0) C hl (mX8_starts X ad  v_state v_tape v_taped v_fault v_broken v_brokenAt v_spot v_here v_token v_number v_ends v_letters v_values v_isTold v_waits v_readsOf v_readMany v_heights v_isStarted v_oldValues v_isOldTold v_oldReads v_evaluated v_moved v_isChanged v_undos v_undoMany v_undoAside v_formula v_isKept v_lanes v_lengths v_items v_torn v_isAsideChanged  (c14_values, c14_isTold, c14_waits, c14_readsOf, c14_readMany, c14_heights, c14_isStarted) h14) hW [0, 1, 2, 3, 4, 5, 6, 7, 8, 9, 10, 11, 12, 13, 14, 15, 16, 17, 18, 19, 20] [] rfl rfl rfl rfl (by decide) 0 rfl rfl w_cd_X8_starts w_ml_X8_183 w_im_X8_starts w_sel_X8_starts w_in_HeightSheetModel (by decide +kernel) rfl ⟨Nat.le_of_ble_eq_true rfl, Nat.le_of_ble_eq_true rfl⟩ ⟨Nat.zero_le _, Nat.zero_le _⟩ (Nat.le_of_ble_eq_true rfl) dX8_circle_14 (fun rv w1 H L hp hW => ?_) rfl
      obtain ⟨rfl, rfl⟩ := hp
      replace hW : Wd X k A [(ad 0, .inr (8, [.ref (ad 1), .ref (ad 2), .int v_taped, .int v_fault, .int v_broken, .int v_brokenAt, .int v_spot, .int v_here, .int v_token, .int v_number, .ref (ad 3), .ref (ad 4), .ref (ad 5), .ref (ad 6), .ref (ad 7), .ref (ad 8), .ref (ad 9), .ref (ad 10), .int c14_isStarted, .ref (ad 11), .ref (ad 12), .ref (ad 13), .int v_evaluated, .int v_moved, .int v_isChanged, .ref (ad 14), .int v_undoMany, .ref (ad 15), .ref (ad 16), .ref (ad 17), .ref (ad 18), .ref (ad 19), .ref (ad 20), .int v_torn, .int v_isAsideChanged])), (ad 1, .inl (eI X, 720, .inl v_state)), (ad 2, .inl (eI X, 320, .inl v_tape)), (ad 3, .inl (eI X, 9, .inl v_ends)), (ad 4, .inl (eI X, 27, .inl v_letters)), (ad 5, .inl (eI X, 30, .inl c14_values)), (ad 6, .inl (eZ X, 30, .inl c14_isTold)), (ad 7, .inl (eI X, 30, .inl c14_waits)), (ad 8, .inl (eI X, 900, .inl c14_readsOf)), (ad 9, .inl (eI X, 30, .inl c14_readMany)), (ad 10, .inl (eI X, 30, .inl c14_heights)), (ad 11, .inl (eI X, 30, .inl v_oldValues)), (ad 12, .inl (eZ X, 30, .inl v_isOldTold)), (ad 13, .inl (eI X, 30, .inl v_oldReads)), (ad 14, .inl (eI X, 100, .inl v_undos)), (ad 15, .inl (eI X, 103, .inl v_undoAside)), (ad 16, .inl (eI X, 4, .inl v_formula)), (ad 17, .inl (eZ X, 2, .inl v_isKept)), (ad 18, .inl (eI X, 4, .inl v_lanes)), (ad 19, .inl (eI X, 4, .inl v_lengths)), (ad 20, .inl (eI X, 160, .inl v_items))] H L := hW.sub [0, 1, 2, 3, 4, 5, 6, 7, 8, 9, 10, 11, 12, 13, 14, 15, 16, 17, 18, 19, 20] rfl rfl
      show Wx X k 0 0 H L 17 ls []
      refine r_iload_n C hl 2 dX8_circle_17 rfl rfl ?_
      refine r_aload_n C hl 0 dX8_circle_18 rfl rfl ?_
      refine r_iload_n C hl 1 dX8_circle_19 rfl rfl ?_
      obtain ⟨r20, h20, h⟩ := bd1_some h
      refine r_V (wr := []) (np := 1) C hl (mX8_circleOf X ad  v_state v_tape v_taped v_fault v_broken v_brokenAt v_spot v_here v_token v_number v_ends v_letters c14_values c14_isTold c14_waits c14_readsOf c14_readMany c14_heights c14_isStarted v_oldValues v_isOldTold v_oldReads v_evaluated v_moved v_isChanged v_undos v_undoMany v_undoAside v_formula v_isKept v_lanes v_lengths v_items v_torn v_isAsideChanged p1 r20 h20) hW [0, 1, 2, 3, 4, 5, 6, 7, 8, 9, 10, 11, 12, 13, 14, 15, 16, 17, 18, 19, 20] [] rfl rfl rfl rfl (by decide) 0 rfl rfl w_cd_X8_circleOf w_ml_X8_174 w_im_X8_circleOf w_sel_X8_circleOf w_in_HeightSheetModel (by decide +kernel) rfl ⟨Nat.le_of_ble_eq_true rfl, Nat.le_of_ble_eq_true rfl⟩ ⟨Nat.zero_le _, Nat.zero_le _⟩ (Nat.le_of_ble_eq_true rfl) dX8_circle_20 (fun rv w1 H L hp hW => ?_) rfl
      obtain ⟨rfl, rfl⟩ := hp
      replace hW : Wd X k A [(ad 0, .inr (8, [.ref (ad 1), .ref (ad 2), .int v_taped, .int v_fault, .int v_broken, .int v_brokenAt, .int v_spot, .int v_here, .int v_token, .int v_number, .ref (ad 3), .ref (ad 4), .ref (ad 5), .ref (ad 6), .ref (ad 7), .ref (ad 8), .ref (ad 9), .ref (ad 10), .int c14_isStarted, .ref (ad 11), .ref (ad 12), .ref (ad 13), .int v_evaluated, .int v_moved, .int v_isChanged, .ref (ad 14), .int v_undoMany, .ref (ad 15), .ref (ad 16), .ref (ad 17), .ref (ad 18), .ref (ad 19), .ref (ad 20), .int v_torn, .int v_isAsideChanged])), (ad 1, .inl (eI X, 720, .inl v_state)), (ad 2, .inl (eI X, 320, .inl v_tape)), (ad 3, .inl (eI X, 9, .inl v_ends)), (ad 4, .inl (eI X, 27, .inl v_letters)), (ad 5, .inl (eI X, 30, .inl c14_values)), (ad 6, .inl (eZ X, 30, .inl c14_isTold)), (ad 7, .inl (eI X, 30, .inl c14_waits)), (ad 8, .inl (eI X, 900, .inl c14_readsOf)), (ad 9, .inl (eI X, 30, .inl c14_readMany)), (ad 10, .inl (eI X, 30, .inl c14_heights)), (ad 11, .inl (eI X, 30, .inl v_oldValues)), (ad 12, .inl (eZ X, 30, .inl v_isOldTold)), (ad 13, .inl (eI X, 30, .inl v_oldReads)), (ad 14, .inl (eI X, 100, .inl v_undos)), (ad 15, .inl (eI X, 103, .inl v_undoAside)), (ad 16, .inl (eI X, 4, .inl v_formula)), (ad 17, .inl (eZ X, 2, .inl v_isKept)), (ad 18, .inl (eI X, 4, .inl v_lanes)), (ad 19, .inl (eI X, 4, .inl v_lengths)), (ad 20, .inl (eI X, 160, .inl v_items))] H L := hW.sub [0, 1, 2, 3, 4, 5, 6, 7, 8, 9, 10, 11, 12, 13, 14, 15, 16, 17, 18, 19, 20] rfl rfl
      show Wx X k 0 0 H L 23 ls [.int r20, .int p2]
      refine r_icmp_lt (tgt := 29) C dX8_circle_23 (by decide) (fun c23 => ?_) (fun c23 => ?_)
      · replace h := iT c23 h
        refine r_iload_n C hl 1 dX8_circle_29 rfl rfl ?_
        refine r_istore_n (lv' := [(3, .int p1), (0, .ref (ad 0)), (1, .int p1), (2, .int p2)]) C hl dX8_circle_30 rfl (by decide) rfl (fun ls hl => ?_)
        refine r_iconst (v := 0) C dX8_circle_31 (by decide) ?_
        refine r_istore (lv' := [(4, .int (0 : Int32)), (3, .int p1), (0, .ref (ad 0)), (1, .int p1), (2, .int p2)]) C hl dX8_circle_32 (by decide) rfl (fun ls hl => ?_)
        exact K34 c14_values c14_isTold c14_waits c14_readsOf c14_readMany c14_heights c14_isStarted fu p1 (0 : Int32) H L ls hW (lv_sub hl [2, 4, 1, 0] rfl) h
      · replace h := iF c23 h
        refine r_bipush (v := -4) C dX8_circle_26 (by decide) ?_
        exact r_iret C hq hW (by obtain rfl := Option.some.inj h; exact ⟨rfl, rfl⟩) dX8_circle_28
    · replace h := iF c8 h
      refine r_iconst (v := -1) C dX8_circle_11 (by decide) ?_
      exact r_iret C hq hW (by obtain rfl := Option.some.inj h; exact ⟨rfl, rfl⟩) dX8_circle_12
