def fX7_isCell (p0 : Int32) : Option (Int32) :=
  if p0 < (0 : Int32) then
    some (0 : Int32)
  else
    if (30 : Int32) ≤ p0 then
      some (0 : Int32)
    else
      some (1 : Int32)
set_option maxRecDepth 100000 in
set_option maxHeartbeats 8000000 in
theorem mX7_isCell (X : Ev)   (p0 : Int32) (o : Int32) (h : fX7_isCell p0 = some o) : Ctr X yX7_isCell cX7_isCell 1 (some .boolean) 0 0 0 0 [.int p0] [] (De (some (.int o)) []) := by
  refine Ctr.start (by decide) (Nat.le_of_ble_eq_true rfl) (fun k A ls C hq hin hW hl => ?_)
  replace C : Cx X k cX7_isCell 1 (some .boolean) RX7 A 0 0 0 0 := C
  replace hl : lv_has ls 1 [(0, .int p0)] := hl
  suffices hh : ∀ (H : Heap) (L : List Loc), Wd X k A [] H L → Wx X k 0 0 H L 0 ls [] from hh _ _ hW
  clear hW
  intro H L hW
  unfold fX7_isCell at h
  refine r_iload_n C hl 0 dX7_isCell_0 rfl rfl ?_
  refine r_if_lt (tgt := 14) C dX7_isCell_1 (by decide) (fun c1 => ?_) (fun c1 => ?_)
  · replace h := iT c1 h
    refine r_iconst (v := 0) C dX7_isCell_14 (by decide) ?_
    exact r_zret C hq hW (by decide) (by cases h; exact ⟨rfl, rfl⟩) dX7_isCell_15
  · replace h := iF c1 h
    refine r_iload_n C hl 0 dX7_isCell_4 rfl rfl ?_
    refine r_bipush (v := 30) C dX7_isCell_5 (by decide) ?_
    refine r_icmp_ge (tgt := 14) C dX7_isCell_7 (by decide) (fun c7 => ?_) (fun c7 => ?_)
    · replace h := iT c7 h
      refine r_iconst (v := 0) C dX7_isCell_14 (by decide) ?_
      exact r_zret C hq hW (by decide) (by cases h; exact ⟨rfl, rfl⟩) dX7_isCell_15
    · replace h := iF c7 h
      refine r_iconst (v := 1) C dX7_isCell_10 (by decide) ?_
      refine r_goto (tgt := 15) C dX7_isCell_11 (by decide) ?_
      exact r_zret C hq hW (by decide) (by cases h; exact ⟨rfl, rfl⟩) dX7_isCell_15
def fX7_isSpan (p0 : Int32) : Option (Int32) :=
  if p0 = (6 : Int32) then
    some (1 : Int32)
  else
    if p0 = (7 : Int32) then
      some (1 : Int32)
    else
      some (0 : Int32)
set_option maxRecDepth 100000 in
set_option maxHeartbeats 8000000 in
theorem mX7_isSpan (X : Ev)   (p0 : Int32) (o : Int32) (h : fX7_isSpan p0 = some o) : Ctr X yX7_isSpan cX7_isSpan 1 (some .boolean) 0 0 0 0 [.int p0] [] (De (some (.int o)) []) := by
  refine Ctr.start (by decide) (Nat.le_of_ble_eq_true rfl) (fun k A ls C hq hin hW hl => ?_)
  replace C : Cx X k cX7_isSpan 1 (some .boolean) RX7 A 0 0 0 0 := C
  replace hl : lv_has ls 1 [(0, .int p0)] := hl
  suffices hh : ∀ (H : Heap) (L : List Loc), Wd X k A [] H L → Wx X k 0 0 H L 0 ls [] from hh _ _ hW
  clear hW
  intro H L hW
  unfold fX7_isSpan at h
  refine r_iload_n C hl 0 dX7_isSpan_0 rfl rfl ?_
  refine r_bipush (v := 6) C dX7_isSpan_1 (by decide) ?_
  refine r_icmp_eq (tgt := 12) C dX7_isSpan_3 (by decide) (fun c3 => ?_) (fun c3 => ?_)
  · replace h := iT c3 h
    refine r_iconst (v := 1) C dX7_isSpan_12 (by decide) ?_
    refine r_goto (tgt := 17) C dX7_isSpan_13 (by decide) ?_
    exact r_zret C hq hW (by decide) (by cases h; exact ⟨rfl, rfl⟩) dX7_isSpan_17
  · replace h := iF c3 h
    refine r_iload_n C hl 0 dX7_isSpan_6 rfl rfl ?_
    refine r_bipush (v := 7) C dX7_isSpan_7 (by decide) ?_
    refine r_icmp_ne (tgt := 16) C dX7_isSpan_9 (by decide) (fun c9 => ?_) (fun c9 => ?_)
    · replace h := iF c9 h
      refine r_iconst (v := 0) C dX7_isSpan_16 (by decide) ?_
      exact r_zret C hq hW (by decide) (by cases h; exact ⟨rfl, rfl⟩) dX7_isSpan_17
    · replace h := iT c9 h
      refine r_iconst (v := 1) C dX7_isSpan_12 (by decide) ?_
      refine r_goto (tgt := 17) C dX7_isSpan_13 (by decide) ?_
      exact r_zret C hq hW (by decide) (by cases h; exact ⟨rfl, rfl⟩) dX7_isSpan_17
def fX7_bit (p0 : Int32) : Option (Int32) :=
  some ((1 : Int32) <<< (p0 &&& 31))
set_option maxRecDepth 100000 in
set_option maxHeartbeats 8000000 in
theorem mX7_bit (X : Ev)   (p0 : Int32) (o : Int32) (h : fX7_bit p0 = some o) : Ctr X yX7_bit cX7_bit 1 (some .int) 0 0 0 0 [.int p0] [] (De (some (.int o)) []) := by
  refine Ctr.start (by decide) (Nat.le_of_ble_eq_true rfl) (fun k A ls C hq hin hW hl => ?_)
  replace C : Cx X k cX7_bit 1 (some .int) RX7 A 0 0 0 0 := C
  replace hl : lv_has ls 1 [(0, .int p0)] := hl
  suffices hh : ∀ (H : Heap) (L : List Loc), Wd X k A [] H L → Wx X k 0 0 H L 0 ls [] from hh _ _ hW
  clear hW
  intro H L hW
  unfold fX7_bit at h
  refine r_iconst (v := 1) C dX7_bit_0 (by decide) ?_
  refine r_iload_n C hl 0 dX7_bit_1 rfl rfl ?_
  refine r_ishl C dX7_bit_2 ?_
  exact r_iret C hq hW (by cases h; exact ⟨rfl, rfl⟩) dX7_bit_3
def fX7_has (p0 : Int32) (p1 : Int32) : Option (Int32) :=
  if (((p0.toUInt32 >>> (p1.toUInt32 &&& Int32.toUInt32 31)).toInt32) &&& (1 : Int32)) = (0 : Int32) then
    some (0 : Int32)
  else
    some (1 : Int32)
set_option maxRecDepth 100000 in
set_option maxHeartbeats 8000000 in
theorem mX7_has (X : Ev)   (p0 : Int32) (p1 : Int32) (o : Int32) (h : fX7_has p0 p1 = some o) : Ctr X yX7_has cX7_has 2 (some .boolean) 0 0 0 0 [.int p0, .int p1] [] (De (some (.int o)) []) := by
  refine Ctr.start (by decide) (Nat.le_of_ble_eq_true rfl) (fun k A ls C hq hin hW hl => ?_)
  replace C : Cx X k cX7_has 2 (some .boolean) RX7 A 0 0 0 0 := C
  replace hl : lv_has ls 2 [(0, .int p0), (1, .int p1)] := hl
  suffices hh : ∀ (H : Heap) (L : List Loc), Wd X k A [] H L → Wx X k 0 0 H L 0 ls [] from hh _ _ hW
  clear hW
  intro H L hW
  unfold fX7_has at h
  refine r_iload_n C hl 0 dX7_has_0 rfl rfl ?_
  refine r_iload_n C hl 1 dX7_has_1 rfl rfl ?_
  refine r_iushr C dX7_has_2 ?_
  refine r_iconst (v := 1) C dX7_has_3 (by decide) ?_
  refine r_iand C dX7_has_4 ?_
  refine r_if_eq (tgt := 12) C dX7_has_5 (by decide) (fun c5 => ?_) (fun c5 => ?_)
  · replace h := iT c5 h
    refine r_iconst (v := 0) C dX7_has_12 (by decide) ?_
    exact r_zret C hq hW (by decide) (by cases h; exact ⟨rfl, rfl⟩) dX7_has_13
  · replace h := iF c5 h
    refine r_iconst (v := 1) C dX7_has_8 (by decide) ?_
    refine r_goto (tgt := 13) C dX7_has_9 (by decide) ?_
    exact r_zret C hq hW (by decide) (by cases h; exact ⟨rfl, rfl⟩) dX7_has_13
def fX3_settle (v_values : (Nat → Int32)) (v_waitsFor : (Nat → Int32)) (v_known : Int32) (p1 : Int32) (p2 : Int32) : Option ((Nat → Int32) × (Nat → Int32) × Int32) :=
  wr v_values 30 p1 p2 fun w6 =>
  bd1 (fX7_bit p1) fun r13 =>
  wr v_waitsFor 30 p1 (-4 : Int32) fun w27 =>
  some (w6, w27, v_known ||| r13)
set_option maxRecDepth 100000 in
set_option maxHeartbeats 8000000 in
theorem mX3_settle (X : Ev) (ad : Nat → Nat) (v_values : (Nat → Int32)) (v_heights : (Nat → Int32)) (v_readBits : (Nat → Int32)) (v_waitsFor : (Nat → Int32)) (v_known : Int32) (v_circular : Int32) (v_circles : Int32) (p1 : Int32) (p2 : Int32) (o : (Nat → Int32) × (Nat → Int32) × Int32) (h : fX3_settle v_values v_waitsFor v_known p1 p2 = some o) : Ctr X yX3_settle cX3_settle 3 none 1 20 0 0 [.ref (ad 0), .int p1, .int p2] [(ad 0, .inr (3, [.ref (ad 1), .ref (ad 2), .ref (ad 3), .ref (ad 4), .int v_known, .int v_circular, .int v_circles])), (ad 1, .inl (eI X, 30, .inl v_values)), (ad 2, .inl (eI X, 30, .inl v_heights)), (ad 3, .inl (eI X, 30, .inl v_readBits)), (ad 4, .inl (eI X, 30, .inl v_waitsFor))] (De none [(ad 0, .inr (3, [.ref (ad 1), .ref (ad 2), .ref (ad 3), .ref (ad 4), .int (o.2.2), .int v_circular, .int v_circles])), (ad 1, .inl (eI X, 30, .inl (o.1))), (ad 2, .inl (eI X, 30, .inl v_heights)), (ad 3, .inl (eI X, 30, .inl v_readBits)), (ad 4, .inl (eI X, 30, .inl (o.2.1)))]) := by
  refine Ctr.start (by decide) (Nat.le_of_ble_eq_true rfl) (fun k A ls C hq hin hW hl => ?_)
  replace C : Cx X k cX3_settle 3 none RX3 A 1 20 0 0 := C
  replace hl : lv_has ls 3 [(0, .ref (ad 0)), (1, .int p1), (2, .int p2)] := hl
  suffices hh : ∀ (H : Heap) (L : List Loc), Wd X k A [(ad 0, .inr (3, [.ref (ad 1), .ref (ad 2), .ref (ad 3), .ref (ad 4), .int v_known, .int v_circular, .int v_circles])), (ad 1, .inl (eI X, 30, .inl v_values)), (ad 2, .inl (eI X, 30, .inl v_heights)), (ad 3, .inl (eI X, 30, .inl v_readBits)), (ad 4, .inl (eI X, 30, .inl v_waitsFor))] H L → Wx X k 0 0 H L 0 ls [] from hh _ _ hW
  clear hW
  intro H L hW
  unfold fX3_settle at h
  refine r_aload_n C hl 0 dX3_settle_0 rfl rfl ?_
  refine r_get C hW 0 rfl rfl iwX3 0 (by decide) w_fl_X3_9 rfl dX3_settle_1 ?_
  refine r_iload_n C hl 1 dX3_settle_4 rfl rfl ?_
  refine r_iload_n C hl 2 dX3_settle_5 rfl rfl ?_
  obtain ⟨w6, e6, g6, h⟩ := wr_some h
  refine r_iast (ws' := [(ad 0, .inr (3, [.ref (ad 1), .ref (ad 2), .ref (ad 3), .ref (ad 4), .int v_known, .int v_circular, .int v_circles])), (ad 1, .inl (eI X, 30, .inl w6)), (ad 2, .inl (eI X, 30, .inl v_heights)), (ad 3, .inl (eI X, 30, .inl v_readBits)), (ad 4, .inl (eI X, 30, .inl v_waitsFor))]) C hW 1 rfl g6 e6 rfl dX3_settle_6 (fun H L hW => ?_)
  refine r_aload_n C hl 0 dX3_settle_7 rfl rfl ?_
  refine r_dup C rfl dX3_settle_8 ?_
  refine r_get C hW 0 rfl rfl iwX3 4 (by decide) w_fl_X3_30 rfl dX3_settle_9 ?_
  refine r_iload_n C hl 1 dX3_settle_12 rfl rfl ?_
  obtain ⟨r13, h13, h⟩ := bd1_some h
  refine r_SN (wr := [(ad 0, .inr (3, [.ref (ad 1), .ref (ad 2), .ref (ad 3), .ref (ad 4), .int v_known, .int v_circular, .int v_circles])), (ad 1, .inl (eI X, 30, .inl w6)), (ad 2, .inl (eI X, 30, .inl v_heights)), (ad 3, .inl (eI X, 30, .inl v_readBits)), (ad 4, .inl (eI X, 30, .inl v_waitsFor))]) C hl (mX7_bit X    p1 r13 h13) hW [] [0, 1, 2, 3, 4] rfl rfl rfl rfl (by decide) w_cd_X7_bit w_st_X7_bit w_in_HeightSheet 11 rfl (by decide +kernel) rfl ⟨Nat.le_of_ble_eq_true rfl, Nat.le_of_ble_eq_true rfl⟩ ⟨Nat.zero_le _, Nat.zero_le _⟩ (Nat.le_of_ble_eq_true rfl) dX3_settle_13 (fun rv w1 H L hp hW => ?_) rfl
  obtain ⟨rfl, rfl⟩ := hp
  replace hW : Wd X k A [(ad 0, .inr (3, [.ref (ad 1), .ref (ad 2), .ref (ad 3), .ref (ad 4), .int v_known, .int v_circular, .int v_circles])), (ad 1, .inl (eI X, 30, .inl w6)), (ad 2, .inl (eI X, 30, .inl v_heights)), (ad 3, .inl (eI X, 30, .inl v_readBits)), (ad 4, .inl (eI X, 30, .inl v_waitsFor))] H L := hW.sub [0, 1, 2, 3, 4] rfl rfl
  show Wx X k 0 0 H L 16 ls [.int r13, .int v_known, .ref (ad 0)]
  refine r_ior C dX3_settle_16 ?_
  refine r_put (ws' := [(ad 0, .inr (3, [.ref (ad 1), .ref (ad 2), .ref (ad 3), .ref (ad 4), .int (v_known ||| r13), .int v_circular, .int v_circles])), (ad 1, .inl (eI X, 30, .inl w6)), (ad 2, .inl (eI X, 30, .inl v_heights)), (ad 3, .inl (eI X, 30, .inl v_readBits)), (ad 4, .inl (eI X, 30, .inl v_waitsFor))]) C hW 0 rfl rfl iwX3 tyX3_ok nmX3 4 (by decide) w_fl_X3_30 rfl (tyX3_ok 4 (by decide)) rfl rfl (Nat.le_of_ble_eq_true rfl) rfl dX3_settle_17 (fun H L hW => ?_)
  refine r_aload_n C hl 0 dX3_settle_20 rfl rfl ?_
  refine r_get C hW 0 rfl rfl iwX3 3 (by decide) w_fl_X3_21 rfl dX3_settle_21 ?_
  refine r_iload_n C hl 1 dX3_settle_24 rfl rfl ?_
  refine r_bipush (v := -4) C dX3_settle_25 (by decide) ?_
  obtain ⟨w27, e27, g27, h⟩ := wr_some h
  refine r_iast (ws' := [(ad 0, .inr (3, [.ref (ad 1), .ref (ad 2), .ref (ad 3), .ref (ad 4), .int (v_known ||| r13), .int v_circular, .int v_circles])), (ad 1, .inl (eI X, 30, .inl w6)), (ad 2, .inl (eI X, 30, .inl v_heights)), (ad 3, .inl (eI X, 30, .inl v_readBits)), (ad 4, .inl (eI X, 30, .inl w27))]) C hW 4 rfl g27 e27 rfl dX3_settle_27 (fun H L hW => ?_)
  exact r_vret C hq hW (by cases h; exact ⟨rfl, rfl⟩) dX3_settle_28
def fX3_takes (v_heights : (Nat → Int32)) (v_readBits : (Nat → Int32)) (v_waitsFor : (Nat → Int32)) (v_known : Int32) (p1 : Int32) (p2 : Int32) : Option (Int32 × (Nat → Int32) × (Nat → Int32) × (Nat → Int32)) :=
  rd v_readBits 30 p1 fun x6 =>
  bd1 (fX7_bit p2) fun r8 =>
  wr v_readBits 30 p1 (x6 ||| r8) fun w12 =>
  bd1 (fX7_has v_known p2) fun r18 =>
  if r18 = (0 : Int32) then
    wr v_waitsFor 30 p1 p2 fun w30 =>
    some ((0 : Int32), v_heights, w12, w30)
  else
    rd v_heights 30 p1 fun x43 =>
    rd v_heights 30 p2 fun x49 =>
    wr v_heights 30 p1 (if x43 < (x49 + (1 : Int32)) then (x49 + (1 : Int32)) else x43) fun w55 =>
    some ((1 : Int32), w55, w12, v_waitsFor)
set_option maxRecDepth 100000 in
set_option maxHeartbeats 8000000 in
theorem mX3_takes (X : Ev) (ad : Nat → Nat) (v_values : (Nat → Int32)) (v_heights : (Nat → Int32)) (v_readBits : (Nat → Int32)) (v_waitsFor : (Nat → Int32)) (v_known : Int32) (v_circular : Int32) (v_circles : Int32) (p1 : Int32) (p2 : Int32) (o : Int32 × (Nat → Int32) × (Nat → Int32) × (Nat → Int32)) (h : fX3_takes v_heights v_readBits v_waitsFor v_known p1 p2 = some o) : Ctr X yX3_takes cX3_takes 3 (some .boolean) 1 23 0 0 [.ref (ad 0), .int p1, .int p2] [(ad 0, .inr (3, [.ref (ad 1), .ref (ad 2), .ref (ad 3), .ref (ad 4), .int v_known, .int v_circular, .int v_circles])), (ad 1, .inl (eI X, 30, .inl v_values)), (ad 2, .inl (eI X, 30, .inl v_heights)), (ad 3, .inl (eI X, 30, .inl v_readBits)), (ad 4, .inl (eI X, 30, .inl v_waitsFor))] (De (some (.int o.1)) [(ad 0, .inr (3, [.ref (ad 1), .ref (ad 2), .ref (ad 3), .ref (ad 4), .int v_known, .int v_circular, .int v_circles])), (ad 1, .inl (eI X, 30, .inl v_values)), (ad 2, .inl (eI X, 30, .inl (o.2.1))), (ad 3, .inl (eI X, 30, .inl (o.2.2.1))), (ad 4, .inl (eI X, 30, .inl (o.2.2.2)))]) := by
  refine Ctr.start (by decide) (Nat.le_of_ble_eq_true rfl) (fun k A ls C hq hin hW hl => ?_)
  replace C : Cx X k cX3_takes 3 (some .boolean) RX3 A 1 23 0 0 := C
  replace hl : lv_has ls 3 [(0, .ref (ad 0)), (1, .int p1), (2, .int p2)] := hl
  suffices hh : ∀ (H : Heap) (L : List Loc), Wd X k A [(ad 0, .inr (3, [.ref (ad 1), .ref (ad 2), .ref (ad 3), .ref (ad 4), .int v_known, .int v_circular, .int v_circles])), (ad 1, .inl (eI X, 30, .inl v_values)), (ad 2, .inl (eI X, 30, .inl v_heights)), (ad 3, .inl (eI X, 30, .inl v_readBits)), (ad 4, .inl (eI X, 30, .inl v_waitsFor))] H L → Wx X k 0 0 H L 0 ls [] from hh _ _ hW
  clear hW
  intro H L hW
  unfold fX3_takes at h
  refine r_aload_n C hl 0 dX3_takes_0 rfl rfl ?_
  refine r_get C hW 0 rfl rfl iwX3 2 (by decide) w_fl_X3_18 rfl dX3_takes_1 ?_
  refine r_iload_n C hl 1 dX3_takes_4 rfl rfl ?_
  refine r_dup2 C rfl rfl dX3_takes_5 ?_
  obtain ⟨x6, e6, g6, h⟩ := rd_some h
  refine r_iald C hW 3 rfl g6 e6 dX3_takes_6 ?_
  refine r_iload_n C hl 2 dX3_takes_7 rfl rfl ?_
  obtain ⟨r8, h8, h⟩ := bd1_some h
  refine r_SN (wr := [(ad 0, .inr (3, [.ref (ad 1), .ref (ad 2), .ref (ad 3), .ref (ad 4), .int v_known, .int v_circular, .int v_circles])), (ad 1, .inl (eI X, 30, .inl v_values)), (ad 2, .inl (eI X, 30, .inl v_heights)), (ad 3, .inl (eI X, 30, .inl v_readBits)), (ad 4, .inl (eI X, 30, .inl v_waitsFor))]) C hl (mX7_bit X    p2 r8 h8) hW [] [0, 1, 2, 3, 4] rfl rfl rfl rfl (by decide) w_cd_X7_bit w_st_X7_bit w_in_HeightSheet 11 rfl (by decide +kernel) rfl ⟨Nat.le_of_ble_eq_true rfl, Nat.le_of_ble_eq_true rfl⟩ ⟨Nat.zero_le _, Nat.zero_le _⟩ (Nat.le_of_ble_eq_true rfl) dX3_takes_8 (fun rv w1 H L hp hW => ?_) rfl
  obtain ⟨rfl, rfl⟩ := hp
  replace hW : Wd X k A [(ad 0, .inr (3, [.ref (ad 1), .ref (ad 2), .ref (ad 3), .ref (ad 4), .int v_known, .int v_circular, .int v_circles])), (ad 1, .inl (eI X, 30, .inl v_values)), (ad 2, .inl (eI X, 30, .inl v_heights)), (ad 3, .inl (eI X, 30, .inl v_readBits)), (ad 4, .inl (eI X, 30, .inl v_waitsFor))] H L := hW.sub [0, 1, 2, 3, 4] rfl rfl
  show Wx X k 0 0 H L 11 ls [.int r8, .int x6, .int p1, .ref (ad 3)]
  refine r_ior C dX3_takes_11 ?_
  obtain ⟨w12, e12, g12, h⟩ := wr_some h
  refine r_iast (ws' := [(ad 0, .inr (3, [.ref (ad 1), .ref (ad 2), .ref (ad 3), .ref (ad 4), .int v_known, .int v_circular, .int v_circles])), (ad 1, .inl (eI X, 30, .inl v_values)), (ad 2, .inl (eI X, 30, .inl v_heights)), (ad 3, .inl (eI X, 30, .inl w12)), (ad 4, .inl (eI X, 30, .inl v_waitsFor))]) C hW 3 rfl g12 e12 rfl dX3_takes_12 (fun H L hW => ?_)
  refine r_aload_n C hl 0 dX3_takes_13 rfl rfl ?_
  refine r_get C hW 0 rfl rfl iwX3 4 (by decide) w_fl_X3_30 rfl dX3_takes_14 ?_
  refine r_iload_n C hl 2 dX3_takes_17 rfl rfl ?_
  obtain ⟨r18, h18, h⟩ := bd1_some h
  refine r_SN (wr := [(ad 0, .inr (3, [.ref (ad 1), .ref (ad 2), .ref (ad 3), .ref (ad 4), .int v_known, .int v_circular, .int v_circles])), (ad 1, .inl (eI X, 30, .inl v_values)), (ad 2, .inl (eI X, 30, .inl v_heights)), (ad 3, .inl (eI X, 30, .inl w12)), (ad 4, .inl (eI X, 30, .inl v_waitsFor))]) C hl (mX7_has X    v_known p2 r18 h18) hW [] [0, 1, 2, 3, 4] rfl rfl rfl rfl (by decide) w_cd_X7_has w_st_X7_has w_in_HeightSheet 9 rfl (by decide +kernel) rfl ⟨Nat.le_of_ble_eq_true rfl, Nat.le_of_ble_eq_true rfl⟩ ⟨Nat.zero_le _, Nat.zero_le _⟩ (Nat.le_of_ble_eq_true rfl) dX3_takes_18 (fun rv w1 H L hp hW => ?_) rfl
  obtain ⟨rfl, rfl⟩ := hp
  replace hW : Wd X k A [(ad 0, .inr (3, [.ref (ad 1), .ref (ad 2), .ref (ad 3), .ref (ad 4), .int v_known, .int v_circular, .int v_circles])), (ad 1, .inl (eI X, 30, .inl v_values)), (ad 2, .inl (eI X, 30, .inl v_heights)), (ad 3, .inl (eI X, 30, .inl w12)), (ad 4, .inl (eI X, 30, .inl v_waitsFor))] H L := hW.sub [0, 1, 2, 3, 4] rfl rfl
  show Wx X k 0 0 H L 21 ls [.int r18]
  refine r_if_ne (tgt := 33) C dX3_takes_21 (by decide) (fun c21 => ?_) (fun c21 => ?_)
  · replace h := iF c21 h
    refine r_aload_n C hl 0 dX3_takes_33 rfl rfl ?_
    refine r_get C hW 0 rfl rfl iwX3 1 (by decide) w_fl_X3_15 rfl dX3_takes_34 ?_
    refine r_iload_n C hl 1 dX3_takes_37 rfl rfl ?_
    refine r_aload_n C hl 0 dX3_takes_38 rfl rfl ?_
    refine r_get C hW 0 rfl rfl iwX3 1 (by decide) w_fl_X3_15 rfl dX3_takes_39 ?_
    refine r_iload_n C hl 1 dX3_takes_42 rfl rfl ?_
    obtain ⟨x43, e43, g43, h⟩ := rd_some h
    refine r_iald C hW 2 rfl g43 e43 dX3_takes_43 ?_
    refine r_aload_n C hl 0 dX3_takes_44 rfl rfl ?_
    refine r_get C hW 0 rfl rfl iwX3 1 (by decide) w_fl_X3_15 rfl dX3_takes_45 ?_
    refine r_iload_n C hl 2 dX3_takes_48 rfl rfl ?_
    obtain ⟨x49, e49, g49, h⟩ := rd_some h
    refine r_iald C hW 2 rfl g49 e49 dX3_takes_49 ?_
    refine r_iconst (v := 1) C dX3_takes_50 (by decide) ?_
    refine r_iadd C dX3_takes_51 ?_
    refine r_max C hl w_ml_X3_76 (Nat.le_of_ble_eq_true rfl) (Nat.le_of_ble_eq_true rfl) (Nat.zero_le _) (Nat.zero_le _) dX3_takes_52 ?_
    obtain ⟨w55, e55, g55, h⟩ := wr_some h
    refine r_iast (ws' := [(ad 0, .inr (3, [.ref (ad 1), .ref (ad 2), .ref (ad 3), .ref (ad 4), .int v_known, .int v_circular, .int v_circles])), (ad 1, .inl (eI X, 30, .inl v_values)), (ad 2, .inl (eI X, 30, .inl w55)), (ad 3, .inl (eI X, 30, .inl w12)), (ad 4, .inl (eI X, 30, .inl v_waitsFor))]) C hW 2 rfl g55 e55 rfl dX3_takes_55 (fun H L hW => ?_)
    refine r_iconst (v := 1) C dX3_takes_56 (by decide) ?_
    exact r_zret C hq hW (by decide) (by cases h; exact ⟨rfl, rfl⟩) dX3_takes_57
  · replace h := iT c21 h
    refine r_aload_n C hl 0 dX3_takes_24 rfl rfl ?_
    refine r_get C hW 0 rfl rfl iwX3 3 (by decide) w_fl_X3_21 rfl dX3_takes_25 ?_
    refine r_iload_n C hl 1 dX3_takes_28 rfl rfl ?_
    refine r_iload_n C hl 2 dX3_takes_29 rfl rfl ?_
    obtain ⟨w30, e30, g30, h⟩ := wr_some h
    refine r_iast (ws' := [(ad 0, .inr (3, [.ref (ad 1), .ref (ad 2), .ref (ad 3), .ref (ad 4), .int v_known, .int v_circular, .int v_circles])), (ad 1, .inl (eI X, 30, .inl v_values)), (ad 2, .inl (eI X, 30, .inl v_heights)), (ad 3, .inl (eI X, 30, .inl w12)), (ad 4, .inl (eI X, 30, .inl w30))]) C hW 4 rfl g30 e30 rfl dX3_takes_30 (fun H L hW => ?_)
    refine r_iconst (v := 0) C dX3_takes_31 (by decide) ?_
    exact r_zret C hq hW (by decide) (by cases h; exact ⟨rfl, rfl⟩) dX3_takes_32
def fX3_settleAs (v_values : (Nat → Int32)) (v_heights : (Nat → Int32)) (v_readBits : (Nat → Int32)) (v_waitsFor : (Nat → Int32)) (v_known : Int32) (p1 : Int32) (p2 : Int32) : Option ((Nat → Int32) × (Nat → Int32) × (Nat → Int32) × (Nat → Int32) × Int32) :=
  bd4 (fX3_takes v_heights v_readBits v_waitsFor v_known p1 p2) fun r3 c3_heights c3_readBits c3_waitsFor =>
  if r3 = (0 : Int32) then
    some (v_values, c3_heights, c3_readBits, c3_waitsFor, v_known)
  else
    rd v_values 30 p2 fun x16 =>
    bd3 (fX3_settle v_values c3_waitsFor v_known p1 x16) fun c17_values c17_waitsFor c17_known =>
    some (c17_values, c3_heights, c3_readBits, c17_waitsFor, c17_known)
set_option maxRecDepth 100000 in
set_option maxHeartbeats 8000000 in
theorem mX3_settleAs (X : Ev) (ad : Nat → Nat) (v_values : (Nat → Int32)) (v_heights : (Nat → Int32)) (v_readBits : (Nat → Int32)) (v_waitsFor : (Nat → Int32)) (v_known : Int32) (v_circular : Int32) (v_circles : Int32) (p1 : Int32) (p2 : Int32) (o : (Nat → Int32) × (Nat → Int32) × (Nat → Int32) × (Nat → Int32) × Int32) (h : fX3_settleAs v_values v_heights v_readBits v_waitsFor v_known p1 p2 = some o) : Ctr X yX3_settleAs cX3_settleAs 3 none 2 45 0 0 [.ref (ad 0), .int p1, .int p2] [(ad 0, .inr (3, [.ref (ad 1), .ref (ad 2), .ref (ad 3), .ref (ad 4), .int v_known, .int v_circular, .int v_circles])), (ad 1, .inl (eI X, 30, .inl v_values)), (ad 2, .inl (eI X, 30, .inl v_heights)), (ad 3, .inl (eI X, 30, .inl v_readBits)), (ad 4, .inl (eI X, 30, .inl v_waitsFor))] (De none [(ad 0, .inr (3, [.ref (ad 1), .ref (ad 2), .ref (ad 3), .ref (ad 4), .int (o.2.2.2.2), .int v_circular, .int v_circles])), (ad 1, .inl (eI X, 30, .inl (o.1))), (ad 2, .inl (eI X, 30, .inl (o.2.1))), (ad 3, .inl (eI X, 30, .inl (o.2.2.1))), (ad 4, .inl (eI X, 30, .inl (o.2.2.2.1)))]) := by
  refine Ctr.start (by decide) (Nat.le_of_ble_eq_true rfl) (fun k A ls C hq hin hW hl => ?_)
  replace C : Cx X k cX3_settleAs 3 none RX3 A 2 45 0 0 := C
  replace hl : lv_has ls 3 [(0, .ref (ad 0)), (1, .int p1), (2, .int p2)] := hl
  suffices hh : ∀ (H : Heap) (L : List Loc), Wd X k A [(ad 0, .inr (3, [.ref (ad 1), .ref (ad 2), .ref (ad 3), .ref (ad 4), .int v_known, .int v_circular, .int v_circles])), (ad 1, .inl (eI X, 30, .inl v_values)), (ad 2, .inl (eI X, 30, .inl v_heights)), (ad 3, .inl (eI X, 30, .inl v_readBits)), (ad 4, .inl (eI X, 30, .inl v_waitsFor))] H L → Wx X k 0 0 H L 0 ls [] from hh _ _ hW
  clear hW
  intro H L hW
  unfold fX3_settleAs at h
  refine r_aload_n C hl 0 dX3_settleAs_0 rfl rfl ?_
  refine r_iload_n C hl 1 dX3_settleAs_1 rfl rfl ?_
  refine r_iload_n C hl 2 dX3_settleAs_2 rfl rfl ?_
  obtain ⟨r3, c3_heights, c3_readBits, c3_waitsFor, h3, h⟩ := bd4_some h
  refine r_V (wr := []) C hl (mX3_takes X ad  v_values v_heights v_readBits v_waitsFor v_known v_circular v_circles p1 p2 (r3, c3_heights, c3_readBits, c3_waitsFor) h3) hW [0, 1, 2, 3, 4] [] rfl rfl rfl rfl (by decide) 0 rfl rfl w_cd_X3_takes w_ml_X3_55 w_im_X3_takes w_sel_X3_takes w_in_HeightSheet_Reckoning (by decide +kernel) rfl ⟨Nat.le_of_ble_eq_true rfl, Nat.le_of_ble_eq_true rfl⟩ ⟨Nat.zero_le _, Nat.zero_le _⟩ (Nat.le_of_ble_eq_true rfl) dX3_settleAs_3 (fun rv w1 H L hp hW => ?_) rfl
  obtain ⟨rfl, rfl⟩ := hp
  replace hW : Wd X k A [(ad 0, .inr (3, [.ref (ad 1), .ref (ad 2), .ref (ad 3), .ref (ad 4), .int v_known, .int v_circular, .int v_circles])), (ad 1, .inl (eI X, 30, .inl v_values)), (ad 2, .inl (eI X, 30, .inl c3_heights)), (ad 3, .inl (eI X, 30, .inl c3_readBits)), (ad 4, .inl (eI X, 30, .inl c3_waitsFor))] H L := hW.sub [0, 1, 2, 3, 4] rfl rfl
  show Wx X k 0 0 H L 6 ls [.int r3]
  refine r_if_eq (tgt := 20) C dX3_settleAs_6 (by decide) (fun c6 => ?_) (fun c6 => ?_)
  · replace h := iT c6 h
    exact r_vret C hq hW (by cases h; exact ⟨rfl, rfl⟩) dX3_settleAs_20
  · replace h := iF c6 h
    refine r_aload_n C hl 0 dX3_settleAs_9 rfl rfl ?_
    refine r_iload_n C hl 1 dX3_settleAs_10 rfl rfl ?_
    refine r_aload_n C hl 0 dX3_settleAs_11 rfl rfl ?_
    refine r_get C hW 0 rfl rfl iwX3 0 (by decide) w_fl_X3_9 rfl dX3_settleAs_12 ?_
    refine r_iload_n C hl 2 dX3_settleAs_15 rfl rfl ?_
    obtain ⟨x16, e16, g16, h⟩ := rd_some h
    refine r_iald C hW 1 rfl g16 e16 dX3_settleAs_16 ?_
    obtain ⟨c17_values, c17_waitsFor, c17_known, h17, h⟩ := bd3_some h
    refine r_V (wr := []) C hl (mX3_settle X ad  v_values c3_heights c3_readBits c3_waitsFor v_known v_circular v_circles p1 x16 (c17_values, c17_waitsFor, c17_known) h17) hW [0, 1, 2, 3, 4] [] rfl rfl rfl rfl (by decide) 0 rfl rfl w_cd_X3_settle w_ml_X3_51 w_im_X3_settle w_sel_X3_settle w_in_HeightSheet_Reckoning (by decide +kernel) rfl ⟨Nat.le_of_ble_eq_true rfl, Nat.le_of_ble_eq_true rfl⟩ ⟨Nat.zero_le _, Nat.zero_le _⟩ (Nat.le_of_ble_eq_true rfl) dX3_settleAs_17 (fun rv w1 H L hp hW => ?_) rfl
    obtain ⟨rfl, rfl⟩ := hp
    replace hW : Wd X k A [(ad 0, .inr (3, [.ref (ad 1), .ref (ad 2), .ref (ad 3), .ref (ad 4), .int c17_known, .int v_circular, .int v_circles])), (ad 1, .inl (eI X, 30, .inl c17_values)), (ad 2, .inl (eI X, 30, .inl c3_heights)), (ad 3, .inl (eI X, 30, .inl c3_readBits)), (ad 4, .inl (eI X, 30, .inl c17_waitsFor))] H L := hW.sub [0, 1, 2, 3, 4] rfl rfl
    show Wx X k 0 0 H L 20 ls []
    exact r_vret C hq hW (by cases h; exact ⟨rfl, rfl⟩) dX3_settleAs_20
