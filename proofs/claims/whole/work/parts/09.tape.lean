def fX5_append (v_bytes : (Nat → Int32)) (v_size : Int32) (p1 : Int32) : Option ((Nat → Int32) × Int32) :=
  if (320 : Int32) ≤ v_size then
    some (v_bytes, v_size)
  else
    wr v_bytes 320 v_size (vp_nar .byte (p1.toInt8.toInt32)) fun w20 =>
    some (w20, v_size + (1 : Int32))
set_option maxRecDepth 100000 in
set_option maxHeartbeats 8000000 in
theorem mX5_append (X : Ev) (ad : Nat → Nat) (v_bytes : (Nat → Int32)) (v_size : Int32) (v_at : Int32) (v_start : Int32) (v_token : Int32) (v_number : Int32) (p1 : Int32) (o : (Nat → Int32) × Int32) (h : fX5_append v_bytes v_size p1 = some o) : Ctr X yX5_append cX5_append 2 none 0 0 0 0 [.ref (ad 0), .int p1] [(ad 0, .inr (5, [.ref (ad 1), .int v_size, .int v_at, .int v_start, .int v_token, .int v_number])), (ad 1, .inl (eB X, 320, .inl v_bytes))] (De none [(ad 0, .inr (5, [.ref (ad 1), .int (o.2), .int v_at, .int v_start, .int v_token, .int v_number])), (ad 1, .inl (eB X, 320, .inl (o.1)))]) := by
  refine Ctr.start (by decide) (Nat.le_of_ble_eq_true rfl) (fun k A ls C hq hin hW hl => ?_)
  replace C : Cx X k cX5_append 2 none RX5 A 0 0 0 0 := C
  replace hl : lv_has ls 2 [(0, .ref (ad 0)), (1, .int p1)] := hl
  suffices hh : ∀ (H : Heap) (L : List Loc), Wd X k A [(ad 0, .inr (5, [.ref (ad 1), .int v_size, .int v_at, .int v_start, .int v_token, .int v_number])), (ad 1, .inl (eB X, 320, .inl v_bytes))] H L → Wx X k 0 0 H L 0 ls [] from hh _ _ hW
  clear hW
  intro H L hW
  unfold fX5_append at h
  refine r_aload_n C hl 0 dX5_append_0 rfl rfl ?_
  refine r_get C hW 0 rfl rfl iwX5 1 (by decide) w_fl_X5_15 rfl dX5_append_1 ?_
  refine r_sipush (v := 320) C dX5_append_4 (by decide) ?_
  refine r_icmp_ge (tgt := 31) C dX5_append_7 (by decide) (fun c7 => ?_) (fun c7 => ?_)
  · replace h := iT c7 h
    exact r_vret C hq hW (by obtain rfl := Option.some.inj h; exact ⟨rfl, rfl⟩) dX5_append_31
  · replace h := iF c7 h
    refine r_aload_n C hl 0 dX5_append_10 rfl rfl ?_
    refine r_get C hW 0 rfl rfl iwX5 0 (by decide) w_fl_X5_9 rfl dX5_append_11 ?_
    refine r_aload_n C hl 0 dX5_append_14 rfl rfl ?_
    refine r_get C hW 0 rfl rfl iwX5 1 (by decide) w_fl_X5_15 rfl dX5_append_15 ?_
    refine r_iload_n C hl 1 dX5_append_18 rfl rfl ?_
    refine r_i2b C dX5_append_19 ?_
    obtain ⟨w20, e20, g20, h⟩ := wr_some h
    refine r_bast (ws' := [(ad 0, .inr (5, [.ref (ad 1), .int v_size, .int v_at, .int v_start, .int v_token, .int v_number])), (ad 1, .inl (eB X, 320, .inl w20))]) C hW 1 rfl g20 e20 rfl dX5_append_20 (fun H L hW => ?_)
    refine r_aload_n C hl 0 dX5_append_21 rfl rfl ?_
    refine r_dup C rfl dX5_append_22 ?_
    refine r_get C hW 0 rfl rfl iwX5 1 (by decide) w_fl_X5_15 rfl dX5_append_23 ?_
    refine r_iconst (v := 1) C dX5_append_26 (by decide) ?_
    refine r_iadd C dX5_append_27 ?_
    refine r_put (ws' := [(ad 0, .inr (5, [.ref (ad 1), .int (v_size + (1 : Int32)), .int v_at, .int v_start, .int v_token, .int v_number])), (ad 1, .inl (eB X, 320, .inl w20))]) C hW 0 rfl rfl iwX5 tyX5_ok nmX5 1 (by decide) w_fl_X5_15 rfl (tyX5_ok 1 (by decide)) rfl rfl (Nat.le_of_ble_eq_true rfl) rfl dX5_append_28 (fun H L hW => ?_)
    exact r_vret C hq hW (by obtain rfl := Option.some.inj h; exact ⟨rfl, rfl⟩) dX5_append_31
def fX5_rewind (v_at : Int32) : Option (Int32) :=
  some (0 : Int32)
set_option maxRecDepth 100000 in
set_option maxHeartbeats 8000000 in
theorem mX5_rewind (X : Ev) (ad : Nat → Nat) (v_bytes : (Nat → Int32)) (v_size : Int32) (v_at : Int32) (v_start : Int32) (v_token : Int32) (v_number : Int32)  (o : Int32) (h : fX5_rewind v_at = some o) : Ctr X yX5_rewind cX5_rewind 1 none 0 0 0 0 [.ref (ad 0)] [(ad 0, .inr (5, [.ref (ad 1), .int v_size, .int v_at, .int v_start, .int v_token, .int v_number])), (ad 1, .inl (eB X, 320, .inl v_bytes))] (De none [(ad 0, .inr (5, [.ref (ad 1), .int v_size, .int o, .int v_start, .int v_token, .int v_number])), (ad 1, .inl (eB X, 320, .inl v_bytes))]) := by
  refine Ctr.start (by decide) (Nat.le_of_ble_eq_true rfl) (fun k A ls C hq hin hW hl => ?_)
  replace C : Cx X k cX5_rewind 1 none RX5 A 0 0 0 0 := C
  replace hl : lv_has ls 1 [(0, .ref (ad 0))] := hl
  suffices hh : ∀ (H : Heap) (L : List Loc), Wd X k A [(ad 0, .inr (5, [.ref (ad 1), .int v_size, .int v_at, .int v_start, .int v_token, .int v_number])), (ad 1, .inl (eB X, 320, .inl v_bytes))] H L → Wx X k 0 0 H L 0 ls [] from hh _ _ hW
  clear hW
  intro H L hW
  unfold fX5_rewind at h
  refine r_aload_n C hl 0 dX5_rewind_0 rfl rfl ?_
  refine r_iconst (v := 0) C dX5_rewind_1 (by decide) ?_
  refine r_put (ws' := [(ad 0, .inr (5, [.ref (ad 1), .int v_size, .int (0 : Int32), .int v_start, .int v_token, .int v_number])), (ad 1, .inl (eB X, 320, .inl v_bytes))]) C hW 0 rfl rfl iwX5 tyX5_ok nmX5 2 (by decide) w_fl_X5_19 rfl (tyX5_ok 2 (by decide)) rfl rfl (Nat.le_of_ble_eq_true rfl) rfl dX5_rewind_2 (fun H L hW => ?_)
  exact r_vret C hq hW (by obtain rfl := Option.some.inj h; exact ⟨rfl, rfl⟩) dX5_rewind_5
def fX5_isLetter (p0 : Int32) : Option (Int32) :=
  if p0 < (97 : Int32) then
    some (0 : Int32)
  else
    if (122 : Int32) < p0 then
      some (0 : Int32)
    else
      some (1 : Int32)
set_option maxRecDepth 100000 in
set_option maxHeartbeats 8000000 in
theorem mX5_isLetter (X : Ev)   (p0 : Int32) (o : Int32) (h : fX5_isLetter p0 = some o) : Ctr X yX5_isLetter cX5_isLetter 1 (some .boolean) 0 0 0 0 [.int p0] [] (De (some (.int o)) []) := by
  refine Ctr.start (by decide) (Nat.le_of_ble_eq_true rfl) (fun k A ls C hq hin hW hl => ?_)
  replace C : Cx X k cX5_isLetter 1 (some .boolean) RX5 A 0 0 0 0 := C
  replace hl : lv_has ls 1 [(0, .int p0)] := hl
  suffices hh : ∀ (H : Heap) (L : List Loc), Wd X k A [] H L → Wx X k 0 0 H L 0 ls [] from hh _ _ hW
  clear hW
  intro H L hW
  unfold fX5_isLetter at h
  refine r_iload_n C hl 0 dX5_isLetter_0 rfl rfl ?_
  refine r_bipush (v := 97) C dX5_isLetter_1 (by decide) ?_
  refine r_icmp_lt (tgt := 16) C dX5_isLetter_3 (by decide) (fun c3 => ?_) (fun c3 => ?_)
  · replace h := iT c3 h
    refine r_iconst (v := 0) C dX5_isLetter_16 (by decide) ?_
    exact r_zret C hq hW (by decide) (by obtain rfl := Option.some.inj h; exact ⟨rfl, rfl⟩) dX5_isLetter_17
  · replace h := iF c3 h
    refine r_iload_n C hl 0 dX5_isLetter_6 rfl rfl ?_
    refine r_bipush (v := 122) C dX5_isLetter_7 (by decide) ?_
    refine r_icmp_gt (tgt := 16) C dX5_isLetter_9 (by decide) (fun c9 => ?_) (fun c9 => ?_)
    · replace h := iT c9 h
      refine r_iconst (v := 0) C dX5_isLetter_16 (by decide) ?_
      exact r_zret C hq hW (by decide) (by obtain rfl := Option.some.inj h; exact ⟨rfl, rfl⟩) dX5_isLetter_17
    · replace h := iF c9 h
      refine r_iconst (v := 1) C dX5_isLetter_12 (by decide) ?_
      refine r_goto (tgt := 17) C dX5_isLetter_13 (by decide) ?_
      exact r_zret C hq hW (by decide) (by obtain rfl := Option.some.inj h; exact ⟨rfl, rfl⟩) dX5_isLetter_17
def fX5_isFigure (p0 : Int32) : Option (Int32) :=
  if p0 < (48 : Int32) then
    some (0 : Int32)
  else
    if (57 : Int32) < p0 then
      some (0 : Int32)
    else
      some (1 : Int32)
set_option maxRecDepth 100000 in
set_option maxHeartbeats 8000000 in
theorem mX5_isFigure (X : Ev)   (p0 : Int32) (o : Int32) (h : fX5_isFigure p0 = some o) : Ctr X yX5_isFigure cX5_isFigure 1 (some .boolean) 0 0 0 0 [.int p0] [] (De (some (.int o)) []) := by
  refine Ctr.start (by decide) (Nat.le_of_ble_eq_true rfl) (fun k A ls C hq hin hW hl => ?_)
  replace C : Cx X k cX5_isFigure 1 (some .boolean) RX5 A 0 0 0 0 := C
  replace hl : lv_has ls 1 [(0, .int p0)] := hl
  suffices hh : ∀ (H : Heap) (L : List Loc), Wd X k A [] H L → Wx X k 0 0 H L 0 ls [] from hh _ _ hW
  clear hW
  intro H L hW
  unfold fX5_isFigure at h
  refine r_iload_n C hl 0 dX5_isFigure_0 rfl rfl ?_
  refine r_bipush (v := 48) C dX5_isFigure_1 (by decide) ?_
  refine r_icmp_lt (tgt := 16) C dX5_isFigure_3 (by decide) (fun c3 => ?_) (fun c3 => ?_)
  · replace h := iT c3 h
    refine r_iconst (v := 0) C dX5_isFigure_16 (by decide) ?_
    exact r_zret C hq hW (by decide) (by obtain rfl := Option.some.inj h; exact ⟨rfl, rfl⟩) dX5_isFigure_17
  · replace h := iF c3 h
    refine r_iload_n C hl 0 dX5_isFigure_6 rfl rfl ?_
    refine r_bipush (v := 57) C dX5_isFigure_7 (by decide) ?_
    refine r_icmp_gt (tgt := 16) C dX5_isFigure_9 (by decide) (fun c9 => ?_) (fun c9 => ?_)
    · replace h := iT c9 h
      refine r_iconst (v := 0) C dX5_isFigure_16 (by decide) ?_
      exact r_zret C hq hW (by decide) (by obtain rfl := Option.some.inj h; exact ⟨rfl, rfl⟩) dX5_isFigure_17
    · replace h := iF c9 h
      refine r_iconst (v := 1) C dX5_isFigure_12 (by decide) ?_
      refine r_goto (tgt := 17) C dX5_isFigure_13 (by decide) ?_
      exact r_zret C hq hW (by decide) (by obtain rfl := Option.some.inj h; exact ⟨rfl, rfl⟩) dX5_isFigure_17
def fX5_takeName_j39 (v_bytes : (Nat → Int32)) (v_size : Int32)  (v_at : Int32) (v_token : Int32) : Option (Int32 × Int32) :=
  some (v_at, (1 : Int32))
def fX5_takeName_b0 (v_bytes : (Nat → Int32)) (v_size : Int32)  (v_token : Int32) (self0 : Int32 → Option (Int32 × Int32)) (v_at : Int32) : Option (Int32 × Int32) :=
  if v_size ≤ v_at then
    fX5_takeName_j39 v_bytes v_size  v_at v_token
  else
    rd v_bytes 320 v_at fun x19 =>
    bd1 (fX5_isLetter x19) fun r20 =>
    if r20 = (0 : Int32) then
      fX5_takeName_j39 v_bytes v_size  v_at v_token
    else
      self0 (v_at + (1 : Int32))
def fX5_takeName (v_bytes : (Nat → Int32)) (v_size : Int32) (v_at : Int32) (v_token : Int32) : Option (Int32 × Int32) :=
  lq1 (fX5_takeName_b0 v_bytes v_size  v_token) fu v_at
set_option maxRecDepth 100000 in
set_option maxHeartbeats 8000000 in
theorem mX5_takeName (X : Ev) (ad : Nat → Nat) (v_bytes : (Nat → Int32)) (v_size : Int32) (v_at : Int32) (v_start : Int32) (v_token : Int32) (v_number : Int32)  (o : Int32 × Int32) (h : fX5_takeName v_bytes v_size v_at v_token = some o) : Ctr X yX5_takeName cX5_takeName 1 none 1 20 0 0 [.ref (ad 0)] [(ad 0, .inr (5, [.ref (ad 1), .int v_size, .int v_at, .int v_start, .int v_token, .int v_number])), (ad 1, .inl (eB X, 320, .inl v_bytes))] (De none [(ad 0, .inr (5, [.ref (ad 1), .int v_size, .int (o.1), .int v_start, .int (o.2), .int v_number])), (ad 1, .inl (eB X, 320, .inl v_bytes))]) := by
  refine Ctr.start (by decide) (Nat.le_of_ble_eq_true rfl) (fun k A ls C hq hin hW hl => ?_)
  replace C : Cx X k cX5_takeName 1 none RX5 A 1 20 0 0 := C
  replace hl : lv_has ls 1 [(0, .ref (ad 0))] := hl
  suffices hh : ∀ (H : Heap) (L : List Loc), Wd X k A [(ad 0, .inr (5, [.ref (ad 1), .int v_size, .int v_at, .int v_start, .int v_token, .int v_number])), (ad 1, .inl (eB X, 320, .inl v_bytes))] H L → Wx X k 0 0 H L 0 ls [] from hh _ _ hW
  clear hW
  intro H L hW
  have K39 : ∀ (v_at : Int32), ∀ (v_token : Int32), ∀ (H : Heap) (L : List Loc) (ls : Array Slot), Wd X k A [(ad 0, .inr (5, [.ref (ad 1), .int v_size, .int v_at, .int v_start, .int v_token, .int v_number])), (ad 1, .inl (eB X, 320, .inl v_bytes))] H L → lv_has ls 1 [(0, .ref (ad 0))] → fX5_takeName_j39 v_bytes v_size  v_at v_token = some o → Wx X k 0 0 H L 39 ls [] := by
    intro v_at v_token H L ls hW hl h
    unfold fX5_takeName_j39 at h
    refine r_aload_n C hl 0 dX5_takeName_39 rfl rfl ?_
    refine r_iconst (v := 1) C dX5_takeName_40 (by decide) ?_
    refine r_put (ws' := [(ad 0, .inr (5, [.ref (ad 1), .int v_size, .int v_at, .int v_start, .int (1 : Int32), .int v_number])), (ad 1, .inl (eB X, 320, .inl v_bytes))]) C hW 0 rfl rfl iwX5 tyX5_ok nmX5 4 (by decide) w_fl_X5_25 rfl (tyX5_ok 4 (by decide)) rfl rfl (Nat.le_of_ble_eq_true rfl) rfl dX5_takeName_41 (fun H L hW => ?_)
    exact r_vret C hq hW (by obtain rfl := Option.some.inj h; exact ⟨rfl, rfl⟩) dX5_takeName_44
  have K0 : ∀ (v_token : Int32), ∀ (n0 : Nat), ∀ (v_at : Int32), ∀ (H : Heap) (L : List Loc) (ls : Array Slot), Wd X k A [(ad 0, .inr (5, [.ref (ad 1), .int v_size, .int v_at, .int v_start, .int v_token, .int v_number])), (ad 1, .inl (eB X, 320, .inl v_bytes))] H L → lv_has ls 1 [(0, .ref (ad 0))] → lq1 (fX5_takeName_b0 v_bytes v_size  v_token) n0 v_at = some o → Wx X k 0 0 H L 0 ls [] := by
    intro v_token
    intro n0
    induction n0 with
    | zero => intro v_at H L ls hW hl h; exact lq1_0 h
    | succ n0 ih0 =>
      intro v_at H L ls hW hl h
      rw [lq1_s] at h
      unfold fX5_takeName_b0 at h
      refine r_aload_n C hl 0 dX5_takeName_0 rfl rfl ?_
      refine r_get C hW 0 rfl rfl iwX5 2 (by decide) w_fl_X5_19 rfl dX5_takeName_1 ?_
      refine r_aload_n C hl 0 dX5_takeName_4 rfl rfl ?_
      refine r_get C hW 0 rfl rfl iwX5 1 (by decide) w_fl_X5_15 rfl dX5_takeName_5 ?_
      refine r_icmp_ge (tgt := 39) C dX5_takeName_8 (by decide) (fun c8 => ?_) (fun c8 => ?_)
      · replace h := iT c8 h
        exact K39 v_at v_token H L ls hW hl h
      · replace h := iF c8 h
        refine r_aload_n C hl 0 dX5_takeName_11 rfl rfl ?_
        refine r_get C hW 0 rfl rfl iwX5 0 (by decide) w_fl_X5_9 rfl dX5_takeName_12 ?_
        refine r_aload_n C hl 0 dX5_takeName_15 rfl rfl ?_
        refine r_get C hW 0 rfl rfl iwX5 2 (by decide) w_fl_X5_19 rfl dX5_takeName_16 ?_
        obtain ⟨x19, e19, g19, h⟩ := rd_some h
        refine r_bald C hW 1 rfl g19 e19 dX5_takeName_19 ?_
        obtain ⟨r20, h20, h⟩ := bd1_some h
        refine r_S (wr := [(ad 0, .inr (5, [.ref (ad 1), .int v_size, .int v_at, .int v_start, .int v_token, .int v_number])), (ad 1, .inl (eB X, 320, .inl v_bytes))]) (np := 1) C hl (mX5_isLetter X    x19 r20 h20) hW [] [0, 1] rfl rfl rfl rfl (by decide) w_cd_X5_isLetter w_ml_X5_28 w_st_X5_isLetter w_in_HeightSheet_Tape (by decide +kernel) rfl ⟨Nat.le_of_ble_eq_true rfl, Nat.le_of_ble_eq_true rfl⟩ ⟨Nat.zero_le _, Nat.zero_le _⟩ (Nat.le_of_ble_eq_true rfl) dX5_takeName_20 (fun rv w1 H L hp hW => ?_) rfl
        obtain ⟨rfl, rfl⟩ := hp
        replace hW : Wd X k A [(ad 0, .inr (5, [.ref (ad 1), .int v_size, .int v_at, .int v_start, .int v_token, .int v_number])), (ad 1, .inl (eB X, 320, .inl v_bytes))] H L := hW.sub [0, 1] rfl rfl
        show Wx X k 0 0 H L 23 ls [.int r20]
        refine r_if_eq (tgt := 39) C dX5_takeName_23 (by decide) (fun c23 => ?_) (fun c23 => ?_)
        · replace h := iT c23 h
          exact K39 v_at v_token H L ls hW hl h
        · replace h := iF c23 h
          refine r_aload_n C hl 0 dX5_takeName_26 rfl rfl ?_
          refine r_dup C rfl dX5_takeName_27 ?_
          refine r_get C hW 0 rfl rfl iwX5 2 (by decide) w_fl_X5_19 rfl dX5_takeName_28 ?_
          refine r_iconst (v := 1) C dX5_takeName_31 (by decide) ?_
          refine r_iadd C dX5_takeName_32 ?_
          refine r_put (ws' := [(ad 0, .inr (5, [.ref (ad 1), .int v_size, .int (v_at + (1 : Int32)), .int v_start, .int v_token, .int v_number])), (ad 1, .inl (eB X, 320, .inl v_bytes))]) C hW 0 rfl rfl iwX5 tyX5_ok nmX5 2 (by decide) w_fl_X5_19 rfl (tyX5_ok 2 (by decide)) rfl rfl (Nat.le_of_ble_eq_true rfl) rfl dX5_takeName_33 (fun H L hW => ?_)
          refine r_goto (tgt := 0) C dX5_takeName_36 (by decide) ?_
          exact ih0 (v_at + (1 : Int32)) H L ls hW hl h
  unfold fX5_takeName at h
  exact K0 v_token fu v_at H L ls hW hl h
def fX5_takeNumber_j87 (v_bytes : (Nat → Int32)) (v_size : Int32) (v_start : Int32)  (v_at : Int32) (v_token : Int32) (v_number : Int32) (s1 : Int32) : Option (Int32 × Int32 × Int32) :=
  some (v_at, s1, v_number)
def fX5_takeNumber_j68 (v_bytes : (Nat → Int32)) (v_size : Int32) (v_start : Int32)  (v_at : Int32) (v_token : Int32) (v_number : Int32) : Option (Int32 × Int32 × Int32) :=
  if (3 : Int32) < (v_at - v_start) then
    fX5_takeNumber_j87 v_bytes v_size v_start  v_at v_token v_number (4 : Int32)
  else
    fX5_takeNumber_j87 v_bytes v_size v_start  v_at v_token v_number (2 : Int32)
def fX5_takeNumber_b5 (v_bytes : (Nat → Int32)) (v_size : Int32) (v_start : Int32)  (v_token : Int32) (self5 : Int32 → Int32 → Option (Int32 × Int32 × Int32)) (v_at : Int32) (v_number : Int32) : Option (Int32 × Int32 × Int32) :=
  if v_size ≤ v_at then
    fX5_takeNumber_j68 v_bytes v_size v_start  v_at v_token v_number
  else
    rd v_bytes 320 v_at fun x24 =>
    bd1 (fX5_isFigure x24) fun r25 =>
    if r25 = (0 : Int32) then
      fX5_takeNumber_j68 v_bytes v_size v_start  v_at v_token v_number
    else
      rd v_bytes 320 v_at fun x47 =>
      self5 (v_at + (1 : Int32)) ((v_number * (10 : Int32)) + (x47 - (48 : Int32)))
def fX5_takeNumber (v_bytes : (Nat → Int32)) (v_size : Int32) (v_at : Int32) (v_start : Int32) (v_token : Int32) (v_number : Int32) : Option (Int32 × Int32 × Int32) :=
  lq2 (fX5_takeNumber_b5 v_bytes v_size v_start  v_token) fu v_at (0 : Int32)
set_option maxRecDepth 100000 in
set_option maxHeartbeats 8000000 in
theorem mX5_takeNumber (X : Ev) (ad : Nat → Nat) (v_bytes : (Nat → Int32)) (v_size : Int32) (v_at : Int32) (v_start : Int32) (v_token : Int32) (v_number : Int32)  (o : Int32 × Int32 × Int32) (h : fX5_takeNumber v_bytes v_size v_at v_start v_token v_number = some o) : Ctr X yX5_takeNumber cX5_takeNumber 1 none 1 20 0 0 [.ref (ad 0)] [(ad 0, .inr (5, [.ref (ad 1), .int v_size, .int v_at, .int v_start, .int v_token, .int v_number])), (ad 1, .inl (eB X, 320, .inl v_bytes))] (De none [(ad 0, .inr (5, [.ref (ad 1), .int v_size, .int (o.1), .int v_start, .int (o.2.1), .int (o.2.2)])), (ad 1, .inl (eB X, 320, .inl v_bytes))]) := by
  refine Ctr.start (by decide) (Nat.le_of_ble_eq_true rfl) (fun k A ls C hq hin hW hl => ?_)
  replace C : Cx X k cX5_takeNumber 1 none RX5 A 1 20 0 0 := C
  replace hl : lv_has ls 1 [(0, .ref (ad 0))] := hl
  suffices hh : ∀ (H : Heap) (L : List Loc), Wd X k A [(ad 0, .inr (5, [.ref (ad 1), .int v_size, .int v_at, .int v_start, .int v_token, .int v_number])), (ad 1, .inl (eB X, 320, .inl v_bytes))] H L → Wx X k 0 0 H L 0 ls [] from hh _ _ hW
  clear hW
  intro H L hW
  have K87 : ∀ (v_at : Int32), ∀ (v_token : Int32), ∀ (v_number : Int32), ∀ (s1 : Int32), ∀ (H : Heap) (L : List Loc) (ls : Array Slot), Wd X k A [(ad 0, .inr (5, [.ref (ad 1), .int v_size, .int v_at, .int v_start, .int v_token, .int v_number])), (ad 1, .inl (eB X, 320, .inl v_bytes))] H L → lv_has ls 1 [] → fX5_takeNumber_j87 v_bytes v_size v_start  v_at v_token v_number s1 = some o → Wx X k 0 0 H L 87 ls [.int s1, .ref (ad 0)] := by
    intro v_at v_token v_number s1 H L ls hW hl h
    unfold fX5_takeNumber_j87 at h
    refine r_put (ws' := [(ad 0, .inr (5, [.ref (ad 1), .int v_size, .int v_at, .int v_start, .int s1, .int v_number])), (ad 1, .inl (eB X, 320, .inl v_bytes))]) C hW 0 rfl rfl iwX5 tyX5_ok nmX5 4 (by decide) w_fl_X5_25 rfl (tyX5_ok 4 (by decide)) rfl rfl (Nat.le_of_ble_eq_true rfl) rfl dX5_takeNumber_87 (fun H L hW => ?_)
    exact r_vret C hq hW (by obtain rfl := Option.some.inj h; exact ⟨rfl, rfl⟩) dX5_takeNumber_90
  have K68 : ∀ (v_at : Int32), ∀ (v_token : Int32), ∀ (v_number : Int32), ∀ (H : Heap) (L : List Loc) (ls : Array Slot), Wd X k A [(ad 0, .inr (5, [.ref (ad 1), .int v_size, .int v_at, .int v_start, .int v_token, .int v_number])), (ad 1, .inl (eB X, 320, .inl v_bytes))] H L → lv_has ls 1 [(0, .ref (ad 0))] → fX5_takeNumber_j68 v_bytes v_size v_start  v_at v_token v_number = some o → Wx X k 0 0 H L 68 ls [] := by
    intro v_at v_token v_number H L ls hW hl h
    unfold fX5_takeNumber_j68 at h
    refine r_aload_n C hl 0 dX5_takeNumber_68 rfl rfl ?_
    refine r_aload_n C hl 0 dX5_takeNumber_69 rfl rfl ?_
    refine r_get C hW 0 rfl rfl iwX5 2 (by decide) w_fl_X5_19 rfl dX5_takeNumber_70 ?_
    refine r_aload_n C hl 0 dX5_takeNumber_73 rfl rfl ?_
    refine r_get C hW 0 rfl rfl iwX5 3 (by decide) w_fl_X5_22 rfl dX5_takeNumber_74 ?_
    refine r_isub C dX5_takeNumber_77 ?_
    refine r_iconst (v := 3) C dX5_takeNumber_78 (by decide) ?_
    refine r_icmp_gt (tgt := 86) C dX5_takeNumber_79 (by decide) (fun c79 => ?_) (fun c79 => ?_)
    · replace h := iT c79 h
      refine r_iconst (v := 4) C dX5_takeNumber_86 (by decide) ?_
      exact K87 v_at v_token v_number (4 : Int32) H L ls hW (lv_sub hl [] rfl) h
    · replace h := iF c79 h
      refine r_iconst (v := 2) C dX5_takeNumber_82 (by decide) ?_
      refine r_goto (tgt := 87) C dX5_takeNumber_83 (by decide) ?_
      exact K87 v_at v_token v_number (2 : Int32) H L ls hW (lv_sub hl [] rfl) h
  have K5 : ∀ (v_token : Int32), ∀ (n5 : Nat), ∀ (v_at : Int32), ∀ (v_number : Int32), ∀ (H : Heap) (L : List Loc) (ls : Array Slot), Wd X k A [(ad 0, .inr (5, [.ref (ad 1), .int v_size, .int v_at, .int v_start, .int v_token, .int v_number])), (ad 1, .inl (eB X, 320, .inl v_bytes))] H L → lv_has ls 1 [(0, .ref (ad 0))] → lq2 (fX5_takeNumber_b5 v_bytes v_size v_start  v_token) n5 v_at v_number = some o → Wx X k 0 0 H L 5 ls [] := by
    intro v_token
    intro n5
    induction n5 with
    | zero => intro v_at v_number H L ls hW hl h; exact lq2_0 h
    | succ n5 ih5 =>
      intro v_at v_number H L ls hW hl h
      rw [lq2_s] at h
      unfold fX5_takeNumber_b5 at h
      refine r_aload_n C hl 0 dX5_takeNumber_5 rfl rfl ?_
      refine r_get C hW 0 rfl rfl iwX5 2 (by decide) w_fl_X5_19 rfl dX5_takeNumber_6 ?_
      refine r_aload_n C hl 0 dX5_takeNumber_9 rfl rfl ?_
      refine r_get C hW 0 rfl rfl iwX5 1 (by decide) w_fl_X5_15 rfl dX5_takeNumber_10 ?_
      refine r_icmp_ge (tgt := 68) C dX5_takeNumber_13 (by decide) (fun c13 => ?_) (fun c13 => ?_)
      · replace h := iT c13 h
        exact K68 v_at v_token v_number H L ls hW hl h
      · replace h := iF c13 h
        refine r_aload_n C hl 0 dX5_takeNumber_16 rfl rfl ?_
        refine r_get C hW 0 rfl rfl iwX5 0 (by decide) w_fl_X5_9 rfl dX5_takeNumber_17 ?_
        refine r_aload_n C hl 0 dX5_takeNumber_20 rfl rfl ?_
        refine r_get C hW 0 rfl rfl iwX5 2 (by decide) w_fl_X5_19 rfl dX5_takeNumber_21 ?_
        obtain ⟨x24, e24, g24, h⟩ := rd_some h
        refine r_bald C hW 1 rfl g24 e24 dX5_takeNumber_24 ?_
        obtain ⟨r25, h25, h⟩ := bd1_some h
        refine r_S (wr := [(ad 0, .inr (5, [.ref (ad 1), .int v_size, .int v_at, .int v_start, .int v_token, .int v_number])), (ad 1, .inl (eB X, 320, .inl v_bytes))]) (np := 1) C hl (mX5_isFigure X    x24 r25 h25) hW [] [0, 1] rfl rfl rfl rfl (by decide) w_cd_X5_isFigure w_ml_X5_35 w_st_X5_isFigure w_in_HeightSheet_Tape (by decide +kernel) rfl ⟨Nat.le_of_ble_eq_true rfl, Nat.le_of_ble_eq_true rfl⟩ ⟨Nat.zero_le _, Nat.zero_le _⟩ (Nat.le_of_ble_eq_true rfl) dX5_takeNumber_25 (fun rv w1 H L hp hW => ?_) rfl
        obtain ⟨rfl, rfl⟩ := hp
        replace hW : Wd X k A [(ad 0, .inr (5, [.ref (ad 1), .int v_size, .int v_at, .int v_start, .int v_token, .int v_number])), (ad 1, .inl (eB X, 320, .inl v_bytes))] H L := hW.sub [0, 1] rfl rfl
        show Wx X k 0 0 H L 28 ls [.int r25]
        refine r_if_eq (tgt := 68) C dX5_takeNumber_28 (by decide) (fun c28 => ?_) (fun c28 => ?_)
        · replace h := iT c28 h
          exact K68 v_at v_token v_number H L ls hW hl h
        · replace h := iF c28 h
          refine r_aload_n C hl 0 dX5_takeNumber_31 rfl rfl ?_
          refine r_aload_n C hl 0 dX5_takeNumber_32 rfl rfl ?_
          refine r_get C hW 0 rfl rfl iwX5 5 (by decide) w_fl_X5_41 rfl dX5_takeNumber_33 ?_
          refine r_bipush (v := 10) C dX5_takeNumber_36 (by decide) ?_
          refine r_imul C dX5_takeNumber_38 ?_
          refine r_aload_n C hl 0 dX5_takeNumber_39 rfl rfl ?_
          refine r_get C hW 0 rfl rfl iwX5 0 (by decide) w_fl_X5_9 rfl dX5_takeNumber_40 ?_
          refine r_aload_n C hl 0 dX5_takeNumber_43 rfl rfl ?_
          refine r_get C hW 0 rfl rfl iwX5 2 (by decide) w_fl_X5_19 rfl dX5_takeNumber_44 ?_
          obtain ⟨x47, e47, g47, h⟩ := rd_some h
          refine r_bald C hW 1 rfl g47 e47 dX5_takeNumber_47 ?_
          refine r_bipush (v := 48) C dX5_takeNumber_48 (by decide) ?_
          refine r_isub C dX5_takeNumber_50 ?_
          refine r_iadd C dX5_takeNumber_51 ?_
          refine r_put (ws' := [(ad 0, .inr (5, [.ref (ad 1), .int v_size, .int v_at, .int v_start, .int v_token, .int ((v_number * (10 : Int32)) + (x47 - (48 : Int32)))])), (ad 1, .inl (eB X, 320, .inl v_bytes))]) C hW 0 rfl rfl iwX5 tyX5_ok nmX5 5 (by decide) w_fl_X5_41 rfl (tyX5_ok 5 (by decide)) rfl rfl (Nat.le_of_ble_eq_true rfl) rfl dX5_takeNumber_52 (fun H L hW => ?_)
          refine r_aload_n C hl 0 dX5_takeNumber_55 rfl rfl ?_
          refine r_dup C rfl dX5_takeNumber_56 ?_
          refine r_get C hW 0 rfl rfl iwX5 2 (by decide) w_fl_X5_19 rfl dX5_takeNumber_57 ?_
          refine r_iconst (v := 1) C dX5_takeNumber_60 (by decide) ?_
          refine r_iadd C dX5_takeNumber_61 ?_
          refine r_put (ws' := [(ad 0, .inr (5, [.ref (ad 1), .int v_size, .int (v_at + (1 : Int32)), .int v_start, .int v_token, .int ((v_number * (10 : Int32)) + (x47 - (48 : Int32)))])), (ad 1, .inl (eB X, 320, .inl v_bytes))]) C hW 0 rfl rfl iwX5 tyX5_ok nmX5 2 (by decide) w_fl_X5_19 rfl (tyX5_ok 2 (by decide)) rfl rfl (Nat.le_of_ble_eq_true rfl) rfl dX5_takeNumber_62 (fun H L hW => ?_)
          refine r_goto (tgt := 5) C dX5_takeNumber_65 (by decide) ?_
          exact ih5 (v_at + (1 : Int32)) ((v_number * (10 : Int32)) + (x47 - (48 : Int32))) H L ls hW hl h
  unfold fX5_takeNumber at h
  refine r_aload_n C hl 0 dX5_takeNumber_0 rfl rfl ?_
  refine r_iconst (v := 0) C dX5_takeNumber_1 (by decide) ?_
  refine r_put (ws' := [(ad 0, .inr (5, [.ref (ad 1), .int v_size, .int v_at, .int v_start, .int v_token, .int (0 : Int32)])), (ad 1, .inl (eB X, 320, .inl v_bytes))]) C hW 0 rfl rfl iwX5 tyX5_ok nmX5 5 (by decide) w_fl_X5_41 rfl (tyX5_ok 5 (by decide)) rfl rfl (Nat.le_of_ble_eq_true rfl) rfl dX5_takeNumber_2 (fun H L hW => ?_)
  exact K5 v_token fu v_at (0 : Int32) H L ls hW hl h
def fX5_nextToken_j129 (v_bytes : (Nat → Int32)) (v_size : Int32)  (v_at : Int32) (v_start : Int32) (v_token : Int32) (v_number : Int32) (s1 : Int32) : Option (Int32 × Int32 × Int32 × Int32) :=
  some (v_at + (1 : Int32), v_start, s1, v_number)
def fX5_nextToken_j38 (v_bytes : (Nat → Int32)) (v_size : Int32)  (v_at : Int32) (v_start : Int32) (v_token : Int32) (v_number : Int32) : Option (Int32 × Int32 × Int32 × Int32) :=
  if v_at < v_size then
    rd v_bytes 320 v_at fun x73 =>
    bd1 (fX5_isLetter x73) fun r74 =>
    if r74 = (0 : Int32) then
      rd v_bytes 320 v_at fun x95 =>
      bd1 (fX5_isFigure x95) fun r96 =>
      if r96 = (0 : Int32) then
        rd v_bytes 320 v_at fun x118 =>
        if x118 = (59 : Int32) then
          fX5_nextToken_j129 v_bytes v_size  v_at v_at v_token v_number (3 : Int32)
        else
          fX5_nextToken_j129 v_bytes v_size  v_at v_at v_token v_number (4 : Int32)
      else
        bd3 (fX5_takeNumber v_bytes v_size v_at v_at v_token v_number) fun c103_at c103_token c103_number =>
        some (c103_at, v_at, c103_token, c103_number)
    else
      bd2 (fX5_takeName v_bytes v_size v_at v_token) fun c81_at c81_token =>
      some (c81_at, v_at, c81_token, v_number)
  else
    some (v_at, v_at, (0 : Int32), v_number)
def fX5_nextToken_b0 (v_bytes : (Nat → Int32)) (v_size : Int32)  (v_start : Int32) (v_token : Int32) (v_number : Int32) (self0 : Int32 → Option (Int32 × Int32 × Int32 × Int32)) (v_at : Int32) : Option (Int32 × Int32 × Int32 × Int32) :=
  if v_size ≤ v_at then
    fX5_nextToken_j38 v_bytes v_size  v_at v_start v_token v_number
  else
    rd v_bytes 320 v_at fun x19 =>
    if x19 = (32 : Int32) then
      self0 (v_at + (1 : Int32))
    else
      fX5_nextToken_j38 v_bytes v_size  v_at v_start v_token v_number
def fX5_nextToken (v_bytes : (Nat → Int32)) (v_size : Int32) (v_at : Int32) (v_start : Int32) (v_token : Int32) (v_number : Int32) : Option (Int32 × Int32 × Int32 × Int32) :=
  lq1 (fX5_nextToken_b0 v_bytes v_size  v_start v_token v_number) fu v_at
set_option maxRecDepth 100000 in
set_option maxHeartbeats 8000000 in
theorem mX5_nextToken (X : Ev) (ad : Nat → Nat) (v_bytes : (Nat → Int32)) (v_size : Int32) (v_at : Int32) (v_start : Int32) (v_token : Int32) (v_number : Int32)  (o : Int32 × Int32 × Int32 × Int32) (h : fX5_nextToken v_bytes v_size v_at v_start v_token v_number = some o) : Ctr X yX5_nextToken cX5_nextToken 1 none 2 40 0 0 [.ref (ad 0)] [(ad 0, .inr (5, [.ref (ad 1), .int v_size, .int v_at, .int v_start, .int v_token, .int v_number])), (ad 1, .inl (eB X, 320, .inl v_bytes))] (De none [(ad 0, .inr (5, [.ref (ad 1), .int v_size, .int (o.1), .int (o.2.1), .int (o.2.2.1), .int (o.2.2.2)])), (ad 1, .inl (eB X, 320, .inl v_bytes))]) := by
  refine Ctr.start (by decide) (Nat.le_of_ble_eq_true rfl) (fun k A ls C hq hin hW hl => ?_)
  replace C : Cx X k cX5_nextToken 1 none RX5 A 2 40 0 0 := C
  replace hl : lv_has ls 1 [(0, .ref (ad 0))] := hl
  suffices hh : ∀ (H : Heap) (L : List Loc), Wd X k A [(ad 0, .inr (5, [.ref (ad 1), .int v_size, .int v_at, .int v_start, .int v_token, .int v_number])), (ad 1, .inl (eB X, 320, .inl v_bytes))] H L → Wx X k 0 0 H L 0 ls [] from hh _ _ hW
  clear hW
  intro H L hW
  have K129 : ∀ (v_at : Int32), ∀ (v_start : Int32), ∀ (v_token : Int32), ∀ (v_number : Int32), ∀ (s1 : Int32), ∀ (H : Heap) (L : List Loc) (ls : Array Slot), Wd X k A [(ad 0, .inr (5, [.ref (ad 1), .int v_size, .int v_at, .int v_start, .int v_token, .int v_number])), (ad 1, .inl (eB X, 320, .inl v_bytes))] H L → lv_has ls 1 [(0, .ref (ad 0))] → fX5_nextToken_j129 v_bytes v_size  v_at v_start v_token v_number s1 = some o → Wx X k 0 0 H L 129 ls [.int s1, .ref (ad 0)] := by
    intro v_at v_start v_token v_number s1 H L ls hW hl h
    unfold fX5_nextToken_j129 at h
    refine r_put (ws' := [(ad 0, .inr (5, [.ref (ad 1), .int v_size, .int v_at, .int v_start, .int s1, .int v_number])), (ad 1, .inl (eB X, 320, .inl v_bytes))]) C hW 0 rfl rfl iwX5 tyX5_ok nmX5 4 (by decide) w_fl_X5_25 rfl (tyX5_ok 4 (by decide)) rfl rfl (Nat.le_of_ble_eq_true rfl) rfl dX5_nextToken_129 (fun H L hW => ?_)
    refine r_aload_n C hl 0 dX5_nextToken_132 rfl rfl ?_
    refine r_dup C rfl dX5_nextToken_133 ?_
    refine r_get C hW 0 rfl rfl iwX5 2 (by decide) w_fl_X5_19 rfl dX5_nextToken_134 ?_
    refine r_iconst (v := 1) C dX5_nextToken_137 (by decide) ?_
    refine r_iadd C dX5_nextToken_138 ?_
    refine r_put (ws' := [(ad 0, .inr (5, [.ref (ad 1), .int v_size, .int (v_at + (1 : Int32)), .int v_start, .int s1, .int v_number])), (ad 1, .inl (eB X, 320, .inl v_bytes))]) C hW 0 rfl rfl iwX5 tyX5_ok nmX5 2 (by decide) w_fl_X5_19 rfl (tyX5_ok 2 (by decide)) rfl rfl (Nat.le_of_ble_eq_true rfl) rfl dX5_nextToken_139 (fun H L hW => ?_)
    exact r_vret C hq hW (by obtain rfl := Option.some.inj h; exact ⟨rfl, rfl⟩) dX5_nextToken_142
  have K38 : ∀ (v_at : Int32), ∀ (v_start : Int32), ∀ (v_token : Int32), ∀ (v_number : Int32), ∀ (H : Heap) (L : List Loc) (ls : Array Slot), Wd X k A [(ad 0, .inr (5, [.ref (ad 1), .int v_size, .int v_at, .int v_start, .int v_token, .int v_number])), (ad 1, .inl (eB X, 320, .inl v_bytes))] H L → lv_has ls 1 [(0, .ref (ad 0))] → fX5_nextToken_j38 v_bytes v_size  v_at v_start v_token v_number = some o → Wx X k 0 0 H L 38 ls [] := by
    intro v_at v_start v_token v_number H L ls hW hl h
    unfold fX5_nextToken_j38 at h
    refine r_aload_n C hl 0 dX5_nextToken_38 rfl rfl ?_
    refine r_aload_n C hl 0 dX5_nextToken_39 rfl rfl ?_
    refine r_get C hW 0 rfl rfl iwX5 2 (by decide) w_fl_X5_19 rfl dX5_nextToken_40 ?_
    refine r_put (ws' := [(ad 0, .inr (5, [.ref (ad 1), .int v_size, .int v_at, .int v_at, .int v_token, .int v_number])), (ad 1, .inl (eB X, 320, .inl v_bytes))]) C hW 0 rfl rfl iwX5 tyX5_ok nmX5 3 (by decide) w_fl_X5_22 rfl (tyX5_ok 3 (by decide)) rfl rfl (Nat.le_of_ble_eq_true rfl) rfl dX5_nextToken_43 (fun H L hW => ?_)
    refine r_aload_n C hl 0 dX5_nextToken_46 rfl rfl ?_
    refine r_get C hW 0 rfl rfl iwX5 2 (by decide) w_fl_X5_19 rfl dX5_nextToken_47 ?_
    refine r_aload_n C hl 0 dX5_nextToken_50 rfl rfl ?_
    refine r_get C hW 0 rfl rfl iwX5 1 (by decide) w_fl_X5_15 rfl dX5_nextToken_51 ?_
    refine r_icmp_lt (tgt := 65) C dX5_nextToken_54 (by decide) (fun c54 => ?_) (fun c54 => ?_)
    · replace h := iT c54 h
      refine r_aload_n C hl 0 dX5_nextToken_65 rfl rfl ?_
      refine r_get C hW 0 rfl rfl iwX5 0 (by decide) w_fl_X5_9 rfl dX5_nextToken_66 ?_
      refine r_aload_n C hl 0 dX5_nextToken_69 rfl rfl ?_
      refine r_get C hW 0 rfl rfl iwX5 2 (by decide) w_fl_X5_19 rfl dX5_nextToken_70 ?_
      obtain ⟨x73, e73, g73, h⟩ := rd_some h
      refine r_bald C hW 1 rfl g73 e73 dX5_nextToken_73 ?_
      obtain ⟨r74, h74, h⟩ := bd1_some h
      refine r_S (wr := [(ad 0, .inr (5, [.ref (ad 1), .int v_size, .int v_at, .int v_at, .int v_token, .int v_number])), (ad 1, .inl (eB X, 320, .inl v_bytes))]) (np := 1) C hl (mX5_isLetter X    x73 r74 h74) hW [] [0, 1] rfl rfl rfl rfl (by decide) w_cd_X5_isLetter w_ml_X5_28 w_st_X5_isLetter w_in_HeightSheet_Tape (by decide +kernel) rfl ⟨Nat.le_of_ble_eq_true rfl, Nat.le_of_ble_eq_true rfl⟩ ⟨Nat.zero_le _, Nat.zero_le _⟩ (Nat.le_of_ble_eq_true rfl) dX5_nextToken_74 (fun rv w1 H L hp hW => ?_) rfl
      obtain ⟨rfl, rfl⟩ := hp
      replace hW : Wd X k A [(ad 0, .inr (5, [.ref (ad 1), .int v_size, .int v_at, .int v_at, .int v_token, .int v_number])), (ad 1, .inl (eB X, 320, .inl v_bytes))] H L := hW.sub [0, 1] rfl rfl
      show Wx X k 0 0 H L 77 ls [.int r74]
      refine r_if_eq (tgt := 87) C dX5_nextToken_77 (by decide) (fun c77 => ?_) (fun c77 => ?_)
      · replace h := iT c77 h
        refine r_aload_n C hl 0 dX5_nextToken_87 rfl rfl ?_
        refine r_get C hW 0 rfl rfl iwX5 0 (by decide) w_fl_X5_9 rfl dX5_nextToken_88 ?_
        refine r_aload_n C hl 0 dX5_nextToken_91 rfl rfl ?_
        refine r_get C hW 0 rfl rfl iwX5 2 (by decide) w_fl_X5_19 rfl dX5_nextToken_92 ?_
        obtain ⟨x95, e95, g95, h⟩ := rd_some h
        refine r_bald C hW 1 rfl g95 e95 dX5_nextToken_95 ?_
        obtain ⟨r96, h96, h⟩ := bd1_some h
        refine r_S (wr := [(ad 0, .inr (5, [.ref (ad 1), .int v_size, .int v_at, .int v_at, .int v_token, .int v_number])), (ad 1, .inl (eB X, 320, .inl v_bytes))]) (np := 1) C hl (mX5_isFigure X    x95 r96 h96) hW [] [0, 1] rfl rfl rfl rfl (by decide) w_cd_X5_isFigure w_ml_X5_35 w_st_X5_isFigure w_in_HeightSheet_Tape (by decide +kernel) rfl ⟨Nat.le_of_ble_eq_true rfl, Nat.le_of_ble_eq_true rfl⟩ ⟨Nat.zero_le _, Nat.zero_le _⟩ (Nat.le_of_ble_eq_true rfl) dX5_nextToken_96 (fun rv w1 H L hp hW => ?_) rfl
        obtain ⟨rfl, rfl⟩ := hp
        replace hW : Wd X k A [(ad 0, .inr (5, [.ref (ad 1), .int v_size, .int v_at, .int v_at, .int v_token, .int v_number])), (ad 1, .inl (eB X, 320, .inl v_bytes))] H L := hW.sub [0, 1] rfl rfl
        show Wx X k 0 0 H L 99 ls [.int r96]
        refine r_if_eq (tgt := 109) C dX5_nextToken_99 (by decide) (fun c99 => ?_) (fun c99 => ?_)
        · replace h := iT c99 h
          refine r_aload_n C hl 0 dX5_nextToken_109 rfl rfl ?_
          refine r_aload_n C hl 0 dX5_nextToken_110 rfl rfl ?_
          refine r_get C hW 0 rfl rfl iwX5 0 (by decide) w_fl_X5_9 rfl dX5_nextToken_111 ?_
          refine r_aload_n C hl 0 dX5_nextToken_114 rfl rfl ?_
          refine r_get C hW 0 rfl rfl iwX5 2 (by decide) w_fl_X5_19 rfl dX5_nextToken_115 ?_
          obtain ⟨x118, e118, g118, h⟩ := rd_some h
          refine r_bald C hW 1 rfl g118 e118 dX5_nextToken_118 ?_
          refine r_bipush (v := 59) C dX5_nextToken_119 (by decide) ?_
          refine r_icmp_ne (tgt := 128) C dX5_nextToken_121 (by decide) (fun c121 => ?_) (fun c121 => ?_)
          · replace h := iF c121 h
            refine r_iconst (v := 4) C dX5_nextToken_128 (by decide) ?_
            exact K129 v_at v_at v_token v_number (4 : Int32) H L ls hW hl h
          · replace h := iT c121 h
            refine r_iconst (v := 3) C dX5_nextToken_124 (by decide) ?_
            refine r_goto (tgt := 129) C dX5_nextToken_125 (by decide) ?_
            exact K129 v_at v_at v_token v_number (3 : Int32) H L ls hW hl h
        · replace h := iF c99 h
          refine r_aload_n C hl 0 dX5_nextToken_102 rfl rfl ?_
          obtain ⟨c103_at, c103_token, c103_number, h103, h⟩ := bd3_some h
          refine r_V (wr := []) (np := 0) C hl (mX5_takeNumber X ad  v_bytes v_size v_at v_at v_token v_number  (c103_at, c103_token, c103_number) h103) hW [0, 1] [] rfl rfl rfl rfl (by decide) 0 rfl rfl w_cd_X5_takeNumber w_ml_X5_38 w_im_X5_takeNumber w_sel_X5_takeNumber w_in_HeightSheet_Tape (by decide +kernel) rfl ⟨Nat.le_of_ble_eq_true rfl, Nat.le_of_ble_eq_true rfl⟩ ⟨Nat.zero_le _, Nat.zero_le _⟩ (Nat.le_of_ble_eq_true rfl) dX5_nextToken_103 (fun rv w1 H L hp hW => ?_) rfl
          obtain ⟨rfl, rfl⟩ := hp
          replace hW : Wd X k A [(ad 0, .inr (5, [.ref (ad 1), .int v_size, .int c103_at, .int v_at, .int c103_token, .int c103_number])), (ad 1, .inl (eB X, 320, .inl v_bytes))] H L := hW.sub [0, 1] rfl rfl
          show Wx X k 0 0 H L 106 ls []
          refine r_goto (tgt := 142) C dX5_nextToken_106 (by decide) ?_
          exact r_vret C hq hW (by obtain rfl := Option.some.inj h; exact ⟨rfl, rfl⟩) dX5_nextToken_142
      · replace h := iF c77 h
        refine r_aload_n C hl 0 dX5_nextToken_80 rfl rfl ?_
        obtain ⟨c81_at, c81_token, h81, h⟩ := bd2_some h
        refine r_V (wr := []) (np := 0) C hl (mX5_takeName X ad  v_bytes v_size v_at v_at v_token v_number  (c81_at, c81_token) h81) hW [0, 1] [] rfl rfl rfl rfl (by decide) 0 rfl rfl w_cd_X5_takeName w_ml_X5_32 w_im_X5_takeName w_sel_X5_takeName w_in_HeightSheet_Tape (by decide +kernel) rfl ⟨Nat.le_of_ble_eq_true rfl, Nat.le_of_ble_eq_true rfl⟩ ⟨Nat.zero_le _, Nat.zero_le _⟩ (Nat.le_of_ble_eq_true rfl) dX5_nextToken_81 (fun rv w1 H L hp hW => ?_) rfl
        obtain ⟨rfl, rfl⟩ := hp
        replace hW : Wd X k A [(ad 0, .inr (5, [.ref (ad 1), .int v_size, .int c81_at, .int v_at, .int c81_token, .int v_number])), (ad 1, .inl (eB X, 320, .inl v_bytes))] H L := hW.sub [0, 1] rfl rfl
        show Wx X k 0 0 H L 84 ls []
        refine r_goto (tgt := 142) C dX5_nextToken_84 (by decide) ?_
        exact r_vret C hq hW (by obtain rfl := Option.some.inj h; exact ⟨rfl, rfl⟩) dX5_nextToken_142
    · replace h := iF c54 h
      refine r_aload_n C hl 0 dX5_nextToken_57 rfl rfl ?_
      refine r_iconst (v := 0) C dX5_nextToken_58 (by decide) ?_
      refine r_put (ws' := [(ad 0, .inr (5, [.ref (ad 1), .int v_size, .int v_at, .int v_at, .int (0 : Int32), .int v_number])), (ad 1, .inl (eB X, 320, .inl v_bytes))]) C hW 0 rfl rfl iwX5 tyX5_ok nmX5 4 (by decide) w_fl_X5_25 rfl (tyX5_ok 4 (by decide)) rfl rfl (Nat.le_of_ble_eq_true rfl) rfl dX5_nextToken_59 (fun H L hW => ?_)
      refine r_goto (tgt := 142) C dX5_nextToken_62 (by decide) ?_
      exact r_vret C hq hW (by obtain rfl := Option.some.inj h; exact ⟨rfl, rfl⟩) dX5_nextToken_142
  have K0 : ∀ (v_start : Int32), ∀ (v_token : Int32), ∀ (v_number : Int32), ∀ (n0 : Nat), ∀ (v_at : Int32), ∀ (H : Heap) (L : List Loc) (ls : Array Slot), Wd X k A [(ad 0, .inr (5, [.ref (ad 1), .int v_size, .int v_at, .int v_start, .int v_token, .int v_number])), (ad 1, .inl (eB X, 320, .inl v_bytes))] H L → lv_has ls 1 [(0, .ref (ad 0))] → lq1 (fX5_nextToken_b0 v_bytes v_size  v_start v_token v_number) n0 v_at = some o → Wx X k 0 0 H L 0 ls [] := by
    intro v_start v_token v_number
    intro n0
    induction n0 with
    | zero => intro v_at H L ls hW hl h; exact lq1_0 h
    | succ n0 ih0 =>
      intro v_at H L ls hW hl h
      rw [lq1_s] at h
      unfold fX5_nextToken_b0 at h
      refine r_aload_n C hl 0 dX5_nextToken_0 rfl rfl ?_
      refine r_get C hW 0 rfl rfl iwX5 2 (by decide) w_fl_X5_19 rfl dX5_nextToken_1 ?_
      refine r_aload_n C hl 0 dX5_nextToken_4 rfl rfl ?_
      refine r_get C hW 0 rfl rfl iwX5 1 (by decide) w_fl_X5_15 rfl dX5_nextToken_5 ?_
      refine r_icmp_ge (tgt := 38) C dX5_nextToken_8 (by decide) (fun c8 => ?_) (fun c8 => ?_)
      · replace h := iT c8 h
        exact K38 v_at v_start v_token v_number H L ls hW hl h
      · replace h := iF c8 h
        refine r_aload_n C hl 0 dX5_nextToken_11 rfl rfl ?_
        refine r_get C hW 0 rfl rfl iwX5 0 (by decide) w_fl_X5_9 rfl dX5_nextToken_12 ?_
        refine r_aload_n C hl 0 dX5_nextToken_15 rfl rfl ?_
        refine r_get C hW 0 rfl rfl iwX5 2 (by decide) w_fl_X5_19 rfl dX5_nextToken_16 ?_
        obtain ⟨x19, e19, g19, h⟩ := rd_some h
        refine r_bald C hW 1 rfl g19 e19 dX5_nextToken_19 ?_
        refine r_bipush (v := 32) C dX5_nextToken_20 (by decide) ?_
        refine r_icmp_ne (tgt := 38) C dX5_nextToken_22 (by decide) (fun c22 => ?_) (fun c22 => ?_)
        · replace h := iF c22 h
          exact K38 v_at v_start v_token v_number H L ls hW hl h
        · replace h := iT c22 h
          refine r_aload_n C hl 0 dX5_nextToken_25 rfl rfl ?_
          refine r_dup C rfl dX5_nextToken_26 ?_
          refine r_get C hW 0 rfl rfl iwX5 2 (by decide) w_fl_X5_19 rfl dX5_nextToken_27 ?_
          refine r_iconst (v := 1) C dX5_nextToken_30 (by decide) ?_
          refine r_iadd C dX5_nextToken_31 ?_
          refine r_put (ws' := [(ad 0, .inr (5, [.ref (ad 1), .int v_size, .int (v_at + (1 : Int32)), .int v_start, .int v_token, .int v_number])), (ad 1, .inl (eB X, 320, .inl v_bytes))]) C hW 0 rfl rfl iwX5 tyX5_ok nmX5 2 (by decide) w_fl_X5_19 rfl (tyX5_ok 2 (by decide)) rfl rfl (Nat.le_of_ble_eq_true rfl) rfl dX5_nextToken_32 (fun H L hW => ?_)
          refine r_goto (tgt := 0) C dX5_nextToken_35 (by decide) ?_
          exact ih0 (v_at + (1 : Int32)) H L ls hW hl h
  unfold fX5_nextToken at h
  exact K0 v_start v_token v_number fu v_at H L ls hW hl h
def fX6_fails_j14 (u_token : Int32) (p2 : Int32)  (v_fault : Int32) (s1 : Int32) : Option (Int32 × Int32) :=
  some ((0 : Int32), s1)
def fX6_fails (v_fault : Int32) (u_token : Int32) (p2 : Int32) : Option (Int32 × Int32) :=
  if u_token = (4 : Int32) then
    fX6_fails_j14 u_token p2  v_fault (1 : Int32)
  else
    fX6_fails_j14 u_token p2  v_fault p2
set_option maxRecDepth 100000 in
set_option maxHeartbeats 8000000 in
theorem mX6_fails (X : Ev) (ad : Nat → Nat) (be : Nat → Nat) (v_draft_parts : (Nat → Int32)) (v_lines : Int32) (v_fault : Int32) (u_bytes : (Nat → Int32)) (u_size : Int32) (u_at : Int32) (u_start : Int32) (u_token : Int32) (u_number : Int32) (p2 : Int32) (o : Int32 × Int32) (h : fX6_fails v_fault u_token p2 = some o) : Ctr X yX6_fails cX6_fails 3 (some .boolean) 0 0 0 0 [.ref (ad 0), .ref (be 0), .int p2] [(ad 0, .inr (6, [.ref (ad 1), .int v_lines, .int v_fault])), (ad 1, .inr (1, [.ref (ad 2)])), (ad 2, .inl (eI X, 120, .inl v_draft_parts)), (be 0, .inr (5, [.ref (be 1), .int u_size, .int u_at, .int u_start, .int u_token, .int u_number])), (be 1, .inl (eB X, 320, .inl u_bytes))] (De (some (.int o.1)) [(ad 0, .inr (6, [.ref (ad 1), .int v_lines, .int (o.2)])), (ad 1, .inr (1, [.ref (ad 2)])), (ad 2, .inl (eI X, 120, .inl v_draft_parts)), (be 0, .inr (5, [.ref (be 1), .int u_size, .int u_at, .int u_start, .int u_token, .int u_number])), (be 1, .inl (eB X, 320, .inl u_bytes))]) := by
  refine Ctr.start (by decide) (Nat.le_of_ble_eq_true rfl) (fun k A ls C hq hin hW hl => ?_)
  replace C : Cx X k cX6_fails 3 (some .boolean) RX6 A 0 0 0 0 := C
  replace hl : lv_has ls 3 [(0, .ref (ad 0)), (1, .ref (be 0)), (2, .int p2)] := hl
  suffices hh : ∀ (H : Heap) (L : List Loc), Wd X k A [(ad 0, .inr (6, [.ref (ad 1), .int v_lines, .int v_fault])), (ad 1, .inr (1, [.ref (ad 2)])), (ad 2, .inl (eI X, 120, .inl v_draft_parts)), (be 0, .inr (5, [.ref (be 1), .int u_size, .int u_at, .int u_start, .int u_token, .int u_number])), (be 1, .inl (eB X, 320, .inl u_bytes))] H L → Wx X k 0 0 H L 0 ls [] from hh _ _ hW
  clear hW
  intro H L hW
  have K14 : ∀ (v_fault : Int32), ∀ (s1 : Int32), ∀ (H : Heap) (L : List Loc) (ls : Array Slot), Wd X k A [(ad 0, .inr (6, [.ref (ad 1), .int v_lines, .int v_fault])), (ad 1, .inr (1, [.ref (ad 2)])), (ad 2, .inl (eI X, 120, .inl v_draft_parts)), (be 0, .inr (5, [.ref (be 1), .int u_size, .int u_at, .int u_start, .int u_token, .int u_number])), (be 1, .inl (eB X, 320, .inl u_bytes))] H L → lv_has ls 3 [] → fX6_fails_j14 u_token p2  v_fault s1 = some o → Wx X k 0 0 H L 14 ls [.int s1, .ref (ad 0)] := by
    intro v_fault s1 H L ls hW hl h
    unfold fX6_fails_j14 at h
    refine r_put (ws' := [(ad 0, .inr (6, [.ref (ad 1), .int v_lines, .int s1])), (ad 1, .inr (1, [.ref (ad 2)])), (ad 2, .inl (eI X, 120, .inl v_draft_parts)), (be 0, .inr (5, [.ref (be 1), .int u_size, .int u_at, .int u_start, .int u_token, .int u_number])), (be 1, .inl (eB X, 320, .inl u_bytes))]) C hW 0 rfl rfl iwX6 tyX6_ok nmX6 2 (by decide) w_fl_X6_25 rfl (tyX6_ok 2 (by decide)) rfl rfl (Nat.le_of_ble_eq_true rfl) rfl dX6_fails_14 (fun H L hW => ?_)
    refine r_iconst (v := 0) C dX6_fails_17 (by decide) ?_
    exact r_zret C hq hW (by decide) (by obtain rfl := Option.some.inj h; exact ⟨rfl, rfl⟩) dX6_fails_18
  unfold fX6_fails at h
  refine r_aload_n C hl 0 dX6_fails_0 rfl rfl ?_
  refine r_aload_n C hl 1 dX6_fails_1 rfl rfl ?_
  refine r_getN C hW 3 rfl rfl iwX5 4 (by decide) 2 rfl rfl dX6_fails_2 ?_
  refine r_iconst (v := 4) C dX6_fails_5 (by decide) ?_
  refine r_icmp_ne (tgt := 13) C dX6_fails_6 (by decide) (fun c6 => ?_) (fun c6 => ?_)
  · replace h := iF c6 h
    refine r_iload_n C hl 2 dX6_fails_13 rfl rfl ?_
    exact K14 v_fault p2 H L ls hW (lv_sub hl [] rfl) h
  · replace h := iT c6 h
    refine r_iconst (v := 1) C dX6_fails_9 (by decide) ?_
    refine r_goto (tgt := 14) C dX6_fails_10 (by decide) ?_
    exact K14 v_fault (1 : Int32) H L ls hW (lv_sub hl [] rfl) h
def fX6_takesNumber_j35 (u_bytes : (Nat → Int32)) (u_size : Int32) (p2 : Int32) (p3 : Int32)  (v_fault : Int32) (u_at : Int32) (u_start : Int32) (u_token : Int32) (u_number : Int32) : Option (Int32 × Int32 × Int32 × Int32 × Int32 × Int32) :=
  bd2 (fX6_fails v_fault u_token (3 : Int32)) fun r38 c38_fault =>
  ck (r38 = 0 ∨ r38 = 1) <|
  some (r38, c38_fault, u_at, u_start, u_token, u_number)
def fX6_takesNumber (v_fault : Int32) (u_bytes : (Nat → Int32)) (u_size : Int32) (u_at : Int32) (u_start : Int32) (u_token : Int32) (u_number : Int32) (p2 : Int32) (p3 : Int32) : Option (Int32 × Int32 × Int32 × Int32 × Int32 × Int32) :=
  bd4 (fX5_nextToken u_bytes u_size u_at u_start u_token u_number) fun c1_at c1_start c1_token c1_number =>
  if c1_token = (2 : Int32) then
    if c1_number < p2 then
      fX6_takesNumber_j35 u_bytes u_size p2 p3  v_fault c1_at c1_start c1_token c1_number
    else
      if c1_number ≤ p3 then
        some ((1 : Int32), v_fault, c1_at, c1_start, c1_token, c1_number)
      else
        fX6_takesNumber_j35 u_bytes u_size p2 p3  v_fault c1_at c1_start c1_token c1_number
  else
    bd2 (fX6_fails v_fault c1_token (2 : Int32)) fun r15 c15_fault =>
    ck (r15 = 0 ∨ r15 = 1) <|
    some (r15, c15_fault, c1_at, c1_start, c1_token, c1_number)
set_option maxRecDepth 100000 in
set_option maxHeartbeats 8000000 in
theorem mX6_takesNumber (X : Ev) (ad : Nat → Nat) (be : Nat → Nat) (v_draft_parts : (Nat → Int32)) (v_lines : Int32) (v_fault : Int32) (u_bytes : (Nat → Int32)) (u_size : Int32) (u_at : Int32) (u_start : Int32) (u_token : Int32) (u_number : Int32) (p2 : Int32) (p3 : Int32) (o : Int32 × Int32 × Int32 × Int32 × Int32 × Int32) (h : fX6_takesNumber v_fault u_bytes u_size u_at u_start u_token u_number p2 p3 = some o) : Ctr X yX6_takesNumber cX6_takesNumber 4 (some .boolean) 3 60 0 0 [.ref (ad 0), .ref (be 0), .int p2, .int p3] [(ad 0, .inr (6, [.ref (ad 1), .int v_lines, .int v_fault])), (ad 1, .inr (1, [.ref (ad 2)])), (ad 2, .inl (eI X, 120, .inl v_draft_parts)), (be 0, .inr (5, [.ref (be 1), .int u_size, .int u_at, .int u_start, .int u_token, .int u_number])), (be 1, .inl (eB X, 320, .inl u_bytes))] (De (some (.int o.1)) [(ad 0, .inr (6, [.ref (ad 1), .int v_lines, .int (o.2.1)])), (ad 1, .inr (1, [.ref (ad 2)])), (ad 2, .inl (eI X, 120, .inl v_draft_parts)), (be 0, .inr (5, [.ref (be 1), .int u_size, .int (o.2.2.1), .int (o.2.2.2.1), .int (o.2.2.2.2.1), .int (o.2.2.2.2.2)])), (be 1, .inl (eB X, 320, .inl u_bytes))]) := by
  refine Ctr.start (by decide) (Nat.le_of_ble_eq_true rfl) (fun k A ls C hq hin hW hl => ?_)
  replace C : Cx X k cX6_takesNumber 4 (some .boolean) RX6 A 3 60 0 0 := C
  replace hl : lv_has ls 4 [(0, .ref (ad 0)), (1, .ref (be 0)), (2, .int p2), (3, .int p3)] := hl
  suffices hh : ∀ (H : Heap) (L : List Loc), Wd X k A [(ad 0, .inr (6, [.ref (ad 1), .int v_lines, .int v_fault])), (ad 1, .inr (1, [.ref (ad 2)])), (ad 2, .inl (eI X, 120, .inl v_draft_parts)), (be 0, .inr (5, [.ref (be 1), .int u_size, .int u_at, .int u_start, .int u_token, .int u_number])), (be 1, .inl (eB X, 320, .inl u_bytes))] H L → Wx X k 0 0 H L 0 ls [] from hh _ _ hW
  clear hW
  intro H L hW
  have K35 : ∀ (v_fault : Int32), ∀ (u_at : Int32), ∀ (u_start : Int32), ∀ (u_token : Int32), ∀ (u_number : Int32), ∀ (H : Heap) (L : List Loc) (ls : Array Slot), Wd X k A [(ad 0, .inr (6, [.ref (ad 1), .int v_lines, .int v_fault])), (ad 1, .inr (1, [.ref (ad 2)])), (ad 2, .inl (eI X, 120, .inl v_draft_parts)), (be 0, .inr (5, [.ref (be 1), .int u_size, .int u_at, .int u_start, .int u_token, .int u_number])), (be 1, .inl (eB X, 320, .inl u_bytes))] H L → lv_has ls 4 [(0, .ref (ad 0)), (1, .ref (be 0))] → fX6_takesNumber_j35 u_bytes u_size p2 p3  v_fault u_at u_start u_token u_number = some o → Wx X k 0 0 H L 35 ls [] := by
    intro v_fault u_at u_start u_token u_number H L ls hW hl h
    unfold fX6_takesNumber_j35 at h
    refine r_aload_n C hl 0 dX6_takesNumber_35 rfl rfl ?_
    refine r_aload_n C hl 1 dX6_takesNumber_36 rfl rfl ?_
    refine r_iconst (v := 3) C dX6_takesNumber_37 (by decide) ?_
    obtain ⟨r38, c38_fault, h38, h⟩ := bd2_some h
    refine r_V (wr := []) (np := 2) C hl (mX6_fails X ad be  v_draft_parts v_lines v_fault u_bytes u_size u_at u_start u_token u_number (3 : Int32) (r38, c38_fault) h38) hW [0, 1, 2, 3, 4] [] rfl rfl rfl rfl (by decide) 0 rfl rfl w_cd_X6_fails w_ml_X6_47 w_im_X6_fails w_sel_X6_fails w_in_HeightSheet_TextReader (by decide +kernel) rfl ⟨Nat.le_of_ble_eq_true rfl, Nat.le_of_ble_eq_true rfl⟩ ⟨Nat.zero_le _, Nat.zero_le _⟩ (Nat.le_of_ble_eq_true rfl) dX6_takesNumber_38 (fun rv w1 H L hp hW => ?_) rfl
    obtain ⟨rfl, rfl⟩ := hp
    replace hW : Wd X k A [(ad 0, .inr (6, [.ref (ad 1), .int v_lines, .int c38_fault])), (ad 1, .inr (1, [.ref (ad 2)])), (ad 2, .inl (eI X, 120, .inl v_draft_parts)), (be 0, .inr (5, [.ref (be 1), .int u_size, .int u_at, .int u_start, .int u_token, .int u_number])), (be 1, .inl (eB X, 320, .inl u_bytes))] H L := hW.sub [0, 1, 2, 3, 4] rfl rfl
    show Wx X k 0 0 H L 41 ls [.int r38]
    obtain ⟨z41, h⟩ := ck_some h
    exact r_zret C hq hW (zb_n z41) (by obtain rfl := Option.some.inj h; exact ⟨rfl, rfl⟩) dX6_takesNumber_41
  unfold fX6_takesNumber at h
  refine r_aload_n C hl 1 dX6_takesNumber_0 rfl rfl ?_
  obtain ⟨c1_at, c1_start, c1_token, c1_number, h1, h⟩ := bd4_some h
  refine r_VN (wr := [(ad 0, .inr (6, [.ref (ad 1), .int v_lines, .int v_fault])), (ad 1, .inr (1, [.ref (ad 2)])), (ad 2, .inl (eI X, 120, .inl v_draft_parts))]) (np := 0) C hl (mX5_nextToken X be  u_bytes u_size u_at u_start u_token u_number  (c1_at, c1_start, c1_token, c1_number) h1) hW [3, 4] [0, 1, 2] rfl rfl rfl rfl (by decide) 0 rfl rfl w_cd_X5_nextToken w_im_X5_nextToken w_sel_X5_nextToken w_in_HeightSheet_Tape 16 rfl (by decide +kernel) rfl ⟨Nat.le_of_ble_eq_true rfl, Nat.le_of_ble_eq_true rfl⟩ ⟨Nat.zero_le _, Nat.zero_le _⟩ (Nat.le_of_ble_eq_true rfl) dX6_takesNumber_1 (fun rv w1 H L hp hW => ?_) rfl
  obtain ⟨rfl, rfl⟩ := hp
  replace hW : Wd X k A [(ad 0, .inr (6, [.ref (ad 1), .int v_lines, .int v_fault])), (ad 1, .inr (1, [.ref (ad 2)])), (ad 2, .inl (eI X, 120, .inl v_draft_parts)), (be 0, .inr (5, [.ref (be 1), .int u_size, .int c1_at, .int c1_start, .int c1_token, .int c1_number])), (be 1, .inl (eB X, 320, .inl u_bytes))] H L := hW.sub [0, 1, 2, 3, 4] rfl rfl
  show Wx X k 0 0 H L 4 ls []
  refine r_aload_n C hl 1 dX6_takesNumber_4 rfl rfl ?_
  refine r_getN C hW 3 rfl rfl iwX5 4 (by decide) 2 rfl rfl dX6_takesNumber_5 ?_
  refine r_iconst (v := 2) C dX6_takesNumber_8 (by decide) ?_
  refine r_icmp_eq (tgt := 19) C dX6_takesNumber_9 (by decide) (fun c9 => ?_) (fun c9 => ?_)
  · replace h := iT c9 h
    refine r_aload_n C hl 1 dX6_takesNumber_19 rfl rfl ?_
    refine r_getN C hW 3 rfl rfl iwX5 5 (by decide) 3 rfl rfl dX6_takesNumber_20 ?_
    refine r_iload_n C hl 2 dX6_takesNumber_23 rfl rfl ?_
    refine r_icmp_lt (tgt := 35) C dX6_takesNumber_24 (by decide) (fun c24 => ?_) (fun c24 => ?_)
    · replace h := iT c24 h
      exact K35 v_fault c1_at c1_start c1_token c1_number H L ls hW (lv_sub hl [0, 1] rfl) h
    · replace h := iF c24 h
      refine r_aload_n C hl 1 dX6_takesNumber_27 rfl rfl ?_
      refine r_getN C hW 3 rfl rfl iwX5 5 (by decide) 3 rfl rfl dX6_takesNumber_28 ?_
      refine r_iload_n C hl 3 dX6_takesNumber_31 rfl rfl ?_
      refine r_icmp_le (tgt := 42) C dX6_takesNumber_32 (by decide) (fun c32 => ?_) (fun c32 => ?_)
      · replace h := iT c32 h
        refine r_iconst (v := 1) C dX6_takesNumber_42 (by decide) ?_
        exact r_zret C hq hW (by decide) (by obtain rfl := Option.some.inj h; exact ⟨rfl, rfl⟩) dX6_takesNumber_43
      · replace h := iF c32 h
        exact K35 v_fault c1_at c1_start c1_token c1_number H L ls hW (lv_sub hl [0, 1] rfl) h
  · replace h := iF c9 h
    refine r_aload_n C hl 0 dX6_takesNumber_12 rfl rfl ?_
    refine r_aload_n C hl 1 dX6_takesNumber_13 rfl rfl ?_
    refine r_iconst (v := 2) C dX6_takesNumber_14 (by decide) ?_
    obtain ⟨r15, c15_fault, h15, h⟩ := bd2_some h
    refine r_V (wr := []) (np := 2) C hl (mX6_fails X ad be  v_draft_parts v_lines v_fault u_bytes u_size c1_at c1_start c1_token c1_number (2 : Int32) (r15, c15_fault) h15) hW [0, 1, 2, 3, 4] [] rfl rfl rfl rfl (by decide) 0 rfl rfl w_cd_X6_fails w_ml_X6_47 w_im_X6_fails w_sel_X6_fails w_in_HeightSheet_TextReader (by decide +kernel) rfl ⟨Nat.le_of_ble_eq_true rfl, Nat.le_of_ble_eq_true rfl⟩ ⟨Nat.zero_le _, Nat.zero_le _⟩ (Nat.le_of_ble_eq_true rfl) dX6_takesNumber_15 (fun rv w1 H L hp hW => ?_) rfl
    obtain ⟨rfl, rfl⟩ := hp
    replace hW : Wd X k A [(ad 0, .inr (6, [.ref (ad 1), .int v_lines, .int c15_fault])), (ad 1, .inr (1, [.ref (ad 2)])), (ad 2, .inl (eI X, 120, .inl v_draft_parts)), (be 0, .inr (5, [.ref (be 1), .int u_size, .int c1_at, .int c1_start, .int c1_token, .int c1_number])), (be 1, .inl (eB X, 320, .inl u_bytes))] H L := hW.sub [0, 1, 2, 3, 4] rfl rfl
    show Wx X k 0 0 H L 18 ls [.int r15]
    obtain ⟨z18, h⟩ := ck_some h
    exact r_zret C hq hW (zb_n z18) (by obtain rfl := Option.some.inj h; exact ⟨rfl, rfl⟩) dX6_takesNumber_18
