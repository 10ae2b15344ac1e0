def fX3_settle (v_values : (Nat → Int32)) (v_waitsFor : (Nat → Int32)) (v_known : Int32) (p1 : Int32) (p2 : Int32) : Option ((Nat → Int32) × (Nat → Int32) × Int32) :=
  wr v_values 30 p1 p2 fun w6 =>
  bd1 (fX7_bit p1) fun r13 =>
  wr v_waitsFor 30 p1 (-4 : Int32) fun w27 =>
  some (w6, w27, v_known ||| r13)
set_option maxRecDepth 100000 in
set_option maxHeartbeats 8000000 in
theorem mX3_settle (X : Ev) (ad : Nat → Nat) (v_values : (Nat → Int32)) (v_heights : (Nat → Int32)) (v_readBits : (Nat → Int32)) (v_waitsFor : (Nat → Int32)) (v_known : Int32) (v_circular : Int32) (v_circles : Int32) (p1 : Int32) (p2 : Int32) (o : (Nat → Int32) × (Nat → Int32) × Int32) (h : fX3_settle v_values v_waitsFor v_known p1 p2 = some o) : Ctr X yX3_settle cX3_settle 3 none 1 20 0 0 [.ref (ad 0), .int p1, .int p2] [(ad 0, .inr (3, [.ref (ad 1), .ref (ad 2), .ref (ad 3), .ref (ad 4), .int v_known, .int v_circular, .int v_circles])), (ad 1, .inl (eI X, 30, .inl v_values)), (ad 2, .inl (eI X, 30, .inl v_heights)), (ad 3, .inl (eI X, 30, .inl v_readBits)), (ad 4, .inl (eI X, 30, .inl v_waitsFor))] (De none [(ad 0, .inr (3, [.ref (ad 1), .ref (ad 2), .ref (ad 3), .ref (ad 4), .int (o.2.2), .int v_circular, .int v_circles])), (ad 1, .inl (eI X, 30, .inl (o.1))), (ad 2, .inl (eI X, 30, .inl v_heights)), (ad 3, .inl (eI X, 30, .inl v_readBits)), (ad 4, .inl (eI X, 30, .inl (o.2.1)))]) := by
  refine Ctr.start (by decide) (Nat.le_of_ble_eq_true rfl) (fun k A ls C hq hin hW hl => ?_)
  replace C : Cx X k cX3_settle 3 none RX3 A 1 20 0 0 := C
  replace hl : lv_has ls 3 [(0, .ref (ad 0)), (1, .int p1), (2, .int p2)] := hl
  suffices hh : ∀ (H : Heap) (L : List Loc), Wd X k A [(ad 0, .inr (3, [.ref (ad 1), .ref (ad 2), .ref (ad 3), .ref (ad 4), .int v_known, .int v_circular, .int v_circles])), (ad 1, .inl (eI X, 30, .inl v_values)), (ad 2, .inl (eI X, 30, .inl v_heights)), (ad 3, .inl (eI X, 30, .inl v_readBits)), (ad 4, .inl (eI X, 30, .inl v_waitsFor))] H L → Wx X k 0 0 H L 0 ls [] from hh _ _ hW
  clear hW
  intro H L hW
  unfold fX3_settle at h
  refine r_aload_n C hl 0 dX3_settle_0 rfl rfl ?_
  refine r_get C hW 0 rfl rfl iwX3 0 (by decide) w_fl_X3_9 rfl dX3_settle_1 ?_
  refine r_iload_n C hl 1 dX3_settle_4 rfl rfl ?_
  refine r_iload_n C hl 2 dX3_settle_5 rfl rfl ?_
  obtain ⟨w6, e6, g6, h⟩ := wr_some h
  refine r_iast (ws' := [(ad 0, .inr (3, [.ref (ad 1), .ref (ad 2), .ref (ad 3), .ref (ad 4), .int v_known, .int v_circular, .int v_circles])), (ad 1, .inl (eI X, 30, .inl w6)), (ad 2, .inl (eI X, 30, .inl v_heights)), (ad 3, .inl (eI X, 30, .inl v_readBits)), (ad 4, .inl (eI X, 30, .inl v_waitsFor))]) C hW 1 rfl g6 e6 rfl dX3_settle_6 (fun H L hW => ?_)
  refine r_aload_n C hl 0 dX3_settle_7 rfl rfl ?_
  refine r_dup C rfl dX3_settle_8 ?_
  refine r_get C hW 0 rfl rfl iwX3 4 (by decide) w_fl_X3_30 rfl dX3_settle_9 ?_
  refine r_iload_n C hl 1 dX3_settle_12 rfl rfl ?_
  obtain ⟨r13, h13, h⟩ := bd1_some h
  refine r_SN (wr := [(ad 0, .inr (3, [.ref (ad 1), .ref (ad 2), .ref (ad 3), .ref (ad 4), .int v_known, .int v_circular, .int v_circles])), (ad 1, .inl (eI X, 30, .inl w6)), (ad 2, .inl (eI X, 30, .inl v_heights)), (ad 3, .inl (eI X, 30, .inl v_readBits)), (ad 4, .inl (eI X, 30, .inl v_waitsFor))]) (np := 1) C hl (mX7_bit X    p1 r13 h13) hW [] [0, 1, 2, 3, 4] rfl rfl rfl rfl (by decide) w_cd_X7_bit w_st_X7_bit w_in_HeightSheet 11 rfl (by decide +kernel) rfl ⟨Nat.le_of_ble_eq_true rfl, Nat.le_of_ble_eq_true rfl⟩ ⟨Nat.zero_le _, Nat.zero_le _⟩ (Nat.le_of_ble_eq_true rfl) dX3_settle_13 (fun rv w1 H L hp hW => ?_) rfl
  obtain ⟨rfl, rfl⟩ := hp
  replace hW : Wd X k A [(ad 0, .inr (3, [.ref (ad 1), .ref (ad 2), .ref (ad 3), .ref (ad 4), .int v_known, .int v_circular, .int v_circles])), (ad 1, .inl (eI X, 30, .inl w6)), (ad 2, .inl (eI X, 30, .inl v_heights)), (ad 3, .inl (eI X, 30, .inl v_readBits)), (ad 4, .inl (eI X, 30, .inl v_waitsFor))] H L := hW.sub [0, 1, 2, 3, 4] rfl rfl
  show Wx X k 0 0 H L 16 ls [.int r13, .int v_known, .ref (ad 0)]
  refine r_ior C dX3_settle_16 ?_
  refine r_put (ws' := [(ad 0, .inr (3, [.ref (ad 1), .ref (ad 2), .ref (ad 3), .ref (ad 4), .int (v_known ||| r13), .int v_circular, .int v_circles])), (ad 1, .inl (eI X, 30, .inl w6)), (ad 2, .inl (eI X, 30, .inl v_heights)), (ad 3, .inl (eI X, 30, .inl v_readBits)), (ad 4, .inl (eI X, 30, .inl v_waitsFor))]) C hW 0 rfl rfl iwX3 tyX3_ok nmX3 4 (by decide) w_fl_X3_30 rfl (tyX3_ok 4 (by decide)) rfl rfl (Nat.le_of_ble_eq_true rfl) rfl dX3_settle_17 (fun H L hW => ?_)
  refine r_aload_n C hl 0 dX3_settle_20 rfl rfl ?_
  refine r_get C hW 0 rfl rfl iwX3 3 (by decide) w_fl_X3_21 rfl dX3_settle_21 ?_
  refine r_iload_n C hl 1 dX3_settle_24 rfl rfl ?_
  refine r_bipush (v := -4) C dX3_settle_25 (by decide) ?_
  obtain ⟨w27, e27, g27, h⟩ := wr_some h
  refine r_iast (ws' := [(ad 0, .inr (3, [.ref (ad 1), .ref (ad 2), .ref (ad 3), .ref (ad 4), .int (v_known ||| r13), .int v_circular, .int v_circles])), (ad 1, .inl (eI X, 30, .inl w6)), (ad 2, .inl (eI X, 30, .inl v_heights)), (ad 3, .inl (eI X, 30, .inl v_readBits)), (ad 4, .inl (eI X, 30, .inl w27))]) C hW 4 rfl g27 e27 rfl dX3_settle_27 (fun H L hW => ?_)
  exact r_vret C hq hW (by obtain rfl := Option.some.inj h; exact ⟨rfl, rfl⟩) dX3_settle_28
def fX3_takes (v_heights : (Nat → Int32)) (v_readBits : (Nat → Int32)) (v_waitsFor : (Nat → Int32)) (v_known : Int32) (p1 : Int32) (p2 : Int32) : Option (Int32 × (Nat → Int32) × (Nat → Int32) × (Nat → Int32)) :=
  rd v_readBits 30 p1 fun x6 =>
  bd1 (fX7_bit p2) fun r8 =>
  wr v_readBits 30 p1 (x6 ||| r8) fun w12 =>
  bd1 (fX7_has v_known p2) fun r18 =>
  if r18 = (0 : Int32) then
    wr v_waitsFor 30 p1 p2 fun w30 =>
    some ((0 : Int32), v_heights, w12, w30)
  else
    rd v_heights 30 p1 fun x43 =>
    rd v_heights 30 p2 fun x49 =>
    wr v_heights 30 p1 (if x43 < (x49 + (1 : Int32)) then (x49 + (1 : Int32)) else x43) fun w55 =>
    some ((1 : Int32), w55, w12, v_waitsFor)
set_option maxRecDepth 100000 in
set_option maxHeartbeats 8000000 in
theorem mX3_takes (X : Ev) (ad : Nat → Nat) (v_values : (Nat → Int32)) (v_heights : (Nat → Int32)) (v_readBits : (Nat → Int32)) (v_waitsFor : (Nat → Int32)) (v_known : Int32) (v_circular : Int32) (v_circles : Int32) (p1 : Int32) (p2 : Int32) (o : Int32 × (Nat → Int32) × (Nat → Int32) × (Nat → Int32)) (h : fX3_takes v_heights v_readBits v_waitsFor v_known p1 p2 = some o) : Ctr X yX3_takes cX3_takes 3 (some .boolean) 1 23 0 0 [.ref (ad 0), .int p1, .int p2] [(ad 0, .inr (3, [.ref (ad 1), .ref (ad 2), .ref (ad 3), .ref (ad 4), .int v_known, .int v_circular, .int v_circles])), (ad 1, .inl (eI X, 30, .inl v_values)), (ad 2, .inl (eI X, 30, .inl v_heights)), (ad 3, .inl (eI X, 30, .inl v_readBits)), (ad 4, .inl (eI X, 30, .inl v_waitsFor))] (De (some (.int o.1)) [(ad 0, .inr (3, [.ref (ad 1), .ref (ad 2), .ref (ad 3), .ref (ad 4), .int v_known, .int v_circular, .int v_circles])), (ad 1, .inl (eI X, 30, .inl v_values)), (ad 2, .inl (eI X, 30, .inl (o.2.1))), (ad 3, .inl (eI X, 30, .inl (o.2.2.1))), (ad 4, .inl (eI X, 30, .inl (o.2.2.2)))]) := by
  refine Ctr.start (by decide) (Nat.le_of_ble_eq_true rfl) (fun k A ls C hq hin hW hl => ?_)
  replace C : Cx X k cX3_takes 3 (some .boolean) RX3 A 1 23 0 0 := C
  replace hl : lv_has ls 3 [(0, .ref (ad 0)), (1, .int p1), (2, .int p2)] := hl
  suffices hh : ∀ (H : Heap) (L : List Loc), Wd X k A [(ad 0, .inr (3, [.ref (ad 1), .ref (ad 2), .ref (ad 3), .ref (ad 4), .int v_known, .int v_circular, .int v_circles])), (ad 1, .inl (eI X, 30, .inl v_values)), (ad 2, .inl (eI X, 30, .inl v_heights)), (ad 3, .inl (eI X, 30, .inl v_readBits)), (ad 4, .inl (eI X, 30, .inl v_waitsFor))] H L → Wx X k 0 0 H L 0 ls [] from hh _ _ hW
  clear hW
  intro H L hW
  unfold fX3_takes at h
  refine r_aload_n C hl 0 dX3_takes_0 rfl rfl ?_
  refine r_get C hW 0 rfl rfl iwX3 2 (by decide) w_fl_X3_18 rfl dX3_takes_1 ?_
  refine r_iload_n C hl 1 dX3_takes_4 rfl rfl ?_
  refine r_dup2 C rfl rfl dX3_takes_5 ?_
  obtain ⟨x6, e6, g6, h⟩ := rd_some h
  refine r_iald C hW 3 rfl g6 e6 dX3_takes_6 ?_
  refine r_iload_n C hl 2 dX3_takes_7 rfl rfl ?_
  obtain ⟨r8, h8, h⟩ := bd1_some h
  refine r_SN (wr := [(ad 0, .inr (3, [.ref (ad 1), .ref (ad 2), .ref (ad 3), .ref (ad 4), .int v_known, .int v_circular, .int v_circles])), (ad 1, .inl (eI X, 30, .inl v_values)), (ad 2, .inl (eI X, 30, .inl v_heights)), (ad 3, .inl (eI X, 30, .inl v_readBits)), (ad 4, .inl (eI X, 30, .inl v_waitsFor))]) (np := 1) C hl (mX7_bit X    p2 r8 h8) hW [] [0, 1, 2, 3, 4] rfl rfl rfl rfl (by decide) w_cd_X7_bit w_st_X7_bit w_in_HeightSheet 11 rfl (by decide +kernel) rfl ⟨Nat.le_of_ble_eq_true rfl, Nat.le_of_ble_eq_true rfl⟩ ⟨Nat.zero_le _, Nat.zero_le _⟩ (Nat.le_of_ble_eq_true rfl) dX3_takes_8 (fun rv w1 H L hp hW => ?_) rfl
  obtain ⟨rfl, rfl⟩ := hp
  replace hW : Wd X k A [(ad 0, .inr (3, [.ref (ad 1), .ref (ad 2), .ref (ad 3), .ref (ad 4), .int v_known, .int v_circular, .int v_circles])), (ad 1, .inl (eI X, 30, .inl v_values)), (ad 2, .inl (eI X, 30, .inl v_heights)), (ad 3, .inl (eI X, 30, .inl v_readBits)), (ad 4, .inl (eI X, 30, .inl v_waitsFor))] H L := hW.sub [0, 1, 2, 3, 4] rfl rfl
  show Wx X k 0 0 H L 11 ls [.int r8, .int x6, .int p1, .ref (ad 3)]
  refine r_ior C dX3_takes_11 ?_
  obtain ⟨w12, e12, g12, h⟩ := wr_some h
  refine r_iast (ws' := [(ad 0, .inr (3, [.ref (ad 1), .ref (ad 2), .ref (ad 3), .ref (ad 4), .int v_known, .int v_circular, .int v_circles])), (ad 1, .inl (eI X, 30, .inl v_values)), (ad 2, .inl (eI X, 30, .inl v_heights)), (ad 3, .inl (eI X, 30, .inl w12)), (ad 4, .inl (eI X, 30, .inl v_waitsFor))]) C hW 3 rfl g12 e12 rfl dX3_takes_12 (fun H L hW => ?_)
  refine r_aload_n C hl 0 dX3_takes_13 rfl rfl ?_
  refine r_get C hW 0 rfl rfl iwX3 4 (by decide) w_fl_X3_30 rfl dX3_takes_14 ?_
  refine r_iload_n C hl 2 dX3_takes_17 rfl rfl ?_
  obtain ⟨r18, h18, h⟩ := bd1_some h
  refine r_SN (wr := [(ad 0, .inr (3, [.ref (ad 1), .ref (ad 2), .ref (ad 3), .ref (ad 4), .int v_known, .int v_circular, .int v_circles])), (ad 1, .inl (eI X, 30, .inl v_values)), (ad 2, .inl (eI X, 30, .inl v_heights)), (ad 3, .inl (eI X, 30, .inl w12)), (ad 4, .inl (eI X, 30, .inl v_waitsFor))]) (np := 2) C hl (mX7_has X    v_known p2 r18 h18) hW [] [0, 1, 2, 3, 4] rfl rfl rfl rfl (by decide) w_cd_X7_has w_st_X7_has w_in_HeightSheet 9 rfl (by decide +kernel) rfl ⟨Nat.le_of_ble_eq_true rfl, Nat.le_of_ble_eq_true rfl⟩ ⟨Nat.zero_le _, Nat.zero_le _⟩ (Nat.le_of_ble_eq_true rfl) dX3_takes_18 (fun rv w1 H L hp hW => ?_) rfl
  obtain ⟨rfl, rfl⟩ := hp
  replace hW : Wd X k A [(ad 0, .inr (3, [.ref (ad 1), .ref (ad 2), .ref (ad 3), .ref (ad 4), .int v_known, .int v_circular, .int v_circles])), (ad 1, .inl (eI X, 30, .inl v_values)), (ad 2, .inl (eI X, 30, .inl v_heights)), (ad 3, .inl (eI X, 30, .inl w12)), (ad 4, .inl (eI X, 30, .inl v_waitsFor))] H L := hW.sub [0, 1, 2, 3, 4] rfl rfl
  show Wx X k 0 0 H L 21 ls [.int r18]
  refine r_if_ne (tgt := 33) C dX3_takes_21 (by decide) (fun c21 => ?_) (fun c21 => ?_)
  · replace h := iF c21 h
    refine r_aload_n C hl 0 dX3_takes_33 rfl rfl ?_
    refine r_get C hW 0 rfl rfl iwX3 1 (by decide) w_fl_X3_15 rfl dX3_takes_34 ?_
    refine r_iload_n C hl 1 dX3_takes_37 rfl rfl ?_
    refine r_aload_n C hl 0 dX3_takes_38 rfl rfl ?_
    refine r_get C hW 0 rfl rfl iwX3 1 (by decide) w_fl_X3_15 rfl dX3_takes_39 ?_
    refine r_iload_n C hl 1 dX3_takes_42 rfl rfl ?_
    obtain ⟨x43, e43, g43, h⟩ := rd_some h
    refine r_iald C hW 2 rfl g43 e43 dX3_takes_43 ?_
    refine r_aload_n C hl 0 dX3_takes_44 rfl rfl ?_
    refine r_get C hW 0 rfl rfl iwX3 1 (by decide) w_fl_X3_15 rfl dX3_takes_45 ?_
    refine r_iload_n C hl 2 dX3_takes_48 rfl rfl ?_
    obtain ⟨x49, e49, g49, h⟩ := rd_some h
    refine r_iald C hW 2 rfl g49 e49 dX3_takes_49 ?_
    refine r_iconst (v := 1) C dX3_takes_50 (by decide) ?_
    refine r_iadd C dX3_takes_51 ?_
    refine r_max C hl w_ml_X3_76 (Nat.le_of_ble_eq_true rfl) (Nat.le_of_ble_eq_true rfl) (Nat.zero_le _) (Nat.zero_le _) dX3_takes_52 ?_
    obtain ⟨w55, e55, g55, h⟩ := wr_some h
    refine r_iast (ws' := [(ad 0, .inr (3, [.ref (ad 1), .ref (ad 2), .ref (ad 3), .ref (ad 4), .int v_known, .int v_circular, .int v_circles])), (ad 1, .inl (eI X, 30, .inl v_values)), (ad 2, .inl (eI X, 30, .inl w55)), (ad 3, .inl (eI X, 30, .inl w12)), (ad 4, .inl (eI X, 30, .inl v_waitsFor))]) C hW 2 rfl g55 e55 rfl dX3_takes_55 (fun H L hW => ?_)
    refine r_iconst (v := 1) C dX3_takes_56 (by decide) ?_
    exact r_zret C hq hW (by decide) (by obtain rfl := Option.some.inj h; exact ⟨rfl, rfl⟩) dX3_takes_57
  · replace h := iT c21 h
    refine r_aload_n C hl 0 dX3_takes_24 rfl rfl ?_
    refine r_get C hW 0 rfl rfl iwX3 3 (by decide) w_fl_X3_21 rfl dX3_takes_25 ?_
    refine r_iload_n C hl 1 dX3_takes_28 rfl rfl ?_
    refine r_iload_n C hl 2 dX3_takes_29 rfl rfl ?_
    obtain ⟨w30, e30, g30, h⟩ := wr_some h
    refine r_iast (ws' := [(ad 0, .inr (3, [.ref (ad 1), .ref (ad 2), .ref (ad 3), .ref (ad 4), .int v_known, .int v_circular, .int v_circles])), (ad 1, .inl (eI X, 30, .inl v_values)), (ad 2, .inl (eI X, 30, .inl v_heights)), (ad 3, .inl (eI X, 30, .inl w12)), (ad 4, .inl (eI X, 30, .inl w30))]) C hW 4 rfl g30 e30 rfl dX3_takes_30 (fun H L hW => ?_)
    refine r_iconst (v := 0) C dX3_takes_31 (by decide) ?_
    exact r_zret C hq hW (by decide) (by obtain rfl := Option.some.inj h; exact ⟨rfl, rfl⟩) dX3_takes_32
def fX3_settleAs (v_values : (Nat → Int32)) (v_heights : (Nat → Int32)) (v_readBits : (Nat → Int32)) (v_waitsFor : (Nat → Int32)) (v_known : Int32) (p1 : Int32) (p2 : Int32) : Option ((Nat → Int32) × (Nat → Int32) × (Nat → Int32) × (Nat → Int32) × Int32) :=
  bd4 (fX3_takes v_heights v_readBits v_waitsFor v_known p1 p2) fun r3 c3_heights c3_readBits c3_waitsFor =>
  if r3 = (0 : Int32) then
    some (v_values, c3_heights, c3_readBits, c3_waitsFor, v_known)
  else
    rd v_values 30 p2 fun x16 =>
    bd3 (fX3_settle v_values c3_waitsFor v_known p1 x16) fun c17_values c17_waitsFor c17_known =>
    some (c17_values, c3_heights, c3_readBits, c17_waitsFor, c17_known)
set_option maxRecDepth 100000 in
set_option maxHeartbeats 8000000 in
theorem mX3_settleAs (X : Ev) (ad : Nat → Nat) (v_values : (Nat → Int32)) (v_heights : (Nat → Int32)) (v_readBits : (Nat → Int32)) (v_waitsFor : (Nat → Int32)) (v_known : Int32) (v_circular : Int32) (v_circles : Int32) (p1 : Int32) (p2 : Int32) (o : (Nat → Int32) × (Nat → Int32) × (Nat → Int32) × (Nat → Int32) × Int32) (h : fX3_settleAs v_values v_heights v_readBits v_waitsFor v_known p1 p2 = some o) : Ctr X yX3_settleAs cX3_settleAs 3 none 2 45 0 0 [.ref (ad 0), .int p1, .int p2] [(ad 0, .inr (3, [.ref (ad 1), .ref (ad 2), .ref (ad 3), .ref (ad 4), .int v_known, .int v_circular, .int v_circles])), (ad 1, .inl (eI X, 30, .inl v_values)), (ad 2, .inl (eI X, 30, .inl v_heights)), (ad 3, .inl (eI X, 30, .inl v_readBits)), (ad 4, .inl (eI X, 30, .inl v_waitsFor))] (De none [(ad 0, .inr (3, [.ref (ad 1), .ref (ad 2), .ref (ad 3), .ref (ad 4), .int (o.2.2.2.2), .int v_circular, .int v_circles])), (ad 1, .inl (eI X, 30, .inl (o.1))), (ad 2, .inl (eI X, 30, .inl (o.2.1))), (ad 3, .inl (eI X, 30, .inl (o.2.2.1))), (ad 4, .inl (eI X, 30, .inl (o.2.2.2.1)))]) := by
  refine Ctr.start (by decide) (Nat.le_of_ble_eq_true rfl) (fun k A ls C hq hin hW hl => ?_)
  replace C : Cx X k cX3_settleAs 3 none RX3 A 2 45 0 0 := C
  replace hl : lv_has ls 3 [(0, .ref (ad 0)), (1, .int p1), (2, .int p2)] := hl
  suffices hh : ∀ (H : Heap) (L : List Loc), Wd X k A [(ad 0, .inr (3, [.ref (ad 1), .ref (ad 2), .ref (ad 3), .ref (ad 4), .int v_known, .int v_circular, .int v_circles])), (ad 1, .inl (eI X, 30, .inl v_values)), (ad 2, .inl (eI X, 30, .inl v_heights)), (ad 3, .inl (eI X, 30, .inl v_readBits)), (ad 4, .inl (eI X, 30, .inl v_waitsFor))] H L → Wx X k 0 0 H L 0 ls [] from hh _ _ hW
  clear hW
  intro H L hW
  unfold fX3_settleAs at h
  refine r_aload_n C hl 0 dX3_settleAs_0 rfl rfl ?_
  refine r_iload_n C hl 1 dX3_settleAs_1 rfl rfl ?_
  refine r_iload_n C hl 2 dX3_settleAs_2 rfl rfl ?_
  obtain ⟨r3, c3_heights, c3_readBits, c3_waitsFor, h3, h⟩ := bd4_some h
  refine r_V (wr := []) (np := 2) C hl (mX3_takes X ad  v_values v_heights v_readBits v_waitsFor v_known v_circular v_circles p1 p2 (r3, c3_heights, c3_readBits, c3_waitsFor) h3) hW [0, 1, 2, 3, 4] [] rfl rfl rfl rfl (by decide) 0 rfl rfl w_cd_X3_takes w_ml_X3_55 w_im_X3_takes w_sel_X3_takes w_in_HeightSheet_Reckoning (by decide +kernel) rfl ⟨Nat.le_of_ble_eq_true rfl, Nat.le_of_ble_eq_true rfl⟩ ⟨Nat.zero_le _, Nat.zero_le _⟩ (Nat.le_of_ble_eq_true rfl) dX3_settleAs_3 (fun rv w1 H L hp hW => ?_) rfl
  obtain ⟨rfl, rfl⟩ := hp
  replace hW : Wd X k A [(ad 0, .inr (3, [.ref (ad 1), .ref (ad 2), .ref (ad 3), .ref (ad 4), .int v_known, .int v_circular, .int v_circles])), (ad 1, .inl (eI X, 30, .inl v_values)), (ad 2, .inl (eI X, 30, .inl c3_heights)), (ad 3, .inl (eI X, 30, .inl c3_readBits)), (ad 4, .inl (eI X, 30, .inl c3_waitsFor))] H L := hW.sub [0, 1, 2, 3, 4] rfl rfl
  show Wx X k 0 0 H L 6 ls [.int r3]
  refine r_if_eq (tgt := 20) C dX3_settleAs_6 (by decide) (fun c6 => ?_) (fun c6 => ?_)
  · replace h := iT c6 h
    exact r_vret C hq hW (by obtain rfl := Option.some.inj h; exact ⟨rfl, rfl⟩) dX3_settleAs_20
  · replace h := iF c6 h
    refine r_aload_n C hl 0 dX3_settleAs_9 rfl rfl ?_
    refine r_iload_n C hl 1 dX3_settleAs_10 rfl rfl ?_
    refine r_aload_n C hl 0 dX3_settleAs_11 rfl rfl ?_
    refine r_get C hW 0 rfl rfl iwX3 0 (by decide) w_fl_X3_9 rfl dX3_settleAs_12 ?_
    refine r_iload_n C hl 2 dX3_settleAs_15 rfl rfl ?_
    obtain ⟨x16, e16, g16, h⟩ := rd_some h
    refine r_iald C hW 1 rfl g16 e16 dX3_settleAs_16 ?_
    obtain ⟨c17_values, c17_waitsFor, c17_known, h17, h⟩ := bd3_some h
    refine r_V (wr := []) (np := 2) C hl (mX3_settle X ad  v_values c3_heights c3_readBits c3_waitsFor v_known v_circular v_circles p1 x16 (c17_values, c17_waitsFor, c17_known) h17) hW [0, 1, 2, 3, 4] [] rfl rfl rfl rfl (by decide) 0 rfl rfl w_cd_X3_settle w_ml_X3_51 w_im_X3_settle w_sel_X3_settle w_in_HeightSheet_Reckoning (by decide +kernel) rfl ⟨Nat.le_of_ble_eq_true rfl, Nat.le_of_ble_eq_true rfl⟩ ⟨Nat.zero_le _, Nat.zero_le _⟩ (Nat.le_of_ble_eq_true rfl) dX3_settleAs_17 (fun rv w1 H L hp hW => ?_) rfl
    obtain ⟨rfl, rfl⟩ := hp
    replace hW : Wd X k A [(ad 0, .inr (3, [.ref (ad 1), .ref (ad 2), .ref (ad 3), .ref (ad 4), .int c17_known, .int v_circular, .int v_circles])), (ad 1, .inl (eI X, 30, .inl c17_values)), (ad 2, .inl (eI X, 30, .inl c3_heights)), (ad 3, .inl (eI X, 30, .inl c3_readBits)), (ad 4, .inl (eI X, 30, .inl c17_waitsFor))] H L := hW.sub [0, 1, 2, 3, 4] rfl rfl
    show Wx X k 0 0 H L 20 ls []
    exact r_vret C hq hW (by obtain rfl := Option.some.inj h; exact ⟨rfl, rfl⟩) dX3_settleAs_20
def fX3_tryTwo (v_values : (Nat → Int32)) (v_heights : (Nat → Int32)) (v_readBits : (Nat → Int32)) (v_waitsFor : (Nat → Int32)) (v_known : Int32) (p1 : Int32) (p2 : Int32) (p3 : Int32) (p4 : Int32) : Option ((Nat → Int32) × (Nat → Int32) × (Nat → Int32) × (Nat → Int32) × Int32) :=
  bd4 (fX3_takes v_heights v_readBits v_waitsFor v_known p2 p3) fun r3 c3_heights c3_readBits c3_waitsFor =>
  if r3 = (0 : Int32) then
    some (v_values, c3_heights, c3_readBits, c3_waitsFor, v_known)
  else
    bd4 (fX3_takes c3_heights c3_readBits c3_waitsFor v_known p2 p4) fun r13 c13_heights c13_readBits c13_waitsFor =>
    if r13 = (0 : Int32) then
      some (v_values, c13_heights, c13_readBits, c13_waitsFor, v_known)
    else
      if p1 = (2 : Int32) then
        rd v_values 30 p3 fun x32 =>
        rd v_values 30 p4 fun x39 =>
        bd3 (fX3_settle v_values c13_waitsFor v_known p2 (x32 + x39)) fun c41_values c41_waitsFor c41_known =>
        some (c41_values, c13_heights, c13_readBits, c41_waitsFor, c41_known)
      else
        if p1 = (3 : Int32) then
          rd v_values 30 p3 fun x59 =>
          rd v_values 30 p4 fun x66 =>
          bd3 (fX3_settle v_values c13_waitsFor v_known p2 (x59 - x66)) fun c68_values c68_waitsFor c68_known =>
          some (c68_values, c13_heights, c13_readBits, c68_waitsFor, c68_known)
        else
          rd v_values 30 p3 fun x81 =>
          rd v_values 30 p4 fun x88 =>
          bd3 (fX3_settle v_values c13_waitsFor v_known p2 (x81 * x88)) fun c90_values c90_waitsFor c90_known =>
          some (c90_values, c13_heights, c13_readBits, c90_waitsFor, c90_known)
set_option maxRecDepth 100000 in
set_option maxHeartbeats 8000000 in
theorem mX3_tryTwo (X : Ev) (ad : Nat → Nat) (v_values : (Nat → Int32)) (v_heights : (Nat → Int32)) (v_readBits : (Nat → Int32)) (v_waitsFor : (Nat → Int32)) (v_known : Int32) (v_circular : Int32) (v_circles : Int32) (p1 : Int32) (p2 : Int32) (p3 : Int32) (p4 : Int32) (o : (Nat → Int32) × (Nat → Int32) × (Nat → Int32) × (Nat → Int32) × Int32) (h : fX3_tryTwo v_values v_heights v_readBits v_waitsFor v_known p1 p2 p3 p4 = some o) : Ctr X yX3_tryTwo cX3_tryTwo 5 none 2 45 0 0 [.ref (ad 0), .int p1, .int p2, .int p3, .int p4] [(ad 0, .inr (3, [.ref (ad 1), .ref (ad 2), .ref (ad 3), .ref (ad 4), .int v_known, .int v_circular, .int v_circles])), (ad 1, .inl (eI X, 30, .inl v_values)), (ad 2, .inl (eI X, 30, .inl v_heights)), (ad 3, .inl (eI X, 30, .inl v_readBits)), (ad 4, .inl (eI X, 30, .inl v_waitsFor))] (De none [(ad 0, .inr (3, [.ref (ad 1), .ref (ad 2), .ref (ad 3), .ref (ad 4), .int (o.2.2.2.2), .int v_circular, .int v_circles])), (ad 1, .inl (eI X, 30, .inl (o.1))), (ad 2, .inl (eI X, 30, .inl (o.2.1))), (ad 3, .inl (eI X, 30, .inl (o.2.2.1))), (ad 4, .inl (eI X, 30, .inl (o.2.2.2.1)))]) := by
  refine Ctr.start (by decide) (Nat.le_of_ble_eq_true rfl) (fun k A ls C hq hin hW hl => ?_)
  replace C : Cx X k cX3_tryTwo 5 none RX3 A 2 45 0 0 := C
  replace hl : lv_has ls 5 [(0, .ref (ad 0)), (1, .int p1), (2, .int p2), (3, .int p3), (4, .int p4)] := hl
  suffices hh : ∀ (H : Heap) (L : List Loc), Wd X k A [(ad 0, .inr (3, [.ref (ad 1), .ref (ad 2), .ref (ad 3), .ref (ad 4), .int v_known, .int v_circular, .int v_circles])), (ad 1, .inl (eI X, 30, .inl v_values)), (ad 2, .inl (eI X, 30, .inl v_heights)), (ad 3, .inl (eI X, 30, .inl v_readBits)), (ad 4, .inl (eI X, 30, .inl v_waitsFor))] H L → Wx X k 0 0 H L 0 ls [] from hh _ _ hW
  clear hW
  intro H L hW
  unfold fX3_tryTwo at h
  refine r_aload_n C hl 0 dX3_tryTwo_0 rfl rfl ?_
  refine r_iload_n C hl 2 dX3_tryTwo_1 rfl rfl ?_
  refine r_iload_n C hl 3 dX3_tryTwo_2 rfl rfl ?_
  obtain ⟨r3, c3_heights, c3_readBits, c3_waitsFor, h3, h⟩ := bd4_some h
  refine r_V (wr := []) (np := 2) C hl (mX3_takes X ad  v_values v_heights v_readBits v_waitsFor v_known v_circular v_circles p2 p3 (r3, c3_heights, c3_readBits, c3_waitsFor) h3) hW [0, 1, 2, 3, 4] [] rfl rfl rfl rfl (by decide) 0 rfl rfl w_cd_X3_takes w_ml_X3_55 w_im_X3_takes w_sel_X3_takes w_in_HeightSheet_Reckoning (by decide +kernel) rfl ⟨Nat.le_of_ble_eq_true rfl, Nat.le_of_ble_eq_true rfl⟩ ⟨Nat.zero_le _, Nat.zero_le _⟩ (Nat.le_of_ble_eq_true rfl) dX3_tryTwo_3 (fun rv w1 H L hp hW => ?_) rfl
  obtain ⟨rfl, rfl⟩ := hp
  replace hW : Wd X k A [(ad 0, .inr (3, [.ref (ad 1), .ref (ad 2), .ref (ad 3), .ref (ad 4), .int v_known, .int v_circular, .int v_circles])), (ad 1, .inl (eI X, 30, .inl v_values)), (ad 2, .inl (eI X, 30, .inl c3_heights)), (ad 3, .inl (eI X, 30, .inl c3_readBits)), (ad 4, .inl (eI X, 30, .inl c3_waitsFor))] H L := hW.sub [0, 1, 2, 3, 4] rfl rfl
  show Wx X k 0 0 H L 6 ls [.int r3]
  refine r_if_eq (tgt := 19) C dX3_tryTwo_6 (by decide) (fun c6 => ?_) (fun c6 => ?_)
  · replace h := iT c6 h
    exact r_vret C hq hW (by obtain rfl := Option.some.inj h; exact ⟨rfl, rfl⟩) dX3_tryTwo_19
  · replace h := iF c6 h
    refine r_aload_n C hl 0 dX3_tryTwo_9 rfl rfl ?_
    refine r_iload_n C hl 2 dX3_tryTwo_10 rfl rfl ?_
    refine r_iload C hl 4 dX3_tryTwo_11 rfl ?_
    obtain ⟨r13, c13_heights, c13_readBits, c13_waitsFor, h13, h⟩ := bd4_some h
    refine r_V (wr := []) (np := 2) C hl (mX3_takes X ad  v_values c3_heights c3_readBits c3_waitsFor v_known v_circular v_circles p2 p4 (r13, c13_heights, c13_readBits, c13_waitsFor) h13) hW [0, 1, 2, 3, 4] [] rfl rfl rfl rfl (by decide) 0 rfl rfl w_cd_X3_takes w_ml_X3_55 w_im_X3_takes w_sel_X3_takes w_in_HeightSheet_Reckoning (by decide +kernel) rfl ⟨Nat.le_of_ble_eq_true rfl, Nat.le_of_ble_eq_true rfl⟩ ⟨Nat.zero_le _, Nat.zero_le _⟩ (Nat.le_of_ble_eq_true rfl) dX3_tryTwo_13 (fun rv w1 H L hp hW => ?_) rfl
    obtain ⟨rfl, rfl⟩ := hp
    replace hW : Wd X k A [(ad 0, .inr (3, [.ref (ad 1), .ref (ad 2), .ref (ad 3), .ref (ad 4), .int v_known, .int v_circular, .int v_circles])), (ad 1, .inl (eI X, 30, .inl v_values)), (ad 2, .inl (eI X, 30, .inl c13_heights)), (ad 3, .inl (eI X, 30, .inl c13_readBits)), (ad 4, .inl (eI X, 30, .inl c13_waitsFor))] H L := hW.sub [0, 1, 2, 3, 4] rfl rfl
    show Wx X k 0 0 H L 16 ls [.int r13]
    refine r_if_ne (tgt := 20) C dX3_tryTwo_16 (by decide) (fun c16 => ?_) (fun c16 => ?_)
    · replace h := iF c16 h
      refine r_iload_n C hl 1 dX3_tryTwo_20 rfl rfl ?_
      refine r_iconst (v := 2) C dX3_tryTwo_21 (by decide) ?_
      refine r_icmp_ne (tgt := 47) C dX3_tryTwo_22 (by decide) (fun c22 => ?_) (fun c22 => ?_)
      · replace h := iF c22 h
        refine r_iload_n C hl 1 dX3_tryTwo_47 rfl rfl ?_
        refine r_iconst (v := 3) C dX3_tryTwo_48 (by decide) ?_
        refine r_icmp_ne (tgt := 74) C dX3_tryTwo_49 (by decide) (fun c49 => ?_) (fun c49 => ?_)
        · replace h := iF c49 h
          refine r_aload_n C hl 0 dX3_tryTwo_74 rfl rfl ?_
          refine r_iload_n C hl 2 dX3_tryTwo_75 rfl rfl ?_
          refine r_aload_n C hl 0 dX3_tryTwo_76 rfl rfl ?_
          refine r_get C hW 0 rfl rfl iwX3 0 (by decide) w_fl_X3_9 rfl dX3_tryTwo_77 ?_
          refine r_iload_n C hl 3 dX3_tryTwo_80 rfl rfl ?_
          obtain ⟨x81, e81, g81, h⟩ := rd_some h
          refine r_iald C hW 1 rfl g81 e81 dX3_tryTwo_81 ?_
          refine r_aload_n C hl 0 dX3_tryTwo_82 rfl rfl ?_
          refine r_get C hW 0 rfl rfl iwX3 0 (by decide) w_fl_X3_9 rfl dX3_tryTwo_83 ?_
          refine r_iload C hl 4 dX3_tryTwo_86 rfl ?_
          obtain ⟨x88, e88, g88, h⟩ := rd_some h
          refine r_iald C hW 1 rfl g88 e88 dX3_tryTwo_88 ?_
          refine r_imul C dX3_tryTwo_89 ?_
          obtain ⟨c90_values, c90_waitsFor, c90_known, h90, h⟩ := bd3_some h
          refine r_V (wr := []) (np := 2) C hl (mX3_settle X ad  v_values c13_heights c13_readBits c13_waitsFor v_known v_circular v_circles p2 (x81 * x88) (c90_values, c90_waitsFor, c90_known) h90) hW [0, 1, 2, 3, 4] [] rfl rfl rfl rfl (by decide) 0 rfl rfl w_cd_X3_settle w_ml_X3_51 w_im_X3_settle w_sel_X3_settle w_in_HeightSheet_Reckoning (by decide +kernel) rfl ⟨Nat.le_of_ble_eq_true rfl, Nat.le_of_ble_eq_true rfl⟩ ⟨Nat.zero_le _, Nat.zero_le _⟩ (Nat.le_of_ble_eq_true rfl) dX3_tryTwo_90 (fun rv w1 H L hp hW => ?_) rfl
          obtain ⟨rfl, rfl⟩ := hp
          replace hW : Wd X k A [(ad 0, .inr (3, [.ref (ad 1), .ref (ad 2), .ref (ad 3), .ref (ad 4), .int c90_known, .int v_circular, .int v_circles])), (ad 1, .inl (eI X, 30, .inl c90_values)), (ad 2, .inl (eI X, 30, .inl c13_heights)), (ad 3, .inl (eI X, 30, .inl c13_readBits)), (ad 4, .inl (eI X, 30, .inl c90_waitsFor))] H L := hW.sub [0, 1, 2, 3, 4] rfl rfl
          show Wx X k 0 0 H L 93 ls []
          exact r_vret C hq hW (by obtain rfl := Option.some.inj h; exact ⟨rfl, rfl⟩) dX3_tryTwo_93
        · replace h := iT c49 h
          refine r_aload_n C hl 0 dX3_tryTwo_52 rfl rfl ?_
          refine r_iload_n C hl 2 dX3_tryTwo_53 rfl rfl ?_
          refine r_aload_n C hl 0 dX3_tryTwo_54 rfl rfl ?_
          refine r_get C hW 0 rfl rfl iwX3 0 (by decide) w_fl_X3_9 rfl dX3_tryTwo_55 ?_
          refine r_iload_n C hl 3 dX3_tryTwo_58 rfl rfl ?_
          obtain ⟨x59, e59, g59, h⟩ := rd_some h
          refine r_iald C hW 1 rfl g59 e59 dX3_tryTwo_59 ?_
          refine r_aload_n C hl 0 dX3_tryTwo_60 rfl rfl ?_
          refine r_get C hW 0 rfl rfl iwX3 0 (by decide) w_fl_X3_9 rfl dX3_tryTwo_61 ?_
          refine r_iload C hl 4 dX3_tryTwo_64 rfl ?_
          obtain ⟨x66, e66, g66, h⟩ := rd_some h
          refine r_iald C hW 1 rfl g66 e66 dX3_tryTwo_66 ?_
          refine r_isub C dX3_tryTwo_67 ?_
          obtain ⟨c68_values, c68_waitsFor, c68_known, h68, h⟩ := bd3_some h
          refine r_V (wr := []) (np := 2) C hl (mX3_settle X ad  v_values c13_heights c13_readBits c13_waitsFor v_known v_circular v_circles p2 (x59 - x66) (c68_values, c68_waitsFor, c68_known) h68) hW [0, 1, 2, 3, 4] [] rfl rfl rfl rfl (by decide) 0 rfl rfl w_cd_X3_settle w_ml_X3_51 w_im_X3_settle w_sel_X3_settle w_in_HeightSheet_Reckoning (by decide +kernel) rfl ⟨Nat.le_of_ble_eq_true rfl, Nat.le_of_ble_eq_true rfl⟩ ⟨Nat.zero_le _, Nat.zero_le _⟩ (Nat.le_of_ble_eq_true rfl) dX3_tryTwo_68 (fun rv w1 H L hp hW => ?_) rfl
          obtain ⟨rfl, rfl⟩ := hp
          replace hW : Wd X k A [(ad 0, .inr (3, [.ref (ad 1), .ref (ad 2), .ref (ad 3), .ref (ad 4), .int c68_known, .int v_circular, .int v_circles])), (ad 1, .inl (eI X, 30, .inl c68_values)), (ad 2, .inl (eI X, 30, .inl c13_heights)), (ad 3, .inl (eI X, 30, .inl c13_readBits)), (ad 4, .inl (eI X, 30, .inl c68_waitsFor))] H L := hW.sub [0, 1, 2, 3, 4] rfl rfl
          show Wx X k 0 0 H L 71 ls []
          refine r_goto (tgt := 93) C dX3_tryTwo_71 (by decide) ?_
          exact r_vret C hq hW (by obtain rfl := Option.some.inj h; exact ⟨rfl, rfl⟩) dX3_tryTwo_93
      · replace h := iT c22 h
        refine r_aload_n C hl 0 dX3_tryTwo_25 rfl rfl ?_
        refine r_iload_n C hl 2 dX3_tryTwo_26 rfl rfl ?_
        refine r_aload_n C hl 0 dX3_tryTwo_27 rfl rfl ?_
        refine r_get C hW 0 rfl rfl iwX3 0 (by decide) w_fl_X3_9 rfl dX3_tryTwo_28 ?_
        refine r_iload_n C hl 3 dX3_tryTwo_31 rfl rfl ?_
        obtain ⟨x32, e32, g32, h⟩ := rd_some h
        refine r_iald C hW 1 rfl g32 e32 dX3_tryTwo_32 ?_
        refine r_aload_n C hl 0 dX3_tryTwo_33 rfl rfl ?_
        refine r_get C hW 0 rfl rfl iwX3 0 (by decide) w_fl_X3_9 rfl dX3_tryTwo_34 ?_
        refine r_iload C hl 4 dX3_tryTwo_37 rfl ?_
        obtain ⟨x39, e39, g39, h⟩ := rd_some h
        refine r_iald C hW 1 rfl g39 e39 dX3_tryTwo_39 ?_
        refine r_iadd C dX3_tryTwo_40 ?_
        obtain ⟨c41_values, c41_waitsFor, c41_known, h41, h⟩ := bd3_some h
        refine r_V (wr := []) (np := 2) C hl (mX3_settle X ad  v_values c13_heights c13_readBits c13_waitsFor v_known v_circular v_circles p2 (x32 + x39) (c41_values, c41_waitsFor, c41_known) h41) hW [0, 1, 2, 3, 4] [] rfl rfl rfl rfl (by decide) 0 rfl rfl w_cd_X3_settle w_ml_X3_51 w_im_X3_settle w_sel_X3_settle w_in_HeightSheet_Reckoning (by decide +kernel) rfl ⟨Nat.le_of_ble_eq_true rfl, Nat.le_of_ble_eq_true rfl⟩ ⟨Nat.zero_le _, Nat.zero_le _⟩ (Nat.le_of_ble_eq_true rfl) dX3_tryTwo_41 (fun rv w1 H L hp hW => ?_) rfl
        obtain ⟨rfl, rfl⟩ := hp
        replace hW : Wd X k A [(ad 0, .inr (3, [.ref (ad 1), .ref (ad 2), .ref (ad 3), .ref (ad 4), .int c41_known, .int v_circular, .int v_circles])), (ad 1, .inl (eI X, 30, .inl c41_values)), (ad 2, .inl (eI X, 30, .inl c13_heights)), (ad 3, .inl (eI X, 30, .inl c13_readBits)), (ad 4, .inl (eI X, 30, .inl c41_waitsFor))] H L := hW.sub [0, 1, 2, 3, 4] rfl rfl
        show Wx X k 0 0 H L 44 ls []
        refine r_goto (tgt := 93) C dX3_tryTwo_44 (by decide) ?_
        exact r_vret C hq hW (by obtain rfl := Option.some.inj h; exact ⟨rfl, rfl⟩) dX3_tryTwo_93
    · replace h := iT c16 h
      exact r_vret C hq hW (by obtain rfl := Option.some.inj h; exact ⟨rfl, rfl⟩) dX3_tryTwo_19
def fX3_trySpan_j75 (p1 : Int32) (p2 : Int32) (p3 : Int32) (p4 : Int32)  (v_values : (Nat → Int32)) (v_heights : (Nat → Int32)) (v_readBits : (Nat → Int32)) (v_waitsFor : (Nat → Int32)) (v_known : Int32) (s1 : Int32) (s2 : Int32) : Option ((Nat → Int32) × (Nat → Int32) × (Nat → Int32) × (Nat → Int32) × Int32) :=
  bd3 (fX3_settle v_values v_waitsFor v_known s1 s2) fun c75_values c75_waitsFor c75_known =>
  some (c75_values, v_heights, v_readBits, c75_waitsFor, c75_known)
def fX3_trySpan_b10 (p1 : Int32) (p2 : Int32) (p3 : Int32) (p4 : Int32)  (v_values : (Nat → Int32)) (v_known : Int32) (self10 : (Nat → Int32) → (Nat → Int32) → (Nat → Int32) → Int32 → Int32 → Int32 → Option ((Nat → Int32) × (Nat → Int32) × (Nat → Int32) × (Nat → Int32) × Int32)) (v_heights : (Nat → Int32)) (v_readBits : (Nat → Int32)) (v_waitsFor : (Nat → Int32)) (l5 : Int32) (l6 : Int32) (l7 : Int32) : Option ((Nat → Int32) × (Nat → Int32) × (Nat → Int32) × (Nat → Int32) × Int32) :=
  if p4 < l7 then
    if p1 = (6 : Int32) then
      fX3_trySpan_j75 p1 p2 p3 p4  v_values v_heights v_readBits v_waitsFor v_known p2 l5
    else
      fX3_trySpan_j75 p1 p2 p3 p4  v_values v_heights v_readBits v_waitsFor v_known p2 l6
  else
    bd4 (fX3_takes v_heights v_readBits v_waitsFor v_known p2 l7) fun r21 c21_heights c21_readBits c21_waitsFor =>
    if r21 = (0 : Int32) then
      some (v_values, c21_heights, c21_readBits, c21_waitsFor, v_known)
    else
      rd v_values 30 l7 fun x36 =>
      rd v_values 30 l7 fun x48 =>
      self10 c21_heights c21_readBits c21_waitsFor (l5 + x36) (if l6 < x48 then x48 else l6) (l7 + (1 : Int32))
def fX3_trySpan (v_values : (Nat → Int32)) (v_heights : (Nat → Int32)) (v_readBits : (Nat → Int32)) (v_waitsFor : (Nat → Int32)) (v_known : Int32) (p1 : Int32) (p2 : Int32) (p3 : Int32) (p4 : Int32) : Option ((Nat → Int32) × (Nat → Int32) × (Nat → Int32) × (Nat → Int32) × Int32) :=
  lq6 (fX3_trySpan_b10 p1 p2 p3 p4  v_values v_known) fu v_heights v_readBits v_waitsFor (0 : Int32) (-2147483648 : Int32) p3
set_option maxRecDepth 100000 in
set_option maxHeartbeats 8000000 in
theorem mX3_trySpan (X : Ev) (ad : Nat → Nat) (v_values : (Nat → Int32)) (v_heights : (Nat → Int32)) (v_readBits : (Nat → Int32)) (v_waitsFor : (Nat → Int32)) (v_known : Int32) (v_circular : Int32) (v_circles : Int32) (p1 : Int32) (p2 : Int32) (p3 : Int32) (p4 : Int32) (o : (Nat → Int32) × (Nat → Int32) × (Nat → Int32) × (Nat → Int32) × Int32) (h : fX3_trySpan v_values v_heights v_readBits v_waitsFor v_known p1 p2 p3 p4 = some o) : Ctr X yX3_trySpan cX3_trySpan 8 none 2 45 0 0 [.ref (ad 0), .int p1, .int p2, .int p3, .int p4] [(ad 0, .inr (3, [.ref (ad 1), .ref (ad 2), .ref (ad 3), .ref (ad 4), .int v_known, .int v_circular, .int v_circles])), (ad 1, .inl (eI X, 30, .inl v_values)), (ad 2, .inl (eI X, 30, .inl v_heights)), (ad 3, .inl (eI X, 30, .inl v_readBits)), (ad 4, .inl (eI X, 30, .inl v_waitsFor))] (De none [(ad 0, .inr (3, [.ref (ad 1), .ref (ad 2), .ref (ad 3), .ref (ad 4), .int (o.2.2.2.2), .int v_circular, .int v_circles])), (ad 1, .inl (eI X, 30, .inl (o.1))), (ad 2, .inl (eI X, 30, .inl (o.2.1))), (ad 3, .inl (eI X, 30, .inl (o.2.2.1))), (ad 4, .inl (eI X, 30, .inl (o.2.2.2.1)))]) := by
  refine Ctr.start (by decide) (Nat.le_of_ble_eq_true rfl) (fun k A ls C hq hin hW hl => ?_)
  replace C : Cx X k cX3_trySpan 8 none RX3 A 2 45 0 0 := C
  replace hl : lv_has ls 8 [(0, .ref (ad 0)), (1, .int p1), (2, .int p2), (3, .int p3), (4, .int p4)] := hl
  suffices hh : ∀ (H : Heap) (L : List Loc), Wd X k A [(ad 0, .inr (3, [.ref (ad 1), .ref (ad 2), .ref (ad 3), .ref (ad 4), .int v_known, .int v_circular, .int v_circles])), (ad 1, .inl (eI X, 30, .inl v_values)), (ad 2, .inl (eI X, 30, .inl v_heights)), (ad 3, .inl (eI X, 30, .inl v_readBits)), (ad 4, .inl (eI X, 30, .inl v_waitsFor))] H L → Wx X k 0 0 H L 0 ls [] from hh _ _ hW
  clear hW
  intro H L hW
  have K75 : ∀ (v_values : (Nat → Int32)), ∀ (v_heights : (Nat → Int32)), ∀ (v_readBits : (Nat → Int32)), ∀ (v_waitsFor : (Nat → Int32)), ∀ (v_known : Int32), ∀ (s1 : Int32), ∀ (s2 : Int32), ∀ (H : Heap) (L : List Loc) (ls : Array Slot), Wd X k A [(ad 0, .inr (3, [.ref (ad 1), .ref (ad 2), .ref (ad 3), .ref (ad 4), .int v_known, .int v_circular, .int v_circles])), (ad 1, .inl (eI X, 30, .inl v_values)), (ad 2, .inl (eI X, 30, .inl v_heights)), (ad 3, .inl (eI X, 30, .inl v_readBits)), (ad 4, .inl (eI X, 30, .inl v_waitsFor))] H L → lv_has ls 8 [] → fX3_trySpan_j75 p1 p2 p3 p4  v_values v_heights v_readBits v_waitsFor v_known s1 s2 = some o → Wx X k 0 0 H L 75 ls [.int s2, .int s1, .ref (ad 0)] := by
    intro v_values v_heights v_readBits v_waitsFor v_known s1 s2 H L ls hW hl h
    unfold fX3_trySpan_j75 at h
    obtain ⟨c75_values, c75_waitsFor, c75_known, h75, h⟩ := bd3_some h
    refine r_V (wr := []) (np := 2) C hl (mX3_settle X ad  v_values v_heights v_readBits v_waitsFor v_known v_circular v_circles s1 s2 (c75_values, c75_waitsFor, c75_known) h75) hW [0, 1, 2, 3, 4] [] rfl rfl rfl rfl (by decide) 0 rfl rfl w_cd_X3_settle w_ml_X3_51 w_im_X3_settle w_sel_X3_settle w_in_HeightSheet_Reckoning (by decide +kernel) rfl ⟨Nat.le_of_ble_eq_true rfl, Nat.le_of_ble_eq_true rfl⟩ ⟨Nat.zero_le _, Nat.zero_le _⟩ (Nat.le_of_ble_eq_true rfl) dX3_trySpan_75 (fun rv w1 H L hp hW => ?_) rfl
    obtain ⟨rfl, rfl⟩ := hp
    replace hW : Wd X k A [(ad 0, .inr (3, [.ref (ad 1), .ref (ad 2), .ref (ad 3), .ref (ad 4), .int c75_known, .int v_circular, .int v_circles])), (ad 1, .inl (eI X, 30, .inl c75_values)), (ad 2, .inl (eI X, 30, .inl v_heights)), (ad 3, .inl (eI X, 30, .inl v_readBits)), (ad 4, .inl (eI X, 30, .inl c75_waitsFor))] H L := hW.sub [0, 1, 2, 3, 4] rfl rfl
    show Wx X k 0 0 H L 78 ls []
    exact r_vret C hq hW (by obtain rfl := Option.some.inj h; exact ⟨rfl, rfl⟩) dX3_trySpan_78
  have K10 : ∀ (v_values : (Nat → Int32)), ∀ (v_known : Int32), ∀ (n10 : Nat), ∀ (v_heights : (Nat → Int32)), ∀ (v_readBits : (Nat → Int32)), ∀ (v_waitsFor : (Nat → Int32)), ∀ (l5 : Int32), ∀ (l6 : Int32), ∀ (l7 : Int32), ∀ (H : Heap) (L : List Loc) (ls : Array Slot), Wd X k A [(ad 0, .inr (3, [.ref (ad 1), .ref (ad 2), .ref (ad 3), .ref (ad 4), .int v_known, .int v_circular, .int v_circles])), (ad 1, .inl (eI X, 30, .inl v_values)), (ad 2, .inl (eI X, 30, .inl v_heights)), (ad 3, .inl (eI X, 30, .inl v_readBits)), (ad 4, .inl (eI X, 30, .inl v_waitsFor))] H L → lv_has ls 8 [(0, .ref (ad 0)), (1, .int p1), (2, .int p2), (4, .int p4), (5, .int l5), (6, .int l6), (7, .int l7)] → lq6 (fX3_trySpan_b10 p1 p2 p3 p4  v_values v_known) n10 v_heights v_readBits v_waitsFor l5 l6 l7 = some o → Wx X k 0 0 H L 10 ls [] := by
    intro v_values v_known
    intro n10
    induction n10 with
    | zero => intro v_heights v_readBits v_waitsFor l5 l6 l7 H L ls hW hl h; exact lq6_0 h
    | succ n10 ih10 =>
      intro v_heights v_readBits v_waitsFor l5 l6 l7 H L ls hW hl h
      rw [lq6_s] at h
      unfold fX3_trySpan_b10 at h
      refine r_iload C hl 6 dX3_trySpan_10 rfl ?_
      refine r_iload C hl 3 dX3_trySpan_12 rfl ?_
      refine r_icmp_gt (tgt := 60) C dX3_trySpan_14 (by decide) (fun c14 => ?_) (fun c14 => ?_)
      · replace h := iT c14 h
        refine r_aload_n C hl 0 dX3_trySpan_60 rfl rfl ?_
        refine r_iload_n C hl 2 dX3_trySpan_61 rfl rfl ?_
        refine r_iload_n C hl 1 dX3_trySpan_62 rfl rfl ?_
        refine r_bipush (v := 6) C dX3_trySpan_63 (by decide) ?_
        refine r_icmp_ne (tgt := 73) C dX3_trySpan_65 (by decide) (fun c65 => ?_) (fun c65 => ?_)
        · replace h := iF c65 h
          refine r_iload C hl 5 dX3_trySpan_73 rfl ?_
          exact K75 v_values v_heights v_readBits v_waitsFor v_known p2 l6 H L ls hW (lv_sub hl [] rfl) h
        · replace h := iT c65 h
          refine r_iload C hl 4 dX3_trySpan_68 rfl ?_
          refine r_goto (tgt := 75) C dX3_trySpan_70 (by decide) ?_
          exact K75 v_values v_heights v_readBits v_waitsFor v_known p2 l5 H L ls hW (lv_sub hl [] rfl) h
      · replace h := iF c14 h
        refine r_aload_n C hl 0 dX3_trySpan_17 rfl rfl ?_
        refine r_iload_n C hl 2 dX3_trySpan_18 rfl rfl ?_
        refine r_iload C hl 6 dX3_trySpan_19 rfl ?_
        obtain ⟨r21, c21_heights, c21_readBits, c21_waitsFor, h21, h⟩ := bd4_some h
        refine r_V (wr := []) (np := 2) C hl (mX3_takes X ad  v_values v_heights v_readBits v_waitsFor v_known v_circular v_circles p2 l7 (r21, c21_heights, c21_readBits, c21_waitsFor) h21) hW [0, 1, 2, 3, 4] [] rfl rfl rfl rfl (by decide) 0 rfl rfl w_cd_X3_takes w_ml_X3_55 w_im_X3_takes w_sel_X3_takes w_in_HeightSheet_Reckoning (by decide +kernel) rfl ⟨Nat.le_of_ble_eq_true rfl, Nat.le_of_ble_eq_true rfl⟩ ⟨Nat.zero_le _, Nat.zero_le _⟩ (Nat.le_of_ble_eq_true rfl) dX3_trySpan_21 (fun rv w1 H L hp hW => ?_) rfl
        obtain ⟨rfl, rfl⟩ := hp
        replace hW : Wd X k A [(ad 0, .inr (3, [.ref (ad 1), .ref (ad 2), .ref (ad 3), .ref (ad 4), .int v_known, .int v_circular, .int v_circles])), (ad 1, .inl (eI X, 30, .inl v_values)), (ad 2, .inl (eI X, 30, .inl c21_heights)), (ad 3, .inl (eI X, 30, .inl c21_readBits)), (ad 4, .inl (eI X, 30, .inl c21_waitsFor))] H L := hW.sub [0, 1, 2, 3, 4] rfl rfl
        show Wx X k 0 0 H L 24 ls [.int r21]
        refine r_if_ne (tgt := 28) C dX3_trySpan_24 (by decide) (fun c24 => ?_) (fun c24 => ?_)
        · replace h := iF c24 h
          refine r_iload C hl 4 dX3_trySpan_28 rfl ?_
          refine r_aload_n C hl 0 dX3_trySpan_30 rfl rfl ?_
          refine r_get C hW 0 rfl rfl iwX3 0 (by decide) w_fl_X3_9 rfl dX3_trySpan_31 ?_
          refine r_iload C hl 6 dX3_trySpan_34 rfl ?_
          obtain ⟨x36, e36, g36, h⟩ := rd_some h
          refine r_iald C hW 1 rfl g36 e36 dX3_trySpan_36 ?_
          refine r_iadd C dX3_trySpan_37 ?_
          refine r_istore (lv' := [(5, .int (l5 + x36)), (0, .ref (ad 0)), (1, .int p1), (2, .int p2), (4, .int p4), (6, .int l6), (7, .int l7)]) C hl dX3_trySpan_38 (by decide) rfl (fun ls hl => ?_)
          refine r_iload C hl 5 dX3_trySpan_40 rfl ?_
          refine r_aload_n C hl 1 dX3_trySpan_42 rfl rfl ?_
          refine r_get C hW 0 rfl rfl iwX3 0 (by decide) w_fl_X3_9 rfl dX3_trySpan_43 ?_
          refine r_iload C hl 6 dX3_trySpan_46 rfl ?_
          obtain ⟨x48, e48, g48, h⟩ := rd_some h
          refine r_iald C hW 1 rfl g48 e48 dX3_trySpan_48 ?_
          refine r_max C hl w_ml_X3_76 (Nat.le_of_ble_eq_true rfl) (Nat.le_of_ble_eq_true rfl) (Nat.zero_le _) (Nat.zero_le _) dX3_trySpan_49 ?_
          refine r_istore (lv' := [(6, .int (if l6 < x48 then x48 else l6)), (5, .int (l5 + x36)), (0, .ref (ad 0)), (1, .int p1), (2, .int p2), (4, .int p4), (7, .int l7)]) C hl dX3_trySpan_52 (by decide) rfl (fun ls hl => ?_)
          refine r_iinc (j := 6) (v := l7 + (1 : Int32)) (lv' := [(7, .int (l7 + (1 : Int32))), (6, .int (if l6 < x48 then x48 else l6)), (5, .int (l5 + x36)), (0, .ref (ad 0)), (1, .int p1), (2, .int p2), (4, .int p4)]) C hl dX3_trySpan_54 rfl rfl (by decide) rfl (fun ls hl => ?_)
          refine r_goto (tgt := 10) C dX3_trySpan_57 (by decide) ?_
          exact ih10 c21_heights c21_readBits c21_waitsFor (l5 + x36) (if l6 < x48 then x48 else l6) (l7 + (1 : Int32)) H L ls hW (lv_sub hl [3, 4, 5, 6, 2, 1, 0] rfl) h
        · replace h := iT c24 h
          exact r_vret C hq hW (by obtain rfl := Option.some.inj h; exact ⟨rfl, rfl⟩) dX3_trySpan_27
  unfold fX3_trySpan at h
  refine r_iconst (v := 0) C dX3_trySpan_0 (by decide) ?_
  refine r_istore (lv' := [(5, .int (0 : Int32)), (0, .ref (ad 0)), (1, .int p1), (2, .int p2), (3, .int p3), (4, .int p4)]) C hl dX3_trySpan_1 (by decide) rfl (fun ls hl => ?_)
  refine r_ldc C w_co_X3_75 dX3_trySpan_3 ?_
  refine r_istore (lv' := [(6, .int (-2147483648 : Int32)), (5, .int (0 : Int32)), (0, .ref (ad 0)), (1, .int p1), (2, .int p2), (3, .int p3), (4, .int p4)]) C hl dX3_trySpan_5 (by decide) rfl (fun ls hl => ?_)
  refine r_iload_n C hl 5 dX3_trySpan_7 rfl rfl ?_
  refine r_istore (lv' := [(7, .int p3), (6, .int (-2147483648 : Int32)), (5, .int (0 : Int32)), (0, .ref (ad 0)), (1, .int p1), (2, .int p2), (3, .int p3), (4, .int p4)]) C hl dX3_trySpan_8 (by decide) rfl (fun ls hl => ?_)
  exact K10 v_values v_known fu v_heights v_readBits v_waitsFor (0 : Int32) (-2147483648 : Int32) p3 H L ls hW (lv_sub hl [3, 4, 5, 7, 2, 1, 0] rfl) h
def fX3_tryCell_j137 (u_parts : (Nat → Int32)) (p2 : Int32)  (v_values : (Nat → Int32)) (v_heights : (Nat → Int32)) (v_readBits : (Nat → Int32)) (v_waitsFor : (Nat → Int32)) (v_known : Int32) (s1 : Int32) (s3 : Int32) (s4 : Int32) : Option ((Nat → Int32) × (Nat → Int32) × (Nat → Int32) × (Nat → Int32) × Int32) :=
  bd1 (fX1_part u_parts s3 s4) fun r137 =>
  bd5 (fX3_settleAs v_values v_heights v_readBits v_waitsFor v_known s1 r137) fun c140_values c140_heights c140_readBits c140_waitsFor c140_known =>
  some (c140_values, c140_heights, c140_readBits, c140_waitsFor, c140_known)
def fX3_tryCell (v_values : (Nat → Int32)) (v_heights : (Nat → Int32)) (v_readBits : (Nat → Int32)) (v_waitsFor : (Nat → Int32)) (v_known : Int32) (u_parts : (Nat → Int32)) (p2 : Int32) : Option ((Nat → Int32) × (Nat → Int32) × (Nat → Int32) × (Nat → Int32) × Int32) :=
  bd1 (fX1_part u_parts p2 (0 : Int32)) fun r3 =>
  bd1 (fX1_part u_parts p2 (1 : Int32)) fun r10 =>
  if r3 = (0 : Int32) then
    bd3 (fX3_settle v_values v_waitsFor v_known p2 r10) fun c72_values c72_waitsFor c72_known =>
    some (c72_values, v_heights, v_readBits, c72_waitsFor, c72_known)
  else
  if r3 = (1 : Int32) then
    bd3 (fX3_settle v_values v_waitsFor v_known p2 r10) fun c72_values c72_waitsFor c72_known =>
    some (c72_values, v_heights, v_readBits, c72_waitsFor, c72_known)
  else
  if r3 = (2 : Int32) then
    bd1 (fX1_part u_parts p2 (2 : Int32)) fun r171 =>
    bd5 (fX3_tryTwo v_values v_heights v_readBits v_waitsFor v_known r3 p2 r10 r171) fun c174_values c174_heights c174_readBits c174_waitsFor c174_known =>
    some (c174_values, c174_heights, c174_readBits, c174_waitsFor, c174_known)
  else
  if r3 = (3 : Int32) then
    bd1 (fX1_part u_parts p2 (2 : Int32)) fun r171 =>
    bd5 (fX3_tryTwo v_values v_heights v_readBits v_waitsFor v_known r3 p2 r10 r171) fun c174_values c174_heights c174_readBits c174_waitsFor c174_known =>
    some (c174_values, c174_heights, c174_readBits, c174_waitsFor, c174_known)
  else
  if r3 = (4 : Int32) then
    bd1 (fX1_part u_parts p2 (2 : Int32)) fun r171 =>
    bd5 (fX3_tryTwo v_values v_heights v_readBits v_waitsFor v_known r3 p2 r10 r171) fun c174_values c174_heights c174_readBits c174_waitsFor c174_known =>
    some (c174_values, c174_heights, c174_readBits, c174_waitsFor, c174_known)
  else
  if r3 = (5 : Int32) then
    bd4 (fX3_takes v_heights v_readBits v_waitsFor v_known p2 r10) fun r82 c82_heights c82_readBits c82_waitsFor =>
    if r82 = (0 : Int32) then
      some (v_values, c82_heights, c82_readBits, c82_waitsFor, v_known)
    else
      rd v_values 30 r10 fun x96 =>
      bd1 (fJ9_floorMod_7cf53 x96 (30 : Int32)) fun r99 =>
      bd5 (fX3_settleAs v_values c82_heights c82_readBits c82_waitsFor v_known p2 r99) fun c102_values c102_heights c102_readBits c102_waitsFor c102_known =>
      some (c102_values, c102_heights, c102_readBits, c102_waitsFor, c102_known)
  else
  if r3 = (6 : Int32) then
    bd1 (fX1_part u_parts p2 (2 : Int32)) fun r154 =>
    bd5 (fX3_trySpan v_values v_heights v_readBits v_waitsFor v_known r3 p2 r10 r154) fun c157_values c157_heights c157_readBits c157_waitsFor c157_known =>
    some (c157_values, c157_heights, c157_readBits, c157_waitsFor, c157_known)
  else
  if r3 = (7 : Int32) then
    bd1 (fX1_part u_parts p2 (2 : Int32)) fun r154 =>
    bd5 (fX3_trySpan v_values v_heights v_readBits v_waitsFor v_known r3 p2 r10 r154) fun c157_values c157_heights c157_readBits c157_waitsFor c157_known =>
    some (c157_values, c157_heights, c157_readBits, c157_waitsFor, c157_known)
  else
  if r3 = (8 : Int32) then
    bd4 (fX3_takes v_heights v_readBits v_waitsFor v_known p2 r10) fun r112 c112_heights c112_readBits c112_waitsFor =>
    if r112 = (0 : Int32) then
      some (v_values, c112_heights, c112_readBits, c112_waitsFor, v_known)
    else
      rd v_values 30 r10 fun x128 =>
      if x128 ≤ (0 : Int32) then
        fX3_tryCell_j137 u_parts p2  v_values c112_heights c112_readBits c112_waitsFor v_known p2 p2 (3 : Int32)
      else
        fX3_tryCell_j137 u_parts p2  v_values c112_heights c112_readBits c112_waitsFor v_known p2 p2 (2 : Int32)
  else
    bd1 (fX1_part u_parts p2 (2 : Int32)) fun r171 =>
    bd5 (fX3_tryTwo v_values v_heights v_readBits v_waitsFor v_known r3 p2 r10 r171) fun c174_values c174_heights c174_readBits c174_waitsFor c174_known =>
    some (c174_values, c174_heights, c174_readBits, c174_waitsFor, c174_known)
set_option maxRecDepth 100000 in
set_option maxHeartbeats 8000000 in
theorem mX3_tryCell (X : Ev) (ad : Nat → Nat) (be : Nat → Nat) (v_values : (Nat → Int32)) (v_heights : (Nat → Int32)) (v_readBits : (Nat → Int32)) (v_waitsFor : (Nat → Int32)) (v_known : Int32) (v_circular : Int32) (v_circles : Int32) (u_parts : (Nat → Int32)) (p2 : Int32) (o : (Nat → Int32) × (Nat → Int32) × (Nat → Int32) × (Nat → Int32) × Int32) (h : fX3_tryCell v_values v_heights v_readBits v_waitsFor v_known u_parts p2 = some o) : Ctr X yX3_tryCell cX3_tryCell 5 none 3 72 0 0 [.ref (ad 0), .ref (be 0), .int p2] [(ad 0, .inr (3, [.ref (ad 1), .ref (ad 2), .ref (ad 3), .ref (ad 4), .int v_known, .int v_circular, .int v_circles])), (ad 1, .inl (eI X, 30, .inl v_values)), (ad 2, .inl (eI X, 30, .inl v_heights)), (ad 3, .inl (eI X, 30, .inl v_readBits)), (ad 4, .inl (eI X, 30, .inl v_waitsFor)), (be 0, .inr (1, [.ref (be 1)])), (be 1, .inl (eI X, 120, .inl u_parts))] (De none [(ad 0, .inr (3, [.ref (ad 1), .ref (ad 2), .ref (ad 3), .ref (ad 4), .int (o.2.2.2.2), .int v_circular, .int v_circles])), (ad 1, .inl (eI X, 30, .inl (o.1))), (ad 2, .inl (eI X, 30, .inl (o.2.1))), (ad 3, .inl (eI X, 30, .inl (o.2.2.1))), (ad 4, .inl (eI X, 30, .inl (o.2.2.2.1))), (be 0, .inr (1, [.ref (be 1)])), (be 1, .inl (eI X, 120, .inl u_parts))]) := by
  refine Ctr.start (by decide) (Nat.le_of_ble_eq_true rfl) (fun k A ls C hq hin hW hl => ?_)
  replace C : Cx X k cX3_tryCell 5 none RX3 A 3 72 0 0 := C
  replace hl : lv_has ls 5 [(0, .ref (ad 0)), (1, .ref (be 0)), (2, .int p2)] := hl
  suffices hh : ∀ (H : Heap) (L : List Loc), Wd X k A [(ad 0, .inr (3, [.ref (ad 1), .ref (ad 2), .ref (ad 3), .ref (ad 4), .int v_known, .int v_circular, .int v_circles])), (ad 1, .inl (eI X, 30, .inl v_values)), (ad 2, .inl (eI X, 30, .inl v_heights)), (ad 3, .inl (eI X, 30, .inl v_readBits)), (ad 4, .inl (eI X, 30, .inl v_waitsFor)), (be 0, .inr (1, [.ref (be 1)])), (be 1, .inl (eI X, 120, .inl u_parts))] H L → Wx X k 0 0 H L 0 ls [] from hh _ _ hW
  clear hW
  intro H L hW
  have K137 : ∀ (v_values : (Nat → Int32)), ∀ (v_heights : (Nat → Int32)), ∀ (v_readBits : (Nat → Int32)), ∀ (v_waitsFor : (Nat → Int32)), ∀ (v_known : Int32), ∀ (s1 : Int32), ∀ (s3 : Int32), ∀ (s4 : Int32), ∀ (H : Heap) (L : List Loc) (ls : Array Slot), Wd X k A [(ad 0, .inr (3, [.ref (ad 1), .ref (ad 2), .ref (ad 3), .ref (ad 4), .int v_known, .int v_circular, .int v_circles])), (ad 1, .inl (eI X, 30, .inl v_values)), (ad 2, .inl (eI X, 30, .inl v_heights)), (ad 3, .inl (eI X, 30, .inl v_readBits)), (ad 4, .inl (eI X, 30, .inl v_waitsFor)), (be 0, .inr (1, [.ref (be 1)])), (be 1, .inl (eI X, 120, .inl u_parts))] H L → lv_has ls 5 [] → fX3_tryCell_j137 u_parts p2  v_values v_heights v_readBits v_waitsFor v_known s1 s3 s4 = some o → Wx X k 0 0 H L 137 ls [.int s4, .int s3, .ref (be 0), .int s1, .ref (ad 0)] := by
    intro v_values v_heights v_readBits v_waitsFor v_known s1 s3 s4 H L ls hW hl h
    unfold fX3_tryCell_j137 at h
    obtain ⟨r137, h137, h⟩ := bd1_some h
    refine r_VN (wr := [(ad 0, .inr (3, [.ref (ad 1), .ref (ad 2), .ref (ad 3), .ref (ad 4), .int v_known, .int v_circular, .int v_circles])), (ad 1, .inl (eI X, 30, .inl v_values)), (ad 2, .inl (eI X, 30, .inl v_heights)), (ad 3, .inl (eI X, 30, .inl v_readBits)), (ad 4, .inl (eI X, 30, .inl v_waitsFor))]) (np := 2) C hl (mX1_part X be  u_parts s3 s4 r137 h137) hW [5, 6] [0, 1, 2, 3, 4] rfl rfl rfl rfl (by decide) 0 rfl rfl w_cd_X1_part w_im_X1_part w_sel_X1_part w_in_HeightSheet_Formulas 10 rfl (by decide +kernel) rfl ⟨Nat.le_of_ble_eq_true rfl, Nat.le_of_ble_eq_true rfl⟩ ⟨Nat.zero_le _, Nat.zero_le _⟩ (Nat.le_of_ble_eq_true rfl) dX3_tryCell_137 (fun rv w1 H L hp hW => ?_) rfl
    obtain ⟨rfl, rfl⟩ := hp
    replace hW : Wd X k A [(ad 0, .inr (3, [.ref (ad 1), .ref (ad 2), .ref (ad 3), .ref (ad 4), .int v_known, .int v_circular, .int v_circles])), (ad 1, .inl (eI X, 30, .inl v_values)), (ad 2, .inl (eI X, 30, .inl v_heights)), (ad 3, .inl (eI X, 30, .inl v_readBits)), (ad 4, .inl (eI X, 30, .inl v_waitsFor)), (be 0, .inr (1, [.ref (be 1)])), (be 1, .inl (eI X, 120, .inl u_parts))] H L := hW.sub [0, 1, 2, 3, 4, 5, 6] rfl rfl
    show Wx X k 0 0 H L 140 ls [.int r137, .int s1, .ref (ad 0)]
    obtain ⟨c140_values, c140_heights, c140_readBits, c140_waitsFor, c140_known, h140, h⟩ := bd5_some h
    refine r_V (wr := [(be 0, .inr (1, [.ref (be 1)])), (be 1, .inl (eI X, 120, .inl u_parts))]) (np := 2) C hl (mX3_settleAs X ad  v_values v_heights v_readBits v_waitsFor v_known v_circular v_circles s1 r137 (c140_values, c140_heights, c140_readBits, c140_waitsFor, c140_known) h140) hW [0, 1, 2, 3, 4] [5, 6] rfl rfl rfl rfl (by decide) 0 rfl rfl w_cd_X3_settleAs w_ml_X3_63 w_im_X3_settleAs w_sel_X3_settleAs w_in_HeightSheet_Reckoning (by decide +kernel) rfl ⟨Nat.le_of_ble_eq_true rfl, Nat.le_of_ble_eq_true rfl⟩ ⟨Nat.zero_le _, Nat.zero_le _⟩ (Nat.le_of_ble_eq_true rfl) dX3_tryCell_140 (fun rv w1 H L hp hW => ?_) rfl
    obtain ⟨rfl, rfl⟩ := hp
    replace hW : Wd X k A [(ad 0, .inr (3, [.ref (ad 1), .ref (ad 2), .ref (ad 3), .ref (ad 4), .int c140_known, .int v_circular, .int v_circles])), (ad 1, .inl (eI X, 30, .inl c140_values)), (ad 2, .inl (eI X, 30, .inl c140_heights)), (ad 3, .inl (eI X, 30, .inl c140_readBits)), (ad 4, .inl (eI X, 30, .inl c140_waitsFor)), (be 0, .inr (1, [.ref (be 1)])), (be 1, .inl (eI X, 120, .inl u_parts))] H L := hW.sub [2, 3, 4, 5, 6, 0, 1] rfl rfl
    show Wx X k 0 0 H L 143 ls []
    refine r_goto (tgt := 177) C dX3_tryCell_143 (by decide) ?_
    exact r_vret C hq hW (by obtain rfl := Option.some.inj h; exact ⟨rfl, rfl⟩) dX3_tryCell_177
  unfold fX3_tryCell at h
  refine r_aload_n C hl 1 dX3_tryCell_0 rfl rfl ?_
  refine r_iload_n C hl 2 dX3_tryCell_1 rfl rfl ?_
  refine r_iconst (v := 0) C dX3_tryCell_2 (by decide) ?_
  obtain ⟨r3, h3, h⟩ := bd1_some h
  refine r_VN (wr := [(ad 0, .inr (3, [.ref (ad 1), .ref (ad 2), .ref (ad 3), .ref (ad 4), .int v_known, .int v_circular, .int v_circles])), (ad 1, .inl (eI X, 30, .inl v_values)), (ad 2, .inl (eI X, 30, .inl v_heights)), (ad 3, .inl (eI X, 30, .inl v_readBits)), (ad 4, .inl (eI X, 30, .inl v_waitsFor))]) (np := 2) C hl (mX1_part X be  u_parts p2 (0 : Int32) r3 h3) hW [5, 6] [0, 1, 2, 3, 4] rfl rfl rfl rfl (by decide) 0 rfl rfl w_cd_X1_part w_im_X1_part w_sel_X1_part w_in_HeightSheet_Formulas 10 rfl (by decide +kernel) rfl ⟨Nat.le_of_ble_eq_true rfl, Nat.le_of_ble_eq_true rfl⟩ ⟨Nat.zero_le _, Nat.zero_le _⟩ (Nat.le_of_ble_eq_true rfl) dX3_tryCell_3 (fun rv w1 H L hp hW => ?_) rfl
  obtain ⟨rfl, rfl⟩ := hp
  replace hW : Wd X k A [(ad 0, .inr (3, [.ref (ad 1), .ref (ad 2), .ref (ad 3), .ref (ad 4), .int v_known, .int v_circular, .int v_circles])), (ad 1, .inl (eI X, 30, .inl v_values)), (ad 2, .inl (eI X, 30, .inl v_heights)), (ad 3, .inl (eI X, 30, .inl v_readBits)), (ad 4, .inl (eI X, 30, .inl v_waitsFor)), (be 0, .inr (1, [.ref (be 1)])), (be 1, .inl (eI X, 120, .inl u_parts))] H L := hW.sub [0, 1, 2, 3, 4, 5, 6] rfl rfl
  show Wx X k 0 0 H L 6 ls [.int r3]
  refine r_istore_n (lv' := [(3, .int r3), (0, .ref (ad 0)), (1, .ref (be 0)), (2, .int p2)]) C hl dX3_tryCell_6 rfl (by decide) rfl (fun ls hl => ?_)
  refine r_aload_n C hl 2 dX3_tryCell_7 rfl rfl ?_
  refine r_iload_n C hl 3 dX3_tryCell_8 rfl rfl ?_
  refine r_iconst (v := 1) C dX3_tryCell_9 (by decide) ?_
  obtain ⟨r10, h10, h⟩ := bd1_some h
  refine r_VN (wr := [(ad 0, .inr (3, [.ref (ad 1), .ref (ad 2), .ref (ad 3), .ref (ad 4), .int v_known, .int v_circular, .int v_circles])), (ad 1, .inl (eI X, 30, .inl v_values)), (ad 2, .inl (eI X, 30, .inl v_heights)), (ad 3, .inl (eI X, 30, .inl v_readBits)), (ad 4, .inl (eI X, 30, .inl v_waitsFor))]) (np := 2) C hl (mX1_part X be  u_parts p2 (1 : Int32) r10 h10) hW [5, 6] [0, 1, 2, 3, 4] rfl rfl rfl rfl (by decide) 0 rfl rfl w_cd_X1_part w_im_X1_part w_sel_X1_part w_in_HeightSheet_Formulas 10 rfl (by decide +kernel) rfl ⟨Nat.le_of_ble_eq_true rfl, Nat.le_of_ble_eq_true rfl⟩ ⟨Nat.zero_le _, Nat.zero_le _⟩ (Nat.le_of_ble_eq_true rfl) dX3_tryCell_10 (fun rv w1 H L hp hW => ?_) rfl
  obtain ⟨rfl, rfl⟩ := hp
  replace hW : Wd X k A [(ad 0, .inr (3, [.ref (ad 1), .ref (ad 2), .ref (ad 3), .ref (ad 4), .int v_known, .int v_circular, .int v_circles])), (ad 1, .inl (eI X, 30, .inl v_values)), (ad 2, .inl (eI X, 30, .inl v_heights)), (ad 3, .inl (eI X, 30, .inl v_readBits)), (ad 4, .inl (eI X, 30, .inl v_waitsFor)), (be 0, .inr (1, [.ref (be 1)])), (be 1, .inl (eI X, 120, .inl u_parts))] H L := hW.sub [0, 1, 2, 3, 4, 5, 6] rfl rfl
  show Wx X k 0 0 H L 13 ls [.int r10]
  refine r_istore (lv' := [(4, .int r10), (3, .int r3), (0, .ref (ad 0)), (1, .ref (be 0)), (2, .int p2)]) C hl dX3_tryCell_13 (by decide) rfl (fun ls hl => ?_)
  refine r_iload_n C hl 1 dX3_tryCell_15 rfl rfl ?_
  by_cases c16_0 : r3 = (0 : Int32)
  · replace h := iT c16_0 h
    refine r_swI (tgt := 68) C dX3_tryCell_16 c16_0 (by decide) (by decide) rfl (by decide) ?_
    refine r_aload_n C hl 2 dX3_tryCell_68 rfl rfl ?_
    refine r_iload_n C hl 4 dX3_tryCell_69 rfl rfl ?_
    refine r_iload C hl 0 dX3_tryCell_70 rfl ?_
    obtain ⟨c72_values, c72_waitsFor, c72_known, h72, h⟩ := bd3_some h
    refine r_V (wr := [(be 0, .inr (1, [.ref (be 1)])), (be 1, .inl (eI X, 120, .inl u_parts))]) (np := 2) C hl (mX3_settle X ad  v_values v_heights v_readBits v_waitsFor v_known v_circular v_circles p2 r10 (c72_values, c72_waitsFor, c72_known) h72) hW [0, 1, 2, 3, 4] [5, 6] rfl rfl rfl rfl (by decide) 0 rfl rfl w_cd_X3_settle w_ml_X3_51 w_im_X3_settle w_sel_X3_settle w_in_HeightSheet_Reckoning (by decide +kernel) rfl ⟨Nat.le_of_ble_eq_true rfl, Nat.le_of_ble_eq_true rfl⟩ ⟨Nat.zero_le _, Nat.zero_le _⟩ (Nat.le_of_ble_eq_true rfl) dX3_tryCell_72 (fun rv w1 H L hp hW => ?_) rfl
    obtain ⟨rfl, rfl⟩ := hp
    replace hW : Wd X k A [(ad 0, .inr (3, [.ref (ad 1), .ref (ad 2), .ref (ad 3), .ref (ad 4), .int c72_known, .int v_circular, .int v_circles])), (ad 1, .inl (eI X, 30, .inl c72_values)), (ad 2, .inl (eI X, 30, .inl v_heights)), (ad 3, .inl (eI X, 30, .inl v_readBits)), (ad 4, .inl (eI X, 30, .inl c72_waitsFor)), (be 0, .inr (1, [.ref (be 1)])), (be 1, .inl (eI X, 120, .inl u_parts))] H L := hW.sub [2, 3, 4, 5, 6, 0, 1] rfl rfl
    show Wx X k 0 0 H L 75 ls []
    refine r_goto (tgt := 177) C dX3_tryCell_75 (by decide) ?_
    exact r_vret C hq hW (by obtain rfl := Option.some.inj h; exact ⟨rfl, rfl⟩) dX3_tryCell_177
  · replace h := iF c16_0 h
    by_cases c16_1 : r3 = (1 : Int32)
    · replace h := iT c16_1 h
      refine r_swI (tgt := 68) C dX3_tryCell_16 c16_1 (by decide) (by decide) rfl (by decide) ?_
      refine r_aload_n C hl 2 dX3_tryCell_68 rfl rfl ?_
      refine r_iload_n C hl 4 dX3_tryCell_69 rfl rfl ?_
      refine r_iload C hl 0 dX3_tryCell_70 rfl ?_
      obtain ⟨c72_values, c72_waitsFor, c72_known, h72, h⟩ := bd3_some h
      refine r_V (wr := [(be 0, .inr (1, [.ref (be 1)])), (be 1, .inl (eI X, 120, .inl u_parts))]) (np := 2) C hl (mX3_settle X ad  v_values v_heights v_readBits v_waitsFor v_known v_circular v_circles p2 r10 (c72_values, c72_waitsFor, c72_known) h72) hW [0, 1, 2, 3, 4] [5, 6] rfl rfl rfl rfl (by decide) 0 rfl rfl w_cd_X3_settle w_ml_X3_51 w_im_X3_settle w_sel_X3_settle w_in_HeightSheet_Reckoning (by decide +kernel) rfl ⟨Nat.le_of_ble_eq_true rfl, Nat.le_of_ble_eq_true rfl⟩ ⟨Nat.zero_le _, Nat.zero_le _⟩ (Nat.le_of_ble_eq_true rfl) dX3_tryCell_72 (fun rv w1 H L hp hW => ?_) rfl
      obtain ⟨rfl, rfl⟩ := hp
      replace hW : Wd X k A [(ad 0, .inr (3, [.ref (ad 1), .ref (ad 2), .ref (ad 3), .ref (ad 4), .int c72_known, .int v_circular, .int v_circles])), (ad 1, .inl (eI X, 30, .inl c72_values)), (ad 2, .inl (eI X, 30, .inl v_heights)), (ad 3, .inl (eI X, 30, .inl v_readBits)), (ad 4, .inl (eI X, 30, .inl c72_waitsFor)), (be 0, .inr (1, [.ref (be 1)])), (be 1, .inl (eI X, 120, .inl u_parts))] H L := hW.sub [2, 3, 4, 5, 6, 0, 1] rfl rfl
      show Wx X k 0 0 H L 75 ls []
      refine r_goto (tgt := 177) C dX3_tryCell_75 (by decide) ?_
      exact r_vret C hq hW (by obtain rfl := Option.some.inj h; exact ⟨rfl, rfl⟩) dX3_tryCell_177
    · replace h := iF c16_1 h
      by_cases c16_2 : r3 = (2 : Int32)
      · replace h := iT c16_2 h
        refine r_swI (tgt := 163) C dX3_tryCell_16 c16_2 (by decide) (by decide) rfl (by decide) ?_
        refine r_aload_n C hl 2 dX3_tryCell_163 rfl rfl ?_
        refine r_iload_n C hl 1 dX3_tryCell_164 rfl rfl ?_
        refine r_iload_n C hl 4 dX3_tryCell_165 rfl rfl ?_
        refine r_iload C hl 0 dX3_tryCell_166 rfl ?_
        refine r_aload_n C hl 3 dX3_tryCell_168 rfl rfl ?_
        refine r_iload_n C hl 4 dX3_tryCell_169 rfl rfl ?_
        refine r_iconst (v := 2) C dX3_tryCell_170 (by decide) ?_
        obtain ⟨r171, h171, h⟩ := bd1_some h
        refine r_VN (wr := [(ad 0, .inr (3, [.ref (ad 1), .ref (ad 2), .ref (ad 3), .ref (ad 4), .int v_known, .int v_circular, .int v_circles])), (ad 1, .inl (eI X, 30, .inl v_values)), (ad 2, .inl (eI X, 30, .inl v_heights)), (ad 3, .inl (eI X, 30, .inl v_readBits)), (ad 4, .inl (eI X, 30, .inl v_waitsFor))]) (np := 2) C hl (mX1_part X be  u_parts p2 (2 : Int32) r171 h171) hW [5, 6] [0, 1, 2, 3, 4] rfl rfl rfl rfl (by decide) 0 rfl rfl w_cd_X1_part w_im_X1_part w_sel_X1_part w_in_HeightSheet_Formulas 10 rfl (by decide +kernel) rfl ⟨Nat.le_of_ble_eq_true rfl, Nat.le_of_ble_eq_true rfl⟩ ⟨Nat.zero_le _, Nat.zero_le _⟩ (Nat.le_of_ble_eq_true rfl) dX3_tryCell_171 (fun rv w1 H L hp hW => ?_) rfl
        obtain ⟨rfl, rfl⟩ := hp
        replace hW : Wd X k A [(ad 0, .inr (3, [.ref (ad 1), .ref (ad 2), .ref (ad 3), .ref (ad 4), .int v_known, .int v_circular, .int v_circles])), (ad 1, .inl (eI X, 30, .inl v_values)), (ad 2, .inl (eI X, 30, .inl v_heights)), (ad 3, .inl (eI X, 30, .inl v_readBits)), (ad 4, .inl (eI X, 30, .inl v_waitsFor)), (be 0, .inr (1, [.ref (be 1)])), (be 1, .inl (eI X, 120, .inl u_parts))] H L := hW.sub [0, 1, 2, 3, 4, 5, 6] rfl rfl
        show Wx X k 0 0 H L 174 ls [.int r171, .int r10, .int p2, .int r3, .ref (ad 0)]
        obtain ⟨c174_values, c174_heights, c174_readBits, c174_waitsFor, c174_known, h174, h⟩ := bd5_some h
        refine r_V (wr := [(be 0, .inr (1, [.ref (be 1)])), (be 1, .inl (eI X, 120, .inl u_parts))]) (np := 4) C hl (mX3_tryTwo X ad  v_values v_heights v_readBits v_waitsFor v_known v_circular v_circles r3 p2 r10 r171 (c174_values, c174_heights, c174_readBits, c174_waitsFor, c174_known) h174) hW [0, 1, 2, 3, 4] [5, 6] rfl rfl rfl rfl (by decide) 0 rfl rfl w_cd_X3_tryTwo w_ml_X3_70 w_im_X3_tryTwo w_sel_X3_tryTwo w_in_HeightSheet_Reckoning (by decide +kernel) rfl ⟨Nat.le_of_ble_eq_true rfl, Nat.le_of_ble_eq_true rfl⟩ ⟨Nat.zero_le _, Nat.zero_le _⟩ (Nat.le_of_ble_eq_true rfl) dX3_tryCell_174 (fun rv w1 H L hp hW => ?_) rfl
        obtain ⟨rfl, rfl⟩ := hp
        replace hW : Wd X k A [(ad 0, .inr (3, [.ref (ad 1), .ref (ad 2), .ref (ad 3), .ref (ad 4), .int c174_known, .int v_circular, .int v_circles])), (ad 1, .inl (eI X, 30, .inl c174_values)), (ad 2, .inl (eI X, 30, .inl c174_heights)), (ad 3, .inl (eI X, 30, .inl c174_readBits)), (ad 4, .inl (eI X, 30, .inl c174_waitsFor)), (be 0, .inr (1, [.ref (be 1)])), (be 1, .inl (eI X, 120, .inl u_parts))] H L := hW.sub [2, 3, 4, 5, 6, 0, 1] rfl rfl
        show Wx X k 0 0 H L 177 ls []
        exact r_vret C hq hW (by obtain rfl := Option.some.inj h; exact ⟨rfl, rfl⟩) dX3_tryCell_177
      · replace h := iF c16_2 h
        by_cases c16_3 : r3 = (3 : Int32)
        · replace h := iT c16_3 h
          refine r_swI (tgt := 163) C dX3_tryCell_16 c16_3 (by decide) (by decide) rfl (by decide) ?_
          refine r_aload_n C hl 2 dX3_tryCell_163 rfl rfl ?_
          refine r_iload_n C hl 1 dX3_tryCell_164 rfl rfl ?_
          refine r_iload_n C hl 4 dX3_tryCell_165 rfl rfl ?_
          refine r_iload C hl 0 dX3_tryCell_166 rfl ?_
          refine r_aload_n C hl 3 dX3_tryCell_168 rfl rfl ?_
          refine r_iload_n C hl 4 dX3_tryCell_169 rfl rfl ?_
          refine r_iconst (v := 2) C dX3_tryCell_170 (by decide) ?_
          obtain ⟨r171, h171, h⟩ := bd1_some h
          refine r_VN (wr := [(ad 0, .inr (3, [.ref (ad 1), .ref (ad 2), .ref (ad 3), .ref (ad 4), .int v_known, .int v_circular, .int v_circles])), (ad 1, .inl (eI X, 30, .inl v_values)), (ad 2, .inl (eI X, 30, .inl v_heights)), (ad 3, .inl (eI X, 30, .inl v_readBits)), (ad 4, .inl (eI X, 30, .inl v_waitsFor))]) (np := 2) C hl (mX1_part X be  u_parts p2 (2 : Int32) r171 h171) hW [5, 6] [0, 1, 2, 3, 4] rfl rfl rfl rfl (by decide) 0 rfl rfl w_cd_X1_part w_im_X1_part w_sel_X1_part w_in_HeightSheet_Formulas 10 rfl (by decide +kernel) rfl ⟨Nat.le_of_ble_eq_true rfl, Nat.le_of_ble_eq_true rfl⟩ ⟨Nat.zero_le _, Nat.zero_le _⟩ (Nat.le_of_ble_eq_true rfl) dX3_tryCell_171 (fun rv w1 H L hp hW => ?_) rfl
          obtain ⟨rfl, rfl⟩ := hp
          replace hW : Wd X k A [(ad 0, .inr (3, [.ref (ad 1), .ref (ad 2), .ref (ad 3), .ref (ad 4), .int v_known, .int v_circular, .int v_circles])), (ad 1, .inl (eI X, 30, .inl v_values)), (ad 2, .inl (eI X, 30, .inl v_heights)), (ad 3, .inl (eI X, 30, .inl v_readBits)), (ad 4, .inl (eI X, 30, .inl v_waitsFor)), (be 0, .inr (1, [.ref (be 1)])), (be 1, .inl (eI X, 120, .inl u_parts))] H L := hW.sub [0, 1, 2, 3, 4, 5, 6] rfl rfl
          show Wx X k 0 0 H L 174 ls [.int r171, .int r10, .int p2, .int r3, .ref (ad 0)]
          obtain ⟨c174_values, c174_heights, c174_readBits, c174_waitsFor, c174_known, h174, h⟩ := bd5_some h
          refine r_V (wr := [(be 0, .inr (1, [.ref (be 1)])), (be 1, .inl (eI X, 120, .inl u_parts))]) (np := 4) C hl (mX3_tryTwo X ad  v_values v_heights v_readBits v_waitsFor v_known v_circular v_circles r3 p2 r10 r171 (c174_values, c174_heights, c174_readBits, c174_waitsFor, c174_known) h174) hW [0, 1, 2, 3, 4] [5, 6] rfl rfl rfl rfl (by decide) 0 rfl rfl w_cd_X3_tryTwo w_ml_X3_70 w_im_X3_tryTwo w_sel_X3_tryTwo w_in_HeightSheet_Reckoning (by decide +kernel) rfl ⟨Nat.le_of_ble_eq_true rfl, Nat.le_of_ble_eq_true rfl⟩ ⟨Nat.zero_le _, Nat.zero_le _⟩ (Nat.le_of_ble_eq_true rfl) dX3_tryCell_174 (fun rv w1 H L hp hW => ?_) rfl
          obtain ⟨rfl, rfl⟩ := hp
          replace hW : Wd X k A [(ad 0, .inr (3, [.ref (ad 1), .ref (ad 2), .ref (ad 3), .ref (ad 4), .int c174_known, .int v_circular, .int v_circles])), (ad 1, .inl (eI X, 30, .inl c174_values)), (ad 2, .inl (eI X, 30, .inl c174_heights)), (ad 3, .inl (eI X, 30, .inl c174_readBits)), (ad 4, .inl (eI X, 30, .inl c174_waitsFor)), (be 0, .inr (1, [.ref (be 1)])), (be 1, .inl (eI X, 120, .inl u_parts))] H L := hW.sub [2, 3, 4, 5, 6, 0, 1] rfl rfl
          show Wx X k 0 0 H L 177 ls []
          exact r_vret C hq hW (by obtain rfl := Option.some.inj h; exact ⟨rfl, rfl⟩) dX3_tryCell_177
        · replace h := iF c16_3 h
          by_cases c16_4 : r3 = (4 : Int32)
          · replace h := iT c16_4 h
            refine r_swI (tgt := 163) C dX3_tryCell_16 c16_4 (by decide) (by decide) rfl (by decide) ?_
            refine r_aload_n C hl 2 dX3_tryCell_163 rfl rfl ?_
            refine r_iload_n C hl 1 dX3_tryCell_164 rfl rfl ?_
            refine r_iload_n C hl 4 dX3_tryCell_165 rfl rfl ?_
            refine r_iload C hl 0 dX3_tryCell_166 rfl ?_
            refine r_aload_n C hl 3 dX3_tryCell_168 rfl rfl ?_
            refine r_iload_n C hl 4 dX3_tryCell_169 rfl rfl ?_
            refine r_iconst (v := 2) C dX3_tryCell_170 (by decide) ?_
            obtain ⟨r171, h171, h⟩ := bd1_some h
            refine r_VN (wr := [(ad 0, .inr (3, [.ref (ad 1), .ref (ad 2), .ref (ad 3), .ref (ad 4), .int v_known, .int v_circular, .int v_circles])), (ad 1, .inl (eI X, 30, .inl v_values)), (ad 2, .inl (eI X, 30, .inl v_heights)), (ad 3, .inl (eI X, 30, .inl v_readBits)), (ad 4, .inl (eI X, 30, .inl v_waitsFor))]) (np := 2) C hl (mX1_part X be  u_parts p2 (2 : Int32) r171 h171) hW [5, 6] [0, 1, 2, 3, 4] rfl rfl rfl rfl (by decide) 0 rfl rfl w_cd_X1_part w_im_X1_part w_sel_X1_part w_in_HeightSheet_Formulas 10 rfl (by decide +kernel) rfl ⟨Nat.le_of_ble_eq_true rfl, Nat.le_of_ble_eq_true rfl⟩ ⟨Nat.zero_le _, Nat.zero_le _⟩ (Nat.le_of_ble_eq_true rfl) dX3_tryCell_171 (fun rv w1 H L hp hW => ?_) rfl
            obtain ⟨rfl, rfl⟩ := hp
            replace hW : Wd X k A [(ad 0, .inr (3, [.ref (ad 1), .ref (ad 2), .ref (ad 3), .ref (ad 4), .int v_known, .int v_circular, .int v_circles])), (ad 1, .inl (eI X, 30, .inl v_values)), (ad 2, .inl (eI X, 30, .inl v_heights)), (ad 3, .inl (eI X, 30, .inl v_readBits)), (ad 4, .inl (eI X, 30, .inl v_waitsFor)), (be 0, .inr (1, [.ref (be 1)])), (be 1, .inl (eI X, 120, .inl u_parts))] H L := hW.sub [0, 1, 2, 3, 4, 5, 6] rfl rfl
            show Wx X k 0 0 H L 174 ls [.int r171, .int r10, .int p2, .int r3, .ref (ad 0)]
            obtain ⟨c174_values, c174_heights, c174_readBits, c174_waitsFor, c174_known, h174, h⟩ := bd5_some h
            refine r_V (wr := [(be 0, .inr (1, [.ref (be 1)])), (be 1, .inl (eI X, 120, .inl u_parts))]) (np := 4) C hl (mX3_tryTwo X ad  v_values v_heights v_readBits v_waitsFor v_known v_circular v_circles r3 p2 r10 r171 (c174_values, c174_heights, c174_readBits, c174_waitsFor, c174_known) h174) hW [0, 1, 2, 3, 4] [5, 6] rfl rfl rfl rfl (by decide) 0 rfl rfl w_cd_X3_tryTwo w_ml_X3_70 w_im_X3_tryTwo w_sel_X3_tryTwo w_in_HeightSheet_Reckoning (by decide +kernel) rfl ⟨Nat.le_of_ble_eq_true rfl, Nat.le_of_ble_eq_true rfl⟩ ⟨Nat.zero_le _, Nat.zero_le _⟩ (Nat.le_of_ble_eq_true rfl) dX3_tryCell_174 (fun rv w1 H L hp hW => ?_) rfl
            obtain ⟨rfl, rfl⟩ := hp
            replace hW : Wd X k A [(ad 0, .inr (3, [.ref (ad 1), .ref (ad 2), .ref (ad 3), .ref (ad 4), .int c174_known, .int v_circular, .int v_circles])), (ad 1, .inl (eI X, 30, .inl c174_values)), (ad 2, .inl (eI X, 30, .inl c174_heights)), (ad 3, .inl (eI X, 30, .inl c174_readBits)), (ad 4, .inl (eI X, 30, .inl c174_waitsFor)), (be 0, .inr (1, [.ref (be 1)])), (be 1, .inl (eI X, 120, .inl u_parts))] H L := hW.sub [2, 3, 4, 5, 6, 0, 1] rfl rfl
            show Wx X k 0 0 H L 177 ls []
            exact r_vret C hq hW (by obtain rfl := Option.some.inj h; exact ⟨rfl, rfl⟩) dX3_tryCell_177
          · replace h := iF c16_4 h
            by_cases c16_5 : r3 = (5 : Int32)
            · replace h := iT c16_5 h
              refine r_swI (tgt := 78) C dX3_tryCell_16 c16_5 (by decide) (by decide) rfl (by decide) ?_
              refine r_aload_n C hl 2 dX3_tryCell_78 rfl rfl ?_
              refine r_iload_n C hl 4 dX3_tryCell_79 rfl rfl ?_
              refine r_iload C hl 0 dX3_tryCell_80 rfl ?_
              obtain ⟨r82, c82_heights, c82_readBits, c82_waitsFor, h82, h⟩ := bd4_some h
              refine r_V (wr := [(be 0, .inr (1, [.ref (be 1)])), (be 1, .inl (eI X, 120, .inl u_parts))]) (np := 2) C hl (mX3_takes X ad  v_values v_heights v_readBits v_waitsFor v_known v_circular v_circles p2 r10 (r82, c82_heights, c82_readBits, c82_waitsFor) h82) hW [0, 1, 2, 3, 4] [5, 6] rfl rfl rfl rfl (by decide) 0 rfl rfl w_cd_X3_takes w_ml_X3_55 w_im_X3_takes w_sel_X3_takes w_in_HeightSheet_Reckoning (by decide +kernel) rfl ⟨Nat.le_of_ble_eq_true rfl, Nat.le_of_ble_eq_true rfl⟩ ⟨Nat.zero_le _, Nat.zero_le _⟩ (Nat.le_of_ble_eq_true rfl) dX3_tryCell_82 (fun rv w1 H L hp hW => ?_) rfl
              obtain ⟨rfl, rfl⟩ := hp
              replace hW : Wd X k A [(ad 0, .inr (3, [.ref (ad 1), .ref (ad 2), .ref (ad 3), .ref (ad 4), .int v_known, .int v_circular, .int v_circles])), (ad 1, .inl (eI X, 30, .inl v_values)), (ad 2, .inl (eI X, 30, .inl c82_heights)), (ad 3, .inl (eI X, 30, .inl c82_readBits)), (ad 4, .inl (eI X, 30, .inl c82_waitsFor)), (be 0, .inr (1, [.ref (be 1)])), (be 1, .inl (eI X, 120, .inl u_parts))] H L := hW.sub [2, 3, 4, 5, 6, 0, 1] rfl rfl
              show Wx X k 0 0 H L 85 ls [.int r82]
              refine r_if_eq (tgt := 177) C dX3_tryCell_85 (by decide) (fun c85 => ?_) (fun c85 => ?_)
              · replace h := iT c85 h
                exact r_vret C hq hW (by obtain rfl := Option.some.inj h; exact ⟨rfl, rfl⟩) dX3_tryCell_177
              · replace h := iF c85 h
                refine r_aload_n C hl 2 dX3_tryCell_88 rfl rfl ?_
                refine r_iload_n C hl 4 dX3_tryCell_89 rfl rfl ?_
                refine r_aload_n C hl 2 dX3_tryCell_90 rfl rfl ?_
                refine r_get C hW 0 rfl rfl iwX3 0 (by decide) w_fl_X3_9 rfl dX3_tryCell_91 ?_
                refine r_iload C hl 0 dX3_tryCell_94 rfl ?_
                obtain ⟨x96, e96, g96, h⟩ := rd_some h
                refine r_iald C hW 1 rfl g96 e96 dX3_tryCell_96 ?_
                refine r_bipush (v := 30) C dX3_tryCell_97 (by decide) ?_
                obtain ⟨r99, h99, h⟩ := bd1_some h
                refine r_S (wr := [(ad 0, .inr (3, [.ref (ad 1), .ref (ad 2), .ref (ad 3), .ref (ad 4), .int v_known, .int v_circular, .int v_circles])), (ad 1, .inl (eI X, 30, .inl v_values)), (ad 2, .inl (eI X, 30, .inl c82_heights)), (ad 3, .inl (eI X, 30, .inl c82_readBits)), (ad 4, .inl (eI X, 30, .inl c82_waitsFor)), (be 0, .inr (1, [.ref (be 1)])), (be 1, .inl (eI X, 120, .inl u_parts))]) (np := 2) C hl (mJ9_floorMod_7cf53 X    x96 (30 : Int32) r99 h99) hW [] [0, 1, 2, 3, 4, 5, 6] rfl rfl rfl rfl (by decide) w_cd_J9_floorMod_7cf53 w_ml_X3_58 w_st_J9_floorMod_7cf53 w_in_java_lang_Math (by decide +kernel) rfl ⟨Nat.le_of_ble_eq_true rfl, Nat.le_of_ble_eq_true rfl⟩ ⟨Nat.zero_le _, Nat.zero_le _⟩ (Nat.le_of_ble_eq_true rfl) dX3_tryCell_99 (fun rv w1 H L hp hW => ?_) rfl
                obtain ⟨rfl, rfl⟩ := hp
                replace hW : Wd X k A [(ad 0, .inr (3, [.ref (ad 1), .ref (ad 2), .ref (ad 3), .ref (ad 4), .int v_known, .int v_circular, .int v_circles])), (ad 1, .inl (eI X, 30, .inl v_values)), (ad 2, .inl (eI X, 30, .inl c82_heights)), (ad 3, .inl (eI X, 30, .inl c82_readBits)), (ad 4, .inl (eI X, 30, .inl c82_waitsFor)), (be 0, .inr (1, [.ref (be 1)])), (be 1, .inl (eI X, 120, .inl u_parts))] H L := hW.sub [0, 1, 2, 3, 4, 5, 6] rfl rfl
                show Wx X k 0 0 H L 102 ls [.int r99, .int p2, .ref (ad 0)]
                obtain ⟨c102_values, c102_heights, c102_readBits, c102_waitsFor, c102_known, h102, h⟩ := bd5_some h
                refine r_V (wr := [(be 0, .inr (1, [.ref (be 1)])), (be 1, .inl (eI X, 120, .inl u_parts))]) (np := 2) C hl (mX3_settleAs X ad  v_values c82_heights c82_readBits c82_waitsFor v_known v_circular v_circles p2 r99 (c102_values, c102_heights, c102_readBits, c102_waitsFor, c102_known) h102) hW [0, 1, 2, 3, 4] [5, 6] rfl rfl rfl rfl (by decide) 0 rfl rfl w_cd_X3_settleAs w_ml_X3_63 w_im_X3_settleAs w_sel_X3_settleAs w_in_HeightSheet_Reckoning (by decide +kernel) rfl ⟨Nat.le_of_ble_eq_true rfl, Nat.le_of_ble_eq_true rfl⟩ ⟨Nat.zero_le _, Nat.zero_le _⟩ (Nat.le_of_ble_eq_true rfl) dX3_tryCell_102 (fun rv w1 H L hp hW => ?_) rfl
                obtain ⟨rfl, rfl⟩ := hp
                replace hW : Wd X k A [(ad 0, .inr (3, [.ref (ad 1), .ref (ad 2), .ref (ad 3), .ref (ad 4), .int c102_known, .int v_circular, .int v_circles])), (ad 1, .inl (eI X, 30, .inl c102_values)), (ad 2, .inl (eI X, 30, .inl c102_heights)), (ad 3, .inl (eI X, 30, .inl c102_readBits)), (ad 4, .inl (eI X, 30, .inl c102_waitsFor)), (be 0, .inr (1, [.ref (be 1)])), (be 1, .inl (eI X, 120, .inl u_parts))] H L := hW.sub [2, 3, 4, 5, 6, 0, 1] rfl rfl
                show Wx X k 0 0 H L 105 ls []
                refine r_goto (tgt := 177) C dX3_tryCell_105 (by decide) ?_
                exact r_vret C hq hW (by obtain rfl := Option.some.inj h; exact ⟨rfl, rfl⟩) dX3_tryCell_177
            · replace h := iF c16_5 h
              by_cases c16_6 : r3 = (6 : Int32)
              · replace h := iT c16_6 h
                refine r_swI (tgt := 146) C dX3_tryCell_16 c16_6 (by decide) (by decide) rfl (by decide) ?_
                refine r_aload_n C hl 2 dX3_tryCell_146 rfl rfl ?_
                refine r_iload_n C hl 1 dX3_tryCell_147 rfl rfl ?_
                refine r_iload_n C hl 4 dX3_tryCell_148 rfl rfl ?_
                refine r_iload C hl 0 dX3_tryCell_149 rfl ?_
                refine r_aload_n C hl 3 dX3_tryCell_151 rfl rfl ?_
                refine r_iload_n C hl 4 dX3_tryCell_152 rfl rfl ?_
                refine r_iconst (v := 2) C dX3_tryCell_153 (by decide) ?_
                obtain ⟨r154, h154, h⟩ := bd1_some h
                refine r_VN (wr := [(ad 0, .inr (3, [.ref (ad 1), .ref (ad 2), .ref (ad 3), .ref (ad 4), .int v_known, .int v_circular, .int v_circles])), (ad 1, .inl (eI X, 30, .inl v_values)), (ad 2, .inl (eI X, 30, .inl v_heights)), (ad 3, .inl (eI X, 30, .inl v_readBits)), (ad 4, .inl (eI X, 30, .inl v_waitsFor))]) (np := 2) C hl (mX1_part X be  u_parts p2 (2 : Int32) r154 h154) hW [5, 6] [0, 1, 2, 3, 4] rfl rfl rfl rfl (by decide) 0 rfl rfl w_cd_X1_part w_im_X1_part w_sel_X1_part w_in_HeightSheet_Formulas 10 rfl (by decide +kernel) rfl ⟨Nat.le_of_ble_eq_true rfl, Nat.le_of_ble_eq_true rfl⟩ ⟨Nat.zero_le _, Nat.zero_le _⟩ (Nat.le_of_ble_eq_true rfl) dX3_tryCell_154 (fun rv w1 H L hp hW => ?_) rfl
                obtain ⟨rfl, rfl⟩ := hp
                replace hW : Wd X k A [(ad 0, .inr (3, [.ref (ad 1), .ref (ad 2), .ref (ad 3), .ref (ad 4), .int v_known, .int v_circular, .int v_circles])), (ad 1, .inl (eI X, 30, .inl v_values)), (ad 2, .inl (eI X, 30, .inl v_heights)), (ad 3, .inl (eI X, 30, .inl v_readBits)), (ad 4, .inl (eI X, 30, .inl v_waitsFor)), (be 0, .inr (1, [.ref (be 1)])), (be 1, .inl (eI X, 120, .inl u_parts))] H L := hW.sub [0, 1, 2, 3, 4, 5, 6] rfl rfl
                show Wx X k 0 0 H L 157 ls [.int r154, .int r10, .int p2, .int r3, .ref (ad 0)]
                obtain ⟨c157_values, c157_heights, c157_readBits, c157_waitsFor, c157_known, h157, h⟩ := bd5_some h
                refine r_V (wr := [(be 0, .inr (1, [.ref (be 1)])), (be 1, .inl (eI X, 120, .inl u_parts))]) (np := 4) C hl (mX3_trySpan X ad  v_values v_heights v_readBits v_waitsFor v_known v_circular v_circles r3 p2 r10 r154 (c157_values, c157_heights, c157_readBits, c157_waitsFor, c157_known) h157) hW [0, 1, 2, 3, 4] [5, 6] rfl rfl rfl rfl (by decide) 0 rfl rfl w_cd_X3_trySpan w_ml_X3_66 w_im_X3_trySpan w_sel_X3_trySpan w_in_HeightSheet_Reckoning (by decide +kernel) rfl ⟨Nat.le_of_ble_eq_true rfl, Nat.le_of_ble_eq_true rfl⟩ ⟨Nat.zero_le _, Nat.zero_le _⟩ (Nat.le_of_ble_eq_true rfl) dX3_tryCell_157 (fun rv w1 H L hp hW => ?_) rfl
                obtain ⟨rfl, rfl⟩ := hp
                replace hW : Wd X k A [(ad 0, .inr (3, [.ref (ad 1), .ref (ad 2), .ref (ad 3), .ref (ad 4), .int c157_known, .int v_circular, .int v_circles])), (ad 1, .inl (eI X, 30, .inl c157_values)), (ad 2, .inl (eI X, 30, .inl c157_heights)), (ad 3, .inl (eI X, 30, .inl c157_readBits)), (ad 4, .inl (eI X, 30, .inl c157_waitsFor)), (be 0, .inr (1, [.ref (be 1)])), (be 1, .inl (eI X, 120, .inl u_parts))] H L := hW.sub [2, 3, 4, 5, 6, 0, 1] rfl rfl
                show Wx X k 0 0 H L 160 ls []
                refine r_goto (tgt := 177) C dX3_tryCell_160 (by decide) ?_
                exact r_vret C hq hW (by obtain rfl := Option.some.inj h; exact ⟨rfl, rfl⟩) dX3_tryCell_177
              · replace h := iF c16_6 h
                by_cases c16_7 : r3 = (7 : Int32)
                · replace h := iT c16_7 h
                  refine r_swI (tgt := 146) C dX3_tryCell_16 c16_7 (by decide) (by decide) rfl (by decide) ?_
                  refine r_aload_n C hl 2 dX3_tryCell_146 rfl rfl ?_
                  refine r_iload_n C hl 1 dX3_tryCell_147 rfl rfl ?_
                  refine r_iload_n C hl 4 dX3_tryCell_148 rfl rfl ?_
                  refine r_iload C hl 0 dX3_tryCell_149 rfl ?_
                  refine r_aload_n C hl 3 dX3_tryCell_151 rfl rfl ?_
                  refine r_iload_n C hl 4 dX3_tryCell_152 rfl rfl ?_
                  refine r_iconst (v := 2) C dX3_tryCell_153 (by decide) ?_
                  obtain ⟨r154, h154, h⟩ := bd1_some h
                  refine r_VN (wr := [(ad 0, .inr (3, [.ref (ad 1), .ref (ad 2), .ref (ad 3), .ref (ad 4), .int v_known, .int v_circular, .int v_circles])), (ad 1, .inl (eI X, 30, .inl v_values)), (ad 2, .inl (eI X, 30, .inl v_heights)), (ad 3, .inl (eI X, 30, .inl v_readBits)), (ad 4, .inl (eI X, 30, .inl v_waitsFor))]) (np := 2) C hl (mX1_part X be  u_parts p2 (2 : Int32) r154 h154) hW [5, 6] [0, 1, 2, 3, 4] rfl rfl rfl rfl (by decide) 0 rfl rfl w_cd_X1_part w_im_X1_part w_sel_X1_part w_in_HeightSheet_Formulas 10 rfl (by decide +kernel) rfl ⟨Nat.le_of_ble_eq_true rfl, Nat.le_of_ble_eq_true rfl⟩ ⟨Nat.zero_le _, Nat.zero_le _⟩ (Nat.le_of_ble_eq_true rfl) dX3_tryCell_154 (fun rv w1 H L hp hW => ?_) rfl
                  obtain ⟨rfl, rfl⟩ := hp
                  replace hW : Wd X k A [(ad 0, .inr (3, [.ref (ad 1), .ref (ad 2), .ref (ad 3), .ref (ad 4), .int v_known, .int v_circular, .int v_circles])), (ad 1, .inl (eI X, 30, .inl v_values)), (ad 2, .inl (eI X, 30, .inl v_heights)), (ad 3, .inl (eI X, 30, .inl v_readBits)), (ad 4, .inl (eI X, 30, .inl v_waitsFor)), (be 0, .inr (1, [.ref (be 1)])), (be 1, .inl (eI X, 120, .inl u_parts))] H L := hW.sub [0, 1, 2, 3, 4, 5, 6] rfl rfl
                  show Wx X k 0 0 H L 157 ls [.int r154, .int r10, .int p2, .int r3, .ref (ad 0)]
                  obtain ⟨c157_values, c157_heights, c157_readBits, c157_waitsFor, c157_known, h157, h⟩ := bd5_some h
                  refine r_V (wr := [(be 0, .inr (1, [.ref (be 1)])), (be 1, .inl (eI X, 120, .inl u_parts))]) (np := 4) C hl (mX3_trySpan X ad  v_values v_heights v_readBits v_waitsFor v_known v_circular v_circles r3 p2 r10 r154 (c157_values, c157_heights, c157_readBits, c157_waitsFor, c157_known) h157) hW [0, 1, 2, 3, 4] [5, 6] rfl rfl rfl rfl (by decide) 0 rfl rfl w_cd_X3_trySpan w_ml_X3_66 w_im_X3_trySpan w_sel_X3_trySpan w_in_HeightSheet_Reckoning (by decide +kernel) rfl ⟨Nat.le_of_ble_eq_true rfl, Nat.le_of_ble_eq_true rfl⟩ ⟨Nat.zero_le _, Nat.zero_le _⟩ (Nat.le_of_ble_eq_true rfl) dX3_tryCell_157 (fun rv w1 H L hp hW => ?_) rfl
                  obtain ⟨rfl, rfl⟩ := hp
                  replace hW : Wd X k A [(ad 0, .inr (3, [.ref (ad 1), .ref (ad 2), .ref (ad 3), .ref (ad 4), .int c157_known, .int v_circular, .int v_circles])), (ad 1, .inl (eI X, 30, .inl c157_values)), (ad 2, .inl (eI X, 30, .inl c157_heights)), (ad 3, .inl (eI X, 30, .inl c157_readBits)), (ad 4, .inl (eI X, 30, .inl c157_waitsFor)), (be 0, .inr (1, [.ref (be 1)])), (be 1, .inl (eI X, 120, .inl u_parts))] H L := hW.sub [2, 3, 4, 5, 6, 0, 1] rfl rfl
                  show Wx X k 0 0 H L 160 ls []
                  refine r_goto (tgt := 177) C dX3_tryCell_160 (by decide) ?_
                  exact r_vret C hq hW (by obtain rfl := Option.some.inj h; exact ⟨rfl, rfl⟩) dX3_tryCell_177
                · replace h := iF c16_7 h
                  by_cases c16_8 : r3 = (8 : Int32)
                  · replace h := iT c16_8 h
                    refine r_swI (tgt := 108) C dX3_tryCell_16 c16_8 (by decide) (by decide) rfl (by decide) ?_
                    refine r_aload_n C hl 2 dX3_tryCell_108 rfl rfl ?_
                    refine r_iload_n C hl 4 dX3_tryCell_109 rfl rfl ?_
                    refine r_iload C hl 0 dX3_tryCell_110 rfl ?_
                    obtain ⟨r112, c112_heights, c112_readBits, c112_waitsFor, h112, h⟩ := bd4_some h
                    refine r_V (wr := [(be 0, .inr (1, [.ref (be 1)])), (be 1, .inl (eI X, 120, .inl u_parts))]) (np := 2) C hl (mX3_takes X ad  v_values v_heights v_readBits v_waitsFor v_known v_circular v_circles p2 r10 (r112, c112_heights, c112_readBits, c112_waitsFor) h112) hW [0, 1, 2, 3, 4] [5, 6] rfl rfl rfl rfl (by decide) 0 rfl rfl w_cd_X3_takes w_ml_X3_55 w_im_X3_takes w_sel_X3_takes w_in_HeightSheet_Reckoning (by decide +kernel) rfl ⟨Nat.le_of_ble_eq_true rfl, Nat.le_of_ble_eq_true rfl⟩ ⟨Nat.zero_le _, Nat.zero_le _⟩ (Nat.le_of_ble_eq_true rfl) dX3_tryCell_112 (fun rv w1 H L hp hW => ?_) rfl
                    obtain ⟨rfl, rfl⟩ := hp
                    replace hW : Wd X k A [(ad 0, .inr (3, [.ref (ad 1), .ref (ad 2), .ref (ad 3), .ref (ad 4), .int v_known, .int v_circular, .int v_circles])), (ad 1, .inl (eI X, 30, .inl v_values)), (ad 2, .inl (eI X, 30, .inl c112_heights)), (ad 3, .inl (eI X, 30, .inl c112_readBits)), (ad 4, .inl (eI X, 30, .inl c112_waitsFor)), (be 0, .inr (1, [.ref (be 1)])), (be 1, .inl (eI X, 120, .inl u_parts))] H L := hW.sub [2, 3, 4, 5, 6, 0, 1] rfl rfl
                    show Wx X k 0 0 H L 115 ls [.int r112]
                    refine r_if_eq (tgt := 177) C dX3_tryCell_115 (by decide) (fun c115 => ?_) (fun c115 => ?_)
                    · replace h := iT c115 h
                      exact r_vret C hq hW (by obtain rfl := Option.some.inj h; exact ⟨rfl, rfl⟩) dX3_tryCell_177
                    · replace h := iF c115 h
                      refine r_aload_n C hl 2 dX3_tryCell_118 rfl rfl ?_
                      refine r_iload_n C hl 4 dX3_tryCell_119 rfl rfl ?_
                      refine r_aload_n C hl 3 dX3_tryCell_120 rfl rfl ?_
                      refine r_iload_n C hl 4 dX3_tryCell_121 rfl rfl ?_
                      refine r_aload_n C hl 2 dX3_tryCell_122 rfl rfl ?_
                      refine r_get C hW 0 rfl rfl iwX3 0 (by decide) w_fl_X3_9 rfl dX3_tryCell_123 ?_
                      refine r_iload C hl 0 dX3_tryCell_126 rfl ?_
                      obtain ⟨x128, e128, g128, h⟩ := rd_some h
                      refine r_iald C hW 1 rfl g128 e128 dX3_tryCell_128 ?_
                      refine r_if_le (tgt := 136) C dX3_tryCell_129 (by decide) (fun c129 => ?_) (fun c129 => ?_)
                      · replace h := iT c129 h
                        refine r_iconst (v := 3) C dX3_tryCell_136 (by decide) ?_
                        exact K137 v_values c112_heights c112_readBits c112_waitsFor v_known p2 p2 (3 : Int32) H L ls hW (lv_sub hl [] rfl) h
                      · replace h := iF c129 h
                        refine r_iconst (v := 2) C dX3_tryCell_132 (by decide) ?_
                        refine r_goto (tgt := 137) C dX3_tryCell_133 (by decide) ?_
                        exact K137 v_values c112_heights c112_readBits c112_waitsFor v_known p2 p2 (2 : Int32) H L ls hW (lv_sub hl [] rfl) h
                  · replace h := iF c16_8 h
                    refine r_swO (tgt := 163) C dX3_tryCell_16 (by have t_ := And.intro trivial trivial; have u0 := lv_neT (a := 0) c16_0 rfl; have u1 := lv_neT (a := 1) c16_1 rfl; have u2 := lv_neT (a := 2) c16_2 rfl; have u3 := lv_neT (a := 3) c16_3 rfl; have u4 := lv_neT (a := 4) c16_4 rfl; have u5 := lv_neT (a := 5) c16_5 rfl; have u6 := lv_neT (a := 6) c16_6 rfl; have u7 := lv_neT (a := 7) c16_7 rfl; have u8 := lv_neT (a := 8) c16_8 rfl; omega) (by decide) ?_
                    refine r_aload_n C hl 2 dX3_tryCell_163 rfl rfl ?_
                    refine r_iload_n C hl 1 dX3_tryCell_164 rfl rfl ?_
                    refine r_iload_n C hl 4 dX3_tryCell_165 rfl rfl ?_
                    refine r_iload C hl 0 dX3_tryCell_166 rfl ?_
                    refine r_aload_n C hl 3 dX3_tryCell_168 rfl rfl ?_
                    refine r_iload_n C hl 4 dX3_tryCell_169 rfl rfl ?_
                    refine r_iconst (v := 2) C dX3_tryCell_170 (by decide) ?_
                    obtain ⟨r171, h171, h⟩ := bd1_some h
                    refine r_VN (wr := [(ad 0, .inr (3, [.ref (ad 1), .ref (ad 2), .ref (ad 3), .ref (ad 4), .int v_known, .int v_circular, .int v_circles])), (ad 1, .inl (eI X, 30, .inl v_values)), (ad 2, .inl (eI X, 30, .inl v_heights)), (ad 3, .inl (eI X, 30, .inl v_readBits)), (ad 4, .inl (eI X, 30, .inl v_waitsFor))]) (np := 2) C hl (mX1_part X be  u_parts p2 (2 : Int32) r171 h171) hW [5, 6] [0, 1, 2, 3, 4] rfl rfl rfl rfl (by decide) 0 rfl rfl w_cd_X1_part w_im_X1_part w_sel_X1_part w_in_HeightSheet_Formulas 10 rfl (by decide +kernel) rfl ⟨Nat.le_of_ble_eq_true rfl, Nat.le_of_ble_eq_true rfl⟩ ⟨Nat.zero_le _, Nat.zero_le _⟩ (Nat.le_of_ble_eq_true rfl) dX3_tryCell_171 (fun rv w1 H L hp hW => ?_) rfl
                    obtain ⟨rfl, rfl⟩ := hp
                    replace hW : Wd X k A [(ad 0, .inr (3, [.ref (ad 1), .ref (ad 2), .ref (ad 3), .ref (ad 4), .int v_known, .int v_circular, .int v_circles])), (ad 1, .inl (eI X, 30, .inl v_values)), (ad 2, .inl (eI X, 30, .inl v_heights)), (ad 3, .inl (eI X, 30, .inl v_readBits)), (ad 4, .inl (eI X, 30, .inl v_waitsFor)), (be 0, .inr (1, [.ref (be 1)])), (be 1, .inl (eI X, 120, .inl u_parts))] H L := hW.sub [0, 1, 2, 3, 4, 5, 6] rfl rfl
                    show Wx X k 0 0 H L 174 ls [.int r171, .int r10, .int p2, .int r3, .ref (ad 0)]
                    obtain ⟨c174_values, c174_heights, c174_readBits, c174_waitsFor, c174_known, h174, h⟩ := bd5_some h
                    refine r_V (wr := [(be 0, .inr (1, [.ref (be 1)])), (be 1, .inl (eI X, 120, .inl u_parts))]) (np := 4) C hl (mX3_tryTwo X ad  v_values v_heights v_readBits v_waitsFor v_known v_circular v_circles r3 p2 r10 r171 (c174_values, c174_heights, c174_readBits, c174_waitsFor, c174_known) h174) hW [0, 1, 2, 3, 4] [5, 6] rfl rfl rfl rfl (by decide) 0 rfl rfl w_cd_X3_tryTwo w_ml_X3_70 w_im_X3_tryTwo w_sel_X3_tryTwo w_in_HeightSheet_Reckoning (by decide +kernel) rfl ⟨Nat.le_of_ble_eq_true rfl, Nat.le_of_ble_eq_true rfl⟩ ⟨Nat.zero_le _, Nat.zero_le _⟩ (Nat.le_of_ble_eq_true rfl) dX3_tryCell_174 (fun rv w1 H L hp hW => ?_) rfl
                    obtain ⟨rfl, rfl⟩ := hp
                    replace hW : Wd X k A [(ad 0, .inr (3, [.ref (ad 1), .ref (ad 2), .ref (ad 3), .ref (ad 4), .int c174_known, .int v_circular, .int v_circles])), (ad 1, .inl (eI X, 30, .inl c174_values)), (ad 2, .inl (eI X, 30, .inl c174_heights)), (ad 3, .inl (eI X, 30, .inl c174_readBits)), (ad 4, .inl (eI X, 30, .inl c174_waitsFor)), (be 0, .inr (1, [.ref (be 1)])), (be 1, .inl (eI X, 120, .inl u_parts))] H L := hW.sub [2, 3, 4, 5, 6, 0, 1] rfl rfl
                    show Wx X k 0 0 H L 177 ls []
                    exact r_vret C hq hW (by obtain rfl := Option.some.inj h; exact ⟨rfl, rfl⟩) dX3_tryCell_177
def fX3_leastOfCircle_j49 (v_waitsFor : (Nat → Int32)) (p1 : Int32)  (l2 : Int32) (l3 : Int32) : Option (Int32) :=
  if l3 = p1 then
    some l2
  else
    some (-4 : Int32)
def fX3_leastOfCircle_b12 (v_waitsFor : (Nat → Int32)) (p1 : Int32)   (self12 : Int32 → Int32 → Int32 → Option (Int32)) (l2 : Int32) (l3 : Int32) (l4 : Int32) : Option (Int32) :=
  if l3 = (-4 : Int32) then
    fX3_leastOfCircle_j49 v_waitsFor p1  l2 l3
  else
    if l3 = p1 then
      fX3_leastOfCircle_j49 v_waitsFor p1  l2 l3
    else
      if (30 : Int32) ≤ l4 then
        fX3_leastOfCircle_j49 v_waitsFor p1  l2 l3
      else
        rd v_waitsFor 30 l3 fun x41 =>
        self12 (if l3 < l2 then l3 else l2) x41 (l4 + (1 : Int32))
def fX3_leastOfCircle (v_waitsFor : (Nat → Int32)) (p1 : Int32) : Option (Int32) :=
  rd v_waitsFor 30 p1 fun x7 =>
  lq3 (fX3_leastOfCircle_b12 v_waitsFor p1  ) fu p1 x7 (1 : Int32)
set_option maxRecDepth 100000 in
set_option maxHeartbeats 8000000 in
theorem mX3_leastOfCircle (X : Ev) (ad : Nat → Nat) (v_values : (Nat → Int32)) (v_heights : (Nat → Int32)) (v_readBits : (Nat → Int32)) (v_waitsFor : (Nat → Int32)) (v_known : Int32) (v_circular : Int32) (v_circles : Int32) (p1 : Int32) (o : Int32) (h : fX3_leastOfCircle v_waitsFor p1 = some o) : Ctr X yX3_leastOfCircle cX3_leastOfCircle 5 (some .int) 1 23 0 0 [.ref (ad 0), .int p1] [(ad 0, .inr (3, [.ref (ad 1), .ref (ad 2), .ref (ad 3), .ref (ad 4), .int v_known, .int v_circular, .int v_circles])), (ad 1, .inl (eI X, 30, .inl v_values)), (ad 2, .inl (eI X, 30, .inl v_heights)), (ad 3, .inl (eI X, 30, .inl v_readBits)), (ad 4, .inl (eI X, 30, .inl v_waitsFor))] (De (some (.int o)) [(ad 0, .inr (3, [.ref (ad 1), .ref (ad 2), .ref (ad 3), .ref (ad 4), .int v_known, .int v_circular, .int v_circles])), (ad 1, .inl (eI X, 30, .inl v_values)), (ad 2, .inl (eI X, 30, .inl v_heights)), (ad 3, .inl (eI X, 30, .inl v_readBits)), (ad 4, .inl (eI X, 30, .inl v_waitsFor))]) := by
  refine Ctr.start (by decide) (Nat.le_of_ble_eq_true rfl) (fun k A ls C hq hin hW hl => ?_)
  replace C : Cx X k cX3_leastOfCircle 5 (some .int) RX3 A 1 23 0 0 := C
  replace hl : lv_has ls 5 [(0, .ref (ad 0)), (1, .int p1)] := hl
  suffices hh : ∀ (H : Heap) (L : List Loc), Wd X k A [(ad 0, .inr (3, [.ref (ad 1), .ref (ad 2), .ref (ad 3), .ref (ad 4), .int v_known, .int v_circular, .int v_circles])), (ad 1, .inl (eI X, 30, .inl v_values)), (ad 2, .inl (eI X, 30, .inl v_heights)), (ad 3, .inl (eI X, 30, .inl v_readBits)), (ad 4, .inl (eI X, 30, .inl v_waitsFor))] H L → Wx X k 0 0 H L 0 ls [] from hh _ _ hW
  clear hW
  intro H L hW
  have K49 : ∀ (l2 : Int32), ∀ (l3 : Int32), ∀ (H : Heap) (L : List Loc) (ls : Array Slot), Wd X k A [(ad 0, .inr (3, [.ref (ad 1), .ref (ad 2), .ref (ad 3), .ref (ad 4), .int v_known, .int v_circular, .int v_circles])), (ad 1, .inl (eI X, 30, .inl v_values)), (ad 2, .inl (eI X, 30, .inl v_heights)), (ad 3, .inl (eI X, 30, .inl v_readBits)), (ad 4, .inl (eI X, 30, .inl v_waitsFor))] H L → lv_has ls 5 [(1, .int p1), (2, .int l2), (3, .int l3)] → fX3_leastOfCircle_j49 v_waitsFor p1  l2 l3 = some o → Wx X k 0 0 H L 49 ls [] := by
    intro l2 l3 H L ls hW hl h
    unfold fX3_leastOfCircle_j49 at h
    refine r_iload_n C hl 2 dX3_leastOfCircle_49 rfl rfl ?_
    refine r_iload_n C hl 0 dX3_leastOfCircle_50 rfl rfl ?_
    refine r_icmp_ne (tgt := 58) C dX3_leastOfCircle_51 (by decide) (fun c51 => ?_) (fun c51 => ?_)
    · replace h := iF c51 h
      refine r_bipush (v := -4) C dX3_leastOfCircle_58 (by decide) ?_
      exact r_iret C hq hW (by obtain rfl := Option.some.inj h; exact ⟨rfl, rfl⟩) dX3_leastOfCircle_60
    · replace h := iT c51 h
      refine r_iload_n C hl 1 dX3_leastOfCircle_54 rfl rfl ?_
      refine r_goto (tgt := 60) C dX3_leastOfCircle_55 (by decide) ?_
      exact r_iret C hq hW (by obtain rfl := Option.some.inj h; exact ⟨rfl, rfl⟩) dX3_leastOfCircle_60
  have K12 : ∀ (n12 : Nat), ∀ (l2 : Int32), ∀ (l3 : Int32), ∀ (l4 : Int32), ∀ (H : Heap) (L : List Loc) (ls : Array Slot), Wd X k A [(ad 0, .inr (3, [.ref (ad 1), .ref (ad 2), .ref (ad 3), .ref (ad 4), .int v_known, .int v_circular, .int v_circles])), (ad 1, .inl (eI X, 30, .inl v_values)), (ad 2, .inl (eI X, 30, .inl v_heights)), (ad 3, .inl (eI X, 30, .inl v_readBits)), (ad 4, .inl (eI X, 30, .inl v_waitsFor))] H L → lv_has ls 5 [(0, .ref (ad 0)), (1, .int p1), (2, .int l2), (3, .int l3), (4, .int l4)] → lq3 (fX3_leastOfCircle_b12 v_waitsFor p1  ) n12 l2 l3 l4 = some o → Wx X k 0 0 H L 12 ls [] := by
    intro n12
    induction n12 with
    | zero => intro l2 l3 l4 H L ls hW hl h; exact lq3_0 h
    | succ n12 ih12 =>
      intro l2 l3 l4 H L ls hW hl h
      rw [lq3_s] at h
      unfold fX3_leastOfCircle_b12 at h
      refine r_iload_n C hl 3 dX3_leastOfCircle_12 rfl rfl ?_
      refine r_bipush (v := -4) C dX3_leastOfCircle_13 (by decide) ?_
      refine r_icmp_eq (tgt := 49) C dX3_leastOfCircle_15 (by decide) (fun c15 => ?_) (fun c15 => ?_)
      · replace h := iT c15 h
        exact K49 l2 l3 H L ls hW (lv_sub hl [1, 2, 3] rfl) h
      · replace h := iF c15 h
        refine r_iload_n C hl 3 dX3_leastOfCircle_18 rfl rfl ?_
        refine r_iload_n C hl 1 dX3_leastOfCircle_19 rfl rfl ?_
        refine r_icmp_eq (tgt := 49) C dX3_leastOfCircle_20 (by decide) (fun c20 => ?_) (fun c20 => ?_)
        · replace h := iT c20 h
          exact K49 l2 l3 H L ls hW (lv_sub hl [1, 2, 3] rfl) h
        · replace h := iF c20 h
          refine r_iload C hl 4 dX3_leastOfCircle_23 rfl ?_
          refine r_bipush (v := 30) C dX3_leastOfCircle_25 (by decide) ?_
          refine r_icmp_ge (tgt := 49) C dX3_leastOfCircle_27 (by decide) (fun c27 => ?_) (fun c27 => ?_)
          · replace h := iT c27 h
            exact K49 l2 l3 H L ls hW (lv_sub hl [1, 2, 3] rfl) h
          · replace h := iF c27 h
            refine r_iload_n C hl 2 dX3_leastOfCircle_30 rfl rfl ?_
            refine r_iload_n C hl 3 dX3_leastOfCircle_31 rfl rfl ?_
            refine r_min C hl w_ml_X3_92 (Nat.le_of_ble_eq_true rfl) (Nat.le_of_ble_eq_true rfl) (Nat.zero_le _) (Nat.zero_le _) dX3_leastOfCircle_32 ?_
            refine r_istore_n (lv' := [(2, .int (if l3 < l2 then l3 else l2)), (0, .ref (ad 0)), (1, .int p1), (3, .int l3), (4, .int l4)]) C hl dX3_leastOfCircle_35 rfl (by decide) rfl (fun ls hl => ?_)
            refine r_aload_n C hl 1 dX3_leastOfCircle_36 rfl rfl ?_
            refine r_get C hW 0 rfl rfl iwX3 3 (by decide) w_fl_X3_21 rfl dX3_leastOfCircle_37 ?_
            refine r_iload_n C hl 3 dX3_leastOfCircle_40 rfl rfl ?_
            obtain ⟨x41, e41, g41, h⟩ := rd_some h
            refine r_iald C hW 4 rfl g41 e41 dX3_leastOfCircle_41 ?_
            refine r_istore_n (lv' := [(3, .int x41), (2, .int (if l3 < l2 then l3 else l2)), (0, .ref (ad 0)), (1, .int p1), (4, .int l4)]) C hl dX3_leastOfCircle_42 rfl (by decide) rfl (fun ls hl => ?_)
            refine r_iinc (j := 4) (v := l4 + (1 : Int32)) (lv' := [(4, .int (l4 + (1 : Int32))), (3, .int x41), (2, .int (if l3 < l2 then l3 else l2)), (0, .ref (ad 0)), (1, .int p1)]) C hl dX3_leastOfCircle_43 rfl rfl (by decide) rfl (fun ls hl => ?_)
            refine r_goto (tgt := 12) C dX3_leastOfCircle_46 (by decide) ?_
            exact ih12 (if l3 < l2 then l3 else l2) x41 (l4 + (1 : Int32)) H L ls hW (lv_sub hl [3, 4, 2, 1, 0] rfl) h
  unfold fX3_leastOfCircle at h
  refine r_iload_n C hl 1 dX3_leastOfCircle_0 rfl rfl ?_
  refine r_istore_n (lv' := [(2, .int p1), (0, .ref (ad 0)), (1, .int p1)]) C hl dX3_leastOfCircle_1 rfl (by decide) rfl (fun ls hl => ?_)
  refine r_aload_n C hl 1 dX3_leastOfCircle_2 rfl rfl ?_
  refine r_get C hW 0 rfl rfl iwX3 3 (by decide) w_fl_X3_21 rfl dX3_leastOfCircle_3 ?_
  refine r_iload_n C hl 2 dX3_leastOfCircle_6 rfl rfl ?_
  obtain ⟨x7, e7, g7, h⟩ := rd_some h
  refine r_iald C hW 4 rfl g7 e7 dX3_leastOfCircle_7 ?_
  refine r_istore_n (lv' := [(3, .int x7), (2, .int p1), (0, .ref (ad 0)), (1, .int p1)]) C hl dX3_leastOfCircle_8 rfl (by decide) rfl (fun ls hl => ?_)
  refine r_iconst (v := 1) C dX3_leastOfCircle_9 (by decide) ?_
  refine r_istore (lv' := [(4, .int (1 : Int32)), (3, .int x7), (2, .int p1), (0, .ref (ad 0)), (1, .int p1)]) C hl dX3_leastOfCircle_10 (by decide) rfl (fun ls hl => ?_)
  exact K12  fu p1 x7 (1 : Int32) H L ls hW (lv_sub hl [3, 4, 2, 1, 0] rfl) h
def fX3_findCircles_j58 (v_waitsFor : (Nat → Int32)) (self12 : Int32 → Int32 → Int32 → Option (Int32 × Int32)) (v_circular : Int32) (v_circles : Int32) (l1 : Int32) : Option (Int32 × Int32) :=
  self12 v_circular v_circles (l1 + (1 : Int32))
def fX3_findCircles_j43 (v_waitsFor : (Nat → Int32)) (self12 : Int32 → Int32 → Int32 → Option (Int32 × Int32)) (v_circular : Int32) (v_circles : Int32) (l1 : Int32) (l2 : Int32) : Option (Int32 × Int32) :=
  if l2 = l1 then
    fX3_findCircles_j58 v_waitsFor self12 v_circular (v_circles + (1 : Int32)) l1
  else
    fX3_findCircles_j58 v_waitsFor self12 v_circular v_circles l1
def fX3_findCircles_b12 (v_waitsFor : (Nat → Int32))   (self12 : Int32 → Int32 → Int32 → Option (Int32 × Int32)) (v_circular : Int32) (v_circles : Int32) (l1 : Int32) : Option (Int32 × Int32) :=
  if (30 : Int32) ≤ l1 then
    some (v_circular, v_circles)
  else
    bd1 (fX3_leastOfCircle v_waitsFor l1) fun r20 =>
    if r20 = (-4 : Int32) then
      fX3_findCircles_j43 v_waitsFor self12 v_circular v_circles l1 r20
    else
      bd1 (fX7_bit l1) fun r36 =>
      fX3_findCircles_j43 v_waitsFor self12 (v_circular ||| r36) v_circles l1 r20
def fX3_findCircles (v_waitsFor : (Nat → Int32)) (v_circular : Int32) (v_circles : Int32) : Option (Int32 × Int32) :=
  lq3 (fX3_findCircles_b12 v_waitsFor  ) fu (0 : Int32) (0 : Int32) (0 : Int32)
set_option maxRecDepth 100000 in
set_option maxHeartbeats 8000000 in
theorem mX3_findCircles (X : Ev) (ad : Nat → Nat) (v_values : (Nat → Int32)) (v_heights : (Nat → Int32)) (v_readBits : (Nat → Int32)) (v_waitsFor : (Nat → Int32)) (v_known : Int32) (v_circular : Int32) (v_circles : Int32)  (o : Int32 × Int32) (h : fX3_findCircles v_waitsFor v_circular v_circles = some o) : Ctr X yX3_findCircles cX3_findCircles 3 none 2 47 0 0 [.ref (ad 0)] [(ad 0, .inr (3, [.ref (ad 1), .ref (ad 2), .ref (ad 3), .ref (ad 4), .int v_known, .int v_circular, .int v_circles])), (ad 1, .inl (eI X, 30, .inl v_values)), (ad 2, .inl (eI X, 30, .inl v_heights)), (ad 3, .inl (eI X, 30, .inl v_readBits)), (ad 4, .inl (eI X, 30, .inl v_waitsFor))] (De none [(ad 0, .inr (3, [.ref (ad 1), .ref (ad 2), .ref (ad 3), .ref (ad 4), .int v_known, .int (o.1), .int (o.2)])), (ad 1, .inl (eI X, 30, .inl v_values)), (ad 2, .inl (eI X, 30, .inl v_heights)), (ad 3, .inl (eI X, 30, .inl v_readBits)), (ad 4, .inl (eI X, 30, .inl v_waitsFor))]) := by
  refine Ctr.start (by decide) (Nat.le_of_ble_eq_true rfl) (fun k A ls C hq hin hW hl => ?_)
  replace C : Cx X k cX3_findCircles 3 none RX3 A 2 47 0 0 := C
  replace hl : lv_has ls 3 [(0, .ref (ad 0))] := hl
  suffices hh : ∀ (H : Heap) (L : List Loc), Wd X k A [(ad 0, .inr (3, [.ref (ad 1), .ref (ad 2), .ref (ad 3), .ref (ad 4), .int v_known, .int v_circular, .int v_circles])), (ad 1, .inl (eI X, 30, .inl v_values)), (ad 2, .inl (eI X, 30, .inl v_heights)), (ad 3, .inl (eI X, 30, .inl v_readBits)), (ad 4, .inl (eI X, 30, .inl v_waitsFor))] H L → Wx X k 0 0 H L 0 ls [] from hh _ _ hW
  clear hW
  intro H L hW
  have K12 : ∀ (n12 : Nat), ∀ (v_circular : Int32), ∀ (v_circles : Int32), ∀ (l1 : Int32), ∀ (H : Heap) (L : List Loc) (ls : Array Slot), Wd X k A [(ad 0, .inr (3, [.ref (ad 1), .ref (ad 2), .ref (ad 3), .ref (ad 4), .int v_known, .int v_circular, .int v_circles])), (ad 1, .inl (eI X, 30, .inl v_values)), (ad 2, .inl (eI X, 30, .inl v_heights)), (ad 3, .inl (eI X, 30, .inl v_readBits)), (ad 4, .inl (eI X, 30, .inl v_waitsFor))] H L → lv_has ls 3 [(0, .ref (ad 0)), (1, .int l1)] → lq3 (fX3_findCircles_b12 v_waitsFor  ) n12 v_circular v_circles l1 = some o → Wx X k 0 0 H L 12 ls [] := by
    intro n12
    induction n12 with
    | zero => intro v_circular v_circles l1 H L ls hW hl h; exact lq3_0 h
    | succ n12 ih12 =>
      have K58 : ∀ (v_circular : Int32), ∀ (v_circles : Int32), ∀ (l1 : Int32), ∀ (H : Heap) (L : List Loc) (ls : Array Slot), Wd X k A [(ad 0, .inr (3, [.ref (ad 1), .ref (ad 2), .ref (ad 3), .ref (ad 4), .int v_known, .int v_circular, .int v_circles])), (ad 1, .inl (eI X, 30, .inl v_values)), (ad 2, .inl (eI X, 30, .inl v_heights)), (ad 3, .inl (eI X, 30, .inl v_readBits)), (ad 4, .inl (eI X, 30, .inl v_waitsFor))] H L → lv_has ls 3 [(0, .ref (ad 0)), (1, .int l1)] → fX3_findCircles_j58 v_waitsFor (lq3 (fX3_findCircles_b12 v_waitsFor  ) n12) v_circular v_circles l1 = some o → Wx X k 0 0 H L 58 ls [] := by
        intro v_circular v_circles l1 H L ls hW hl h
        unfold fX3_findCircles_j58 at h
        refine r_iinc (j := 1) (v := l1 + (1 : Int32)) (lv' := [(1, .int (l1 + (1 : Int32))), (0, .ref (ad 0))]) C hl dX3_findCircles_58 rfl rfl (by decide) rfl (fun ls hl => ?_)
        refine r_goto (tgt := 12) C dX3_findCircles_61 (by decide) ?_
        exact ih12 v_circular v_circles (l1 + (1 : Int32)) H L ls hW (lv_sub hl [1, 0] rfl) h
      have K43 : ∀ (v_circular : Int32), ∀ (v_circles : Int32), ∀ (l1 : Int32), ∀ (l2 : Int32), ∀ (H : Heap) (L : List Loc) (ls : Array Slot), Wd X k A [(ad 0, .inr (3, [.ref (ad 1), .ref (ad 2), .ref (ad 3), .ref (ad 4), .int v_known, .int v_circular, .int v_circles])), (ad 1, .inl (eI X, 30, .inl v_values)), (ad 2, .inl (eI X, 30, .inl v_heights)), (ad 3, .inl (eI X, 30, .inl v_readBits)), (ad 4, .inl (eI X, 30, .inl v_waitsFor))] H L → lv_has ls 3 [(0, .ref (ad 0)), (1, .int l1), (2, .int l2)] → fX3_findCircles_j43 v_waitsFor (lq3 (fX3_findCircles_b12 v_waitsFor  ) n12) v_circular v_circles l1 l2 = some o → Wx X k 0 0 H L 43 ls [] := by
        intro v_circular v_circles l1 l2 H L ls hW hl h
        unfold fX3_findCircles_j43 at h
        refine r_iload_n C hl 2 dX3_findCircles_43 rfl rfl ?_
        refine r_iload_n C hl 1 dX3_findCircles_44 rfl rfl ?_
        refine r_icmp_ne (tgt := 58) C dX3_findCircles_45 (by decide) (fun c45 => ?_) (fun c45 => ?_)
        · replace h := iF c45 h
          exact K58 v_circular v_circles l1 H L ls hW (lv_sub hl [0, 1] rfl) h
        · replace h := iT c45 h
          refine r_aload_n C hl 0 dX3_findCircles_48 rfl rfl ?_
          refine r_dup C rfl dX3_findCircles_49 ?_
          refine r_get C hW 0 rfl rfl iwX3 6 (by decide) w_fl_X3_86 rfl dX3_findCircles_50 ?_
          refine r_iconst (v := 1) C dX3_findCircles_53 (by decide) ?_
          refine r_iadd C dX3_findCircles_54 ?_
          refine r_put (ws' := [(ad 0, .inr (3, [.ref (ad 1), .ref (ad 2), .ref (ad 3), .ref (ad 4), .int v_known, .int v_circular, .int (v_circles + (1 : Int32))])), (ad 1, .inl (eI X, 30, .inl v_values)), (ad 2, .inl (eI X, 30, .inl v_heights)), (ad 3, .inl (eI X, 30, .inl v_readBits)), (ad 4, .inl (eI X, 30, .inl v_waitsFor))]) C hW 0 rfl rfl iwX3 tyX3_ok nmX3 6 (by decide) w_fl_X3_86 rfl (tyX3_ok 6 (by decide)) rfl rfl (Nat.le_of_ble_eq_true rfl) rfl dX3_findCircles_55 (fun H L hW => ?_)
          exact K58 v_circular (v_circles + (1 : Int32)) l1 H L ls hW (lv_sub hl [0, 1] rfl) h
      intro v_circular v_circles l1 H L ls hW hl h
      rw [lq3_s] at h
      unfold fX3_findCircles_b12 at h
      refine r_iload_n C hl 1 dX3_findCircles_12 rfl rfl ?_
      refine r_bipush (v := 30) C dX3_findCircles_13 (by decide) ?_
      refine r_icmp_ge (tgt := 64) C dX3_findCircles_15 (by decide) (fun c15 => ?_) (fun c15 => ?_)
      · replace h := iT c15 h
        exact r_vret C hq hW (by obtain rfl := Option.some.inj h; exact ⟨rfl, rfl⟩) dX3_findCircles_64
      · replace h := iF c15 h
        refine r_aload_n C hl 0 dX3_findCircles_18 rfl rfl ?_
        refine r_iload_n C hl 1 dX3_findCircles_19 rfl rfl ?_
        obtain ⟨r20, h20, h⟩ := bd1_some h
        refine r_V (wr := []) (np := 1) C hl (mX3_leastOfCircle X ad  v_values v_heights v_readBits v_waitsFor v_known v_circular v_circles l1 r20 h20) hW [0, 1, 2, 3, 4] [] rfl rfl rfl rfl (by decide) 0 rfl rfl w_cd_X3_leastOfCircle w_ml_X3_89 w_im_X3_leastOfCircle w_sel_X3_leastOfCircle w_in_HeightSheet_Reckoning (by decide +kernel) rfl ⟨Nat.le_of_ble_eq_true rfl, Nat.le_of_ble_eq_true rfl⟩ ⟨Nat.zero_le _, Nat.zero_le _⟩ (Nat.le_of_ble_eq_true rfl) dX3_findCircles_20 (fun rv w1 H L hp hW => ?_) rfl
        obtain ⟨rfl, rfl⟩ := hp
        replace hW : Wd X k A [(ad 0, .inr (3, [.ref (ad 1), .ref (ad 2), .ref (ad 3), .ref (ad 4), .int v_known, .int v_circular, .int v_circles])), (ad 1, .inl (eI X, 30, .inl v_values)), (ad 2, .inl (eI X, 30, .inl v_heights)), (ad 3, .inl (eI X, 30, .inl v_readBits)), (ad 4, .inl (eI X, 30, .inl v_waitsFor))] H L := hW.sub [0, 1, 2, 3, 4] rfl rfl
        show Wx X k 0 0 H L 23 ls [.int r20]
        refine r_istore_n (lv' := [(2, .int r20), (0, .ref (ad 0)), (1, .int l1)]) C hl dX3_findCircles_23 rfl (by decide) rfl (fun ls hl => ?_)
        refine r_iload_n C hl 0 dX3_findCircles_24 rfl rfl ?_
        refine r_bipush (v := -4) C dX3_findCircles_25 (by decide) ?_
        refine r_icmp_eq (tgt := 43) C dX3_findCircles_27 (by decide) (fun c27 => ?_) (fun c27 => ?_)
        · replace h := iT c27 h
          exact K43 v_circular v_circles l1 r20 H L ls hW (lv_sub hl [1, 2, 0] rfl) h
        · replace h := iF c27 h
          refine r_aload_n C hl 1 dX3_findCircles_30 rfl rfl ?_
          refine r_dup C rfl dX3_findCircles_31 ?_
          refine r_get C hW 0 rfl rfl iwX3 5 (by decide) w_fl_X3_83 rfl dX3_findCircles_32 ?_
          refine r_iload_n C hl 2 dX3_findCircles_35 rfl rfl ?_
          obtain ⟨r36, h36, h⟩ := bd1_some h
          refine r_SN (wr := [(ad 0, .inr (3, [.ref (ad 1), .ref (ad 2), .ref (ad 3), .ref (ad 4), .int v_known, .int v_circular, .int v_circles])), (ad 1, .inl (eI X, 30, .inl v_values)), (ad 2, .inl (eI X, 30, .inl v_heights)), (ad 3, .inl (eI X, 30, .inl v_readBits)), (ad 4, .inl (eI X, 30, .inl v_waitsFor))]) (np := 1) C hl (mX7_bit X    l1 r36 h36) hW [] [0, 1, 2, 3, 4] rfl rfl rfl rfl (by decide) w_cd_X7_bit w_st_X7_bit w_in_HeightSheet 11 rfl (by decide +kernel) rfl ⟨Nat.le_of_ble_eq_true rfl, Nat.le_of_ble_eq_true rfl⟩ ⟨Nat.zero_le _, Nat.zero_le _⟩ (Nat.le_of_ble_eq_true rfl) dX3_findCircles_36 (fun rv w1 H L hp hW => ?_) rfl
          obtain ⟨rfl, rfl⟩ := hp
          replace hW : Wd X k A [(ad 0, .inr (3, [.ref (ad 1), .ref (ad 2), .ref (ad 3), .ref (ad 4), .int v_known, .int v_circular, .int v_circles])), (ad 1, .inl (eI X, 30, .inl v_values)), (ad 2, .inl (eI X, 30, .inl v_heights)), (ad 3, .inl (eI X, 30, .inl v_readBits)), (ad 4, .inl (eI X, 30, .inl v_waitsFor))] H L := hW.sub [0, 1, 2, 3, 4] rfl rfl
          show Wx X k 0 0 H L 39 ls [.int r36, .int v_circular, .ref (ad 0)]
          refine r_ior C dX3_findCircles_39 ?_
          refine r_put (ws' := [(ad 0, .inr (3, [.ref (ad 1), .ref (ad 2), .ref (ad 3), .ref (ad 4), .int v_known, .int (v_circular ||| r36), .int v_circles])), (ad 1, .inl (eI X, 30, .inl v_values)), (ad 2, .inl (eI X, 30, .inl v_heights)), (ad 3, .inl (eI X, 30, .inl v_readBits)), (ad 4, .inl (eI X, 30, .inl v_waitsFor))]) C hW 0 rfl rfl iwX3 tyX3_ok nmX3 5 (by decide) w_fl_X3_83 rfl (tyX3_ok 5 (by decide)) rfl rfl (Nat.le_of_ble_eq_true rfl) rfl dX3_findCircles_40 (fun H L hW => ?_)
          exact K43 (v_circular ||| r36) v_circles l1 r20 H L ls hW (lv_sub hl [1, 2, 0] rfl) h
  unfold fX3_findCircles at h
  refine r_aload_n C hl 0 dX3_findCircles_0 rfl rfl ?_
  refine r_iconst (v := 0) C dX3_findCircles_1 (by decide) ?_
  refine r_put (ws' := [(ad 0, .inr (3, [.ref (ad 1), .ref (ad 2), .ref (ad 3), .ref (ad 4), .int v_known, .int (0 : Int32), .int v_circles])), (ad 1, .inl (eI X, 30, .inl v_values)), (ad 2, .inl (eI X, 30, .inl v_heights)), (ad 3, .inl (eI X, 30, .inl v_readBits)), (ad 4, .inl (eI X, 30, .inl v_waitsFor))]) C hW 0 rfl rfl iwX3 tyX3_ok nmX3 5 (by decide) w_fl_X3_83 rfl (tyX3_ok 5 (by decide)) rfl rfl (Nat.le_of_ble_eq_true rfl) rfl dX3_findCircles_2 (fun H L hW => ?_)
  refine r_aload_n C hl 0 dX3_findCircles_5 rfl rfl ?_
  refine r_iconst (v := 0) C dX3_findCircles_6 (by decide) ?_
  refine r_put (ws' := [(ad 0, .inr (3, [.ref (ad 1), .ref (ad 2), .ref (ad 3), .ref (ad 4), .int v_known, .int (0 : Int32), .int (0 : Int32)])), (ad 1, .inl (eI X, 30, .inl v_values)), (ad 2, .inl (eI X, 30, .inl v_heights)), (ad 3, .inl (eI X, 30, .inl v_readBits)), (ad 4, .inl (eI X, 30, .inl v_waitsFor))]) C hW 0 rfl rfl iwX3 tyX3_ok nmX3 6 (by decide) w_fl_X3_86 rfl (tyX3_ok 6 (by decide)) rfl rfl (Nat.le_of_ble_eq_true rfl) rfl dX3_findCircles_7 (fun H L hW => ?_)
  refine r_iconst (v := 0) C dX3_findCircles_10 (by decide) ?_
  refine r_istore_n (lv' := [(1, .int (0 : Int32)), (0, .ref (ad 0))]) C hl dX3_findCircles_11 rfl (by decide) rfl (fun ls hl => ?_)
  exact K12  fu (0 : Int32) (0 : Int32) (0 : Int32) H L ls hW (lv_sub hl [1, 0] rfl) h
def fX3_reckon_j97 (u_parts : (Nat → Int32))  (v_values : (Nat → Int32)) (v_heights : (Nat → Int32)) (v_readBits : (Nat → Int32)) (v_waitsFor : (Nat → Int32)) (v_known : Int32) (v_circular : Int32) (v_circles : Int32) : Option ((Nat → Int32) × (Nat → Int32) × (Nat → Int32) × (Nat → Int32) × Int32 × Int32 × Int32) :=
  bd2 (fX3_findCircles v_waitsFor v_circular v_circles) fun c98_circular c98_circles =>
  some (v_values, v_heights, v_readBits, v_waitsFor, v_known, c98_circular, c98_circles)
def fX3_reckon_j90 (u_parts : (Nat → Int32)) (self25 : (Nat → Int32) → (Nat → Int32) → (Nat → Int32) → (Nat → Int32) → Int32 → Int32 → Int32 → Option ((Nat → Int32) × (Nat → Int32) × (Nat → Int32) × (Nat → Int32) × Int32 × Int32 × Int32)) (v_values : (Nat → Int32)) (v_heights : (Nat → Int32)) (v_readBits : (Nat → Int32)) (v_waitsFor : (Nat → Int32)) (v_known : Int32) (v_circular : Int32) (v_circles : Int32) (l3 : Int32) (s0 : Int32) : Option ((Nat → Int32) × (Nat → Int32) × (Nat → Int32) × (Nat → Int32) × Int32 × Int32 × Int32) :=
  self25 v_values v_heights v_readBits v_waitsFor v_known s0 (l3 + (1 : Int32))
def fX3_reckon_j70 (u_parts : (Nat → Int32)) (self25 : (Nat → Int32) → (Nat → Int32) → (Nat → Int32) → (Nat → Int32) → Int32 → Int32 → Int32 → Option ((Nat → Int32) × (Nat → Int32) × (Nat → Int32) × (Nat → Int32) × Int32 × Int32 × Int32)) (self44 : (Nat → Int32) → (Nat → Int32) → (Nat → Int32) → (Nat → Int32) → Int32 → Int32 → Option ((Nat → Int32) × (Nat → Int32) × (Nat → Int32) × (Nat → Int32) × Int32 × Int32 × Int32)) (v_values : (Nat → Int32)) (v_heights : (Nat → Int32)) (v_readBits : (Nat → Int32)) (v_waitsFor : (Nat → Int32)) (v_known : Int32) (v_circular : Int32) (v_circles : Int32) (l3 : Int32) (l4 : Int32) (l5 : Int32) : Option ((Nat → Int32) × (Nat → Int32) × (Nat → Int32) × (Nat → Int32) × Int32 × Int32 × Int32) :=
  self44 v_values v_heights v_readBits v_waitsFor v_known (l5 + (1 : Int32))
def fX3_reckon_b44 (u_parts : (Nat → Int32)) (self25 : (Nat → Int32) → (Nat → Int32) → (Nat → Int32) → (Nat → Int32) → Int32 → Int32 → Int32 → Option ((Nat → Int32) × (Nat → Int32) × (Nat → Int32) × (Nat → Int32) × Int32 × Int32 × Int32)) (v_circular : Int32) (v_circles : Int32) (l3 : Int32) (l4 : Int32) (self44 : (Nat → Int32) → (Nat → Int32) → (Nat → Int32) → (Nat → Int32) → Int32 → Int32 → Option ((Nat → Int32) × (Nat → Int32) × (Nat → Int32) × (Nat → Int32) × Int32 × Int32 × Int32)) (v_values : (Nat → Int32)) (v_heights : (Nat → Int32)) (v_readBits : (Nat → Int32)) (v_waitsFor : (Nat → Int32)) (v_known : Int32) (l5 : Int32) : Option ((Nat → Int32) × (Nat → Int32) × (Nat → Int32) × (Nat → Int32) × Int32 × Int32 × Int32) :=
  if (30 : Int32) ≤ l5 then
    if v_known = l4 then
      fX3_reckon_j90 u_parts self25 v_values v_heights v_readBits v_waitsFor v_known v_circular v_circles l3 (0 : Int32)
    else
      fX3_reckon_j90 u_parts self25 v_values v_heights v_readBits v_waitsFor v_known v_circular v_circles l3 (1 : Int32)
  else
    bd1 (fX7_has v_known l5) fun r57 =>
    if r57 = (0 : Int32) then
      bd5 (fX3_tryCell v_values v_heights v_readBits v_waitsFor v_known u_parts l5) fun c67_values c67_heights c67_readBits c67_waitsFor c67_known =>
      fX3_reckon_j70 u_parts self25 self44 c67_values c67_heights c67_readBits c67_waitsFor c67_known v_circular v_circles l3 l4 l5
    else
      fX3_reckon_j70 u_parts self25 self44 v_values v_heights v_readBits v_waitsFor v_known v_circular v_circles l3 l4 l5
def fX3_reckon_b25 (u_parts : (Nat → Int32))  (v_circular : Int32) (v_circles : Int32) (self25 : (Nat → Int32) → (Nat → Int32) → (Nat → Int32) → (Nat → Int32) → Int32 → Int32 → Int32 → Option ((Nat → Int32) × (Nat → Int32) × (Nat → Int32) × (Nat → Int32) × Int32 × Int32 × Int32)) (v_values : (Nat → Int32)) (v_heights : (Nat → Int32)) (v_readBits : (Nat → Int32)) (v_waitsFor : (Nat → Int32)) (v_known : Int32) (l2 : Int32) (l3 : Int32) : Option ((Nat → Int32) × (Nat → Int32) × (Nat → Int32) × (Nat → Int32) × Int32 × Int32 × Int32) :=
  if l2 = (0 : Int32) then
    fX3_reckon_j97 u_parts  v_values v_heights v_readBits v_waitsFor v_known v_circular v_circles
  else
    if (30 : Int32) < l3 then
      fX3_reckon_j97 u_parts  v_values v_heights v_readBits v_waitsFor v_known v_circular v_circles
    else
      lq6 (fX3_reckon_b44 u_parts self25 v_circular v_circles l3 v_known) fu v_values v_heights v_readBits v_waitsFor v_known (0 : Int32)
def fX3_reckon (v_values : (Nat → Int32)) (v_heights : (Nat → Int32)) (v_readBits : (Nat → Int32)) (v_waitsFor : (Nat → Int32)) (v_known : Int32) (v_circular : Int32) (v_circles : Int32) (u_parts : (Nat → Int32)) : Option ((Nat → Int32) × (Nat → Int32) × (Nat → Int32) × (Nat → Int32) × Int32 × Int32 × Int32) :=
  bd1 (fJ7_fill_53178 30 v_heights (0 : Int32)) fun c5_a =>
  bd1 (fJ7_fill_53178 30 v_readBits (0 : Int32)) fun c13_a =>
  lq7 (fX3_reckon_b25 u_parts  v_circular v_circles) fu v_values c5_a c13_a v_waitsFor (0 : Int32) (1 : Int32) (0 : Int32)
set_option maxRecDepth 100000 in
set_option maxHeartbeats 8000000 in
theorem mX3_reckon (X : Ev) (ad : Nat → Nat) (be : Nat → Nat) (v_values : (Nat → Int32)) (v_heights : (Nat → Int32)) (v_readBits : (Nat → Int32)) (v_waitsFor : (Nat → Int32)) (v_known : Int32) (v_circular : Int32) (v_circles : Int32) (u_parts : (Nat → Int32))  (o : (Nat → Int32) × (Nat → Int32) × (Nat → Int32) × (Nat → Int32) × Int32 × Int32 × Int32) (h : fX3_reckon v_values v_heights v_readBits v_waitsFor v_known v_circular v_circles u_parts = some o) : Ctr X yX3_reckon cX3_reckon 6 none 4 96 0 0 [.ref (ad 0), .ref (be 0)] [(ad 0, .inr (3, [.ref (ad 1), .ref (ad 2), .ref (ad 3), .ref (ad 4), .int v_known, .int v_circular, .int v_circles])), (ad 1, .inl (eI X, 30, .inl v_values)), (ad 2, .inl (eI X, 30, .inl v_heights)), (ad 3, .inl (eI X, 30, .inl v_readBits)), (ad 4, .inl (eI X, 30, .inl v_waitsFor)), (be 0, .inr (1, [.ref (be 1)])), (be 1, .inl (eI X, 120, .inl u_parts))] (De none [(ad 0, .inr (3, [.ref (ad 1), .ref (ad 2), .ref (ad 3), .ref (ad 4), .int (o.2.2.2.2.1), .int (o.2.2.2.2.2.1), .int (o.2.2.2.2.2.2)])), (ad 1, .inl (eI X, 30, .inl (o.1))), (ad 2, .inl (eI X, 30, .inl (o.2.1))), (ad 3, .inl (eI X, 30, .inl (o.2.2.1))), (ad 4, .inl (eI X, 30, .inl (o.2.2.2.1))), (be 0, .inr (1, [.ref (be 1)])), (be 1, .inl (eI X, 120, .inl u_parts))]) := by
  refine Ctr.start (by decide) (Nat.le_of_ble_eq_true rfl) (fun k A ls C hq hin hW hl => ?_)
  replace C : Cx X k cX3_reckon 6 none RX3 A 4 96 0 0 := C
  replace hl : lv_has ls 6 [(0, .ref (ad 0)), (1, .ref (be 0))] := hl
  suffices hh : ∀ (H : Heap) (L : List Loc), Wd X k A [(ad 0, .inr (3, [.ref (ad 1), .ref (ad 2), .ref (ad 3), .ref (ad 4), .int v_known, .int v_circular, .int v_circles])), (ad 1, .inl (eI X, 30, .inl v_values)), (ad 2, .inl (eI X, 30, .inl v_heights)), (ad 3, .inl (eI X, 30, .inl v_readBits)), (ad 4, .inl (eI X, 30, .inl v_waitsFor)), (be 0, .inr (1, [.ref (be 1)])), (be 1, .inl (eI X, 120, .inl u_parts))] H L → Wx X k 0 0 H L 0 ls [] from hh _ _ hW
  clear hW
  intro H L hW
  have K97 : ∀ (v_values : (Nat → Int32)), ∀ (v_heights : (Nat → Int32)), ∀ (v_readBits : (Nat → Int32)), ∀ (v_waitsFor : (Nat → Int32)), ∀ (v_known : Int32), ∀ (v_circular : Int32), ∀ (v_circles : Int32), ∀ (H : Heap) (L : List Loc) (ls : Array Slot), Wd X k A [(ad 0, .inr (3, [.ref (ad 1), .ref (ad 2), .ref (ad 3), .ref (ad 4), .int v_known, .int v_circular, .int v_circles])), (ad 1, .inl (eI X, 30, .inl v_values)), (ad 2, .inl (eI X, 30, .inl v_heights)), (ad 3, .inl (eI X, 30, .inl v_readBits)), (ad 4, .inl (eI X, 30, .inl v_waitsFor)), (be 0, .inr (1, [.ref (be 1)])), (be 1, .inl (eI X, 120, .inl u_parts))] H L → lv_has ls 6 [(0, .ref (ad 0))] → fX3_reckon_j97 u_parts  v_values v_heights v_readBits v_waitsFor v_known v_circular v_circles = some o → Wx X k 0 0 H L 97 ls [] := by
    intro v_values v_heights v_readBits v_waitsFor v_known v_circular v_circles H L ls hW hl h
    unfold fX3_reckon_j97 at h
    refine r_aload_n C hl 0 dX3_reckon_97 rfl rfl ?_
    obtain ⟨c98_circular, c98_circles, h98, h⟩ := bd2_some h
    refine r_V (wr := [(be 0, .inr (1, [.ref (be 1)])), (be 1, .inl (eI X, 120, .inl u_parts))]) (np := 0) C hl (mX3_findCircles X ad  v_values v_heights v_readBits v_waitsFor v_known v_circular v_circles  (c98_circular, c98_circles) h98) hW [0, 1, 2, 3, 4] [5, 6] rfl rfl rfl rfl (by decide) 0 rfl rfl w_cd_X3_findCircles w_ml_X3_42 w_im_X3_findCircles w_sel_X3_findCircles w_in_HeightSheet_Reckoning (by decide +kernel) rfl ⟨Nat.le_of_ble_eq_true rfl, Nat.le_of_ble_eq_true rfl⟩ ⟨Nat.zero_le _, Nat.zero_le _⟩ (Nat.le_of_ble_eq_true rfl) dX3_reckon_98 (fun rv w1 H L hp hW => ?_) rfl
    obtain ⟨rfl, rfl⟩ := hp
    replace hW : Wd X k A [(ad 0, .inr (3, [.ref (ad 1), .ref (ad 2), .ref (ad 3), .ref (ad 4), .int v_known, .int c98_circular, .int c98_circles])), (ad 1, .inl (eI X, 30, .inl v_values)), (ad 2, .inl (eI X, 30, .inl v_heights)), (ad 3, .inl (eI X, 30, .inl v_readBits)), (ad 4, .inl (eI X, 30, .inl v_waitsFor)), (be 0, .inr (1, [.ref (be 1)])), (be 1, .inl (eI X, 120, .inl u_parts))] H L := hW.sub [2, 3, 4, 5, 6, 0, 1] rfl rfl
    show Wx X k 0 0 H L 101 ls []
    exact r_vret C hq hW (by obtain rfl := Option.some.inj h; exact ⟨rfl, rfl⟩) dX3_reckon_101
  have K25 : ∀ (v_circular : Int32), ∀ (v_circles : Int32), ∀ (n25 : Nat), ∀ (v_values : (Nat → Int32)), ∀ (v_heights : (Nat → Int32)), ∀ (v_readBits : (Nat → Int32)), ∀ (v_waitsFor : (Nat → Int32)), ∀ (v_known : Int32), ∀ (l2 : Int32), ∀ (l3 : Int32), ∀ (H : Heap) (L : List Loc) (ls : Array Slot), Wd X k A [(ad 0, .inr (3, [.ref (ad 1), .ref (ad 2), .ref (ad 3), .ref (ad 4), .int v_known, .int v_circular, .int v_circles])), (ad 1, .inl (eI X, 30, .inl v_values)), (ad 2, .inl (eI X, 30, .inl v_heights)), (ad 3, .inl (eI X, 30, .inl v_readBits)), (ad 4, .inl (eI X, 30, .inl v_waitsFor)), (be 0, .inr (1, [.ref (be 1)])), (be 1, .inl (eI X, 120, .inl u_parts))] H L → lv_has ls 6 [(0, .ref (ad 0)), (1, .ref (be 0)), (2, .int l2), (3, .int l3)] → lq7 (fX3_reckon_b25 u_parts  v_circular v_circles) n25 v_values v_heights v_readBits v_waitsFor v_known l2 l3 = some o → Wx X k 0 0 H L 25 ls [] := by
    intro v_circular v_circles
    intro n25
    induction n25 with
    | zero => intro v_values v_heights v_readBits v_waitsFor v_known l2 l3 H L ls hW hl h; exact lq7_0 h
    | succ n25 ih25 =>
      have K90 : ∀ (v_values : (Nat → Int32)), ∀ (v_heights : (Nat → Int32)), ∀ (v_readBits : (Nat → Int32)), ∀ (v_waitsFor : (Nat → Int32)), ∀ (v_known : Int32), ∀ (l3 : Int32), ∀ (s0 : Int32), ∀ (H : Heap) (L : List Loc) (ls : Array Slot), Wd X k A [(ad 0, .inr (3, [.ref (ad 1), .ref (ad 2), .ref (ad 3), .ref (ad 4), .int v_known, .int v_circular, .int v_circles])), (ad 1, .inl (eI X, 30, .inl v_values)), (ad 2, .inl (eI X, 30, .inl v_heights)), (ad 3, .inl (eI X, 30, .inl v_readBits)), (ad 4, .inl (eI X, 30, .inl v_waitsFor)), (be 0, .inr (1, [.ref (be 1)])), (be 1, .inl (eI X, 120, .inl u_parts))] H L → lv_has ls 6 [(0, .ref (ad 0)), (1, .ref (be 0)), (3, .int l3)] → fX3_reckon_j90 u_parts (lq7 (fX3_reckon_b25 u_parts  v_circular v_circles) n25) v_values v_heights v_readBits v_waitsFor v_known v_circular v_circles l3 s0 = some o → Wx X k 0 0 H L 90 ls [.int s0] := by
        intro v_values v_heights v_readBits v_waitsFor v_known l3 s0 H L ls hW hl h
        unfold fX3_reckon_j90 at h
        refine r_istore_n (lv' := [(2, .int s0), (0, .ref (ad 0)), (1, .ref (be 0)), (3, .int l3)]) C hl dX3_reckon_90 rfl (by decide) rfl (fun ls hl => ?_)
        refine r_iinc (j := 3) (v := l3 + (1 : Int32)) (lv' := [(3, .int (l3 + (1 : Int32))), (2, .int s0), (0, .ref (ad 0)), (1, .ref (be 0))]) C hl dX3_reckon_91 rfl rfl (by decide) rfl (fun ls hl => ?_)
        refine r_goto (tgt := 25) C dX3_reckon_94 (by decide) ?_
        exact ih25 v_values v_heights v_readBits v_waitsFor v_known s0 (l3 + (1 : Int32)) H L ls hW (lv_sub hl [2, 3, 1, 0] rfl) h
      have K44 : ∀ (l3 : Int32), ∀ (l4 : Int32), ∀ (n44 : Nat), ∀ (v_values : (Nat → Int32)), ∀ (v_heights : (Nat → Int32)), ∀ (v_readBits : (Nat → Int32)), ∀ (v_waitsFor : (Nat → Int32)), ∀ (v_known : Int32), ∀ (l5 : Int32), ∀ (H : Heap) (L : List Loc) (ls : Array Slot), Wd X k A [(ad 0, .inr (3, [.ref (ad 1), .ref (ad 2), .ref (ad 3), .ref (ad 4), .int v_known, .int v_circular, .int v_circles])), (ad 1, .inl (eI X, 30, .inl v_values)), (ad 2, .inl (eI X, 30, .inl v_heights)), (ad 3, .inl (eI X, 30, .inl v_readBits)), (ad 4, .inl (eI X, 30, .inl v_waitsFor)), (be 0, .inr (1, [.ref (be 1)])), (be 1, .inl (eI X, 120, .inl u_parts))] H L → lv_has ls 6 [(0, .ref (ad 0)), (1, .ref (be 0)), (3, .int l3), (4, .int l4), (5, .int l5)] → lq6 (fX3_reckon_b44 u_parts (lq7 (fX3_reckon_b25 u_parts  v_circular v_circles) n25) v_circular v_circles l3 l4) n44 v_values v_heights v_readBits v_waitsFor v_known l5 = some o → Wx X k 0 0 H L 44 ls [] := by
        intro l3 l4
        intro n44
        induction n44 with
        | zero => intro v_values v_heights v_readBits v_waitsFor v_known l5 H L ls hW hl h; exact lq6_0 h
        | succ n44 ih44 =>
          have K70 : ∀ (v_values : (Nat → Int32)), ∀ (v_heights : (Nat → Int32)), ∀ (v_readBits : (Nat → Int32)), ∀ (v_waitsFor : (Nat → Int32)), ∀ (v_known : Int32), ∀ (l5 : Int32), ∀ (H : Heap) (L : List Loc) (ls : Array Slot), Wd X k A [(ad 0, .inr (3, [.ref (ad 1), .ref (ad 2), .ref (ad 3), .ref (ad 4), .int v_known, .int v_circular, .int v_circles])), (ad 1, .inl (eI X, 30, .inl v_values)), (ad 2, .inl (eI X, 30, .inl v_heights)), (ad 3, .inl (eI X, 30, .inl v_readBits)), (ad 4, .inl (eI X, 30, .inl v_waitsFor)), (be 0, .inr (1, [.ref (be 1)])), (be 1, .inl (eI X, 120, .inl u_parts))] H L → lv_has ls 6 [(0, .ref (ad 0)), (1, .ref (be 0)), (3, .int l3), (4, .int l4), (5, .int l5)] → fX3_reckon_j70 u_parts (lq7 (fX3_reckon_b25 u_parts  v_circular v_circles) n25) (lq6 (fX3_reckon_b44 u_parts (lq7 (fX3_reckon_b25 u_parts  v_circular v_circles) n25) v_circular v_circles l3 l4) n44) v_values v_heights v_readBits v_waitsFor v_known v_circular v_circles l3 l4 l5 = some o → Wx X k 0 0 H L 70 ls [] := by
            intro v_values v_heights v_readBits v_waitsFor v_known l5 H L ls hW hl h
            unfold fX3_reckon_j70 at h
            refine r_iinc (j := 4) (v := l5 + (1 : Int32)) (lv' := [(5, .int (l5 + (1 : Int32))), (0, .ref (ad 0)), (1, .ref (be 0)), (3, .int l3), (4, .int l4)]) C hl dX3_reckon_70 rfl rfl (by decide) rfl (fun ls hl => ?_)
            refine r_goto (tgt := 44) C dX3_reckon_73 (by decide) ?_
            exact ih44 v_values v_heights v_readBits v_waitsFor v_known (l5 + (1 : Int32)) H L ls hW (lv_sub hl [1, 2, 3, 4, 0] rfl) h
          intro v_values v_heights v_readBits v_waitsFor v_known l5 H L ls hW hl h
          rw [lq6_s] at h
          unfold fX3_reckon_b44 at h
          refine r_iload C hl 4 dX3_reckon_44 rfl ?_
          refine r_bipush (v := 30) C dX3_reckon_46 (by decide) ?_
          refine r_icmp_ge (tgt := 76) C dX3_reckon_48 (by decide) (fun c48 => ?_) (fun c48 => ?_)
          · replace h := iT c48 h
            refine r_aload_n C hl 0 dX3_reckon_76 rfl rfl ?_
            refine r_get C hW 0 rfl rfl iwX3 4 (by decide) w_fl_X3_30 rfl dX3_reckon_77 ?_
            refine r_iload C hl 3 dX3_reckon_80 rfl ?_
            refine r_icmp_eq (tgt := 89) C dX3_reckon_82 (by decide) (fun c82 => ?_) (fun c82 => ?_)
            · replace h := iT c82 h
              refine r_iconst (v := 0) C dX3_reckon_89 (by decide) ?_
              exact K90 v_values v_heights v_readBits v_waitsFor v_known l3 (0 : Int32) H L ls hW (lv_sub hl [0, 1, 2] rfl) h
            · replace h := iF c82 h
              refine r_iconst (v := 1) C dX3_reckon_85 (by decide) ?_
              refine r_goto (tgt := 90) C dX3_reckon_86 (by decide) ?_
              exact K90 v_values v_heights v_readBits v_waitsFor v_known l3 (1 : Int32) H L ls hW (lv_sub hl [0, 1, 2] rfl) h
          · replace h := iF c48 h
            refine r_aload_n C hl 0 dX3_reckon_51 rfl rfl ?_
            refine r_get C hW 0 rfl rfl iwX3 4 (by decide) w_fl_X3_30 rfl dX3_reckon_52 ?_
            refine r_iload C hl 4 dX3_reckon_55 rfl ?_
            obtain ⟨r57, h57, h⟩ := bd1_some h
            refine r_SN (wr := [(ad 0, .inr (3, [.ref (ad 1), .ref (ad 2), .ref (ad 3), .ref (ad 4), .int v_known, .int v_circular, .int v_circles])), (ad 1, .inl (eI X, 30, .inl v_values)), (ad 2, .inl (eI X, 30, .inl v_heights)), (ad 3, .inl (eI X, 30, .inl v_readBits)), (ad 4, .inl (eI X, 30, .inl v_waitsFor)), (be 0, .inr (1, [.ref (be 1)])), (be 1, .inl (eI X, 120, .inl u_parts))]) (np := 2) C hl (mX7_has X    v_known l5 r57 h57) hW [] [0, 1, 2, 3, 4, 5, 6] rfl rfl rfl rfl (by decide) w_cd_X7_has w_st_X7_has w_in_HeightSheet 9 rfl (by decide +kernel) rfl ⟨Nat.le_of_ble_eq_true rfl, Nat.le_of_ble_eq_true rfl⟩ ⟨Nat.zero_le _, Nat.zero_le _⟩ (Nat.le_of_ble_eq_true rfl) dX3_reckon_57 (fun rv w1 H L hp hW => ?_) rfl
            obtain ⟨rfl, rfl⟩ := hp
            replace hW : Wd X k A [(ad 0, .inr (3, [.ref (ad 1), .ref (ad 2), .ref (ad 3), .ref (ad 4), .int v_known, .int v_circular, .int v_circles])), (ad 1, .inl (eI X, 30, .inl v_values)), (ad 2, .inl (eI X, 30, .inl v_heights)), (ad 3, .inl (eI X, 30, .inl v_readBits)), (ad 4, .inl (eI X, 30, .inl v_waitsFor)), (be 0, .inr (1, [.ref (be 1)])), (be 1, .inl (eI X, 120, .inl u_parts))] H L := hW.sub [0, 1, 2, 3, 4, 5, 6] rfl rfl
            show Wx X k 0 0 H L 60 ls [.int r57]
            refine r_if_ne (tgt := 70) C dX3_reckon_60 (by decide) (fun c60 => ?_) (fun c60 => ?_)
            · replace h := iF c60 h
              exact K70 v_values v_heights v_readBits v_waitsFor v_known l5 H L ls hW hl h
            · replace h := iT c60 h
              refine r_aload_n C hl 0 dX3_reckon_63 rfl rfl ?_
              refine r_aload_n C hl 1 dX3_reckon_64 rfl rfl ?_
              refine r_iload C hl 4 dX3_reckon_65 rfl ?_
              obtain ⟨c67_values, c67_heights, c67_readBits, c67_waitsFor, c67_known, h67, h⟩ := bd5_some h
              refine r_V (wr := []) (np := 2) C hl (mX3_tryCell X ad be  v_values v_heights v_readBits v_waitsFor v_known v_circular v_circles u_parts l5 (c67_values, c67_heights, c67_readBits, c67_waitsFor, c67_known) h67) hW [0, 1, 2, 3, 4, 5, 6] [] rfl rfl rfl rfl (by decide) 0 rfl rfl w_cd_X3_tryCell w_ml_X3_38 w_im_X3_tryCell w_sel_X3_tryCell w_in_HeightSheet_Reckoning (by decide +kernel) rfl ⟨Nat.le_of_ble_eq_true rfl, Nat.le_of_ble_eq_true rfl⟩ ⟨Nat.zero_le _, Nat.zero_le _⟩ (Nat.le_of_ble_eq_true rfl) dX3_reckon_67 (fun rv w1 H L hp hW => ?_) rfl
              obtain ⟨rfl, rfl⟩ := hp
              replace hW : Wd X k A [(ad 0, .inr (3, [.ref (ad 1), .ref (ad 2), .ref (ad 3), .ref (ad 4), .int c67_known, .int v_circular, .int v_circles])), (ad 1, .inl (eI X, 30, .inl c67_values)), (ad 2, .inl (eI X, 30, .inl c67_heights)), (ad 3, .inl (eI X, 30, .inl c67_readBits)), (ad 4, .inl (eI X, 30, .inl c67_waitsFor)), (be 0, .inr (1, [.ref (be 1)])), (be 1, .inl (eI X, 120, .inl u_parts))] H L := hW.sub [0, 1, 2, 3, 4, 5, 6] rfl rfl
              show Wx X k 0 0 H L 70 ls []
              exact K70 c67_values c67_heights c67_readBits c67_waitsFor c67_known l5 H L ls hW hl h
      intro v_values v_heights v_readBits v_waitsFor v_known l2 l3 H L ls hW hl h
      rw [lq7_s] at h
      unfold fX3_reckon_b25 at h
      refine r_iload_n C hl 2 dX3_reckon_25 rfl rfl ?_
      refine r_if_eq (tgt := 97) C dX3_reckon_26 (by decide) (fun c26 => ?_) (fun c26 => ?_)
      · replace h := iT c26 h
        exact K97 v_values v_heights v_readBits v_waitsFor v_known v_circular v_circles H L ls hW (lv_sub hl [0] rfl) h
      · replace h := iF c26 h
        refine r_iload_n C hl 3 dX3_reckon_29 rfl rfl ?_
        refine r_bipush (v := 30) C dX3_reckon_30 (by decide) ?_
        refine r_icmp_gt (tgt := 97) C dX3_reckon_32 (by decide) (fun c32 => ?_) (fun c32 => ?_)
        · replace h := iT c32 h
          exact K97 v_values v_heights v_readBits v_waitsFor v_known v_circular v_circles H L ls hW (lv_sub hl [0] rfl) h
        · replace h := iF c32 h
          refine r_aload_n C hl 0 dX3_reckon_35 rfl rfl ?_
          refine r_get C hW 0 rfl rfl iwX3 4 (by decide) w_fl_X3_30 rfl dX3_reckon_36 ?_
          refine r_istore (lv' := [(4, .int v_known), (0, .ref (ad 0)), (1, .ref (be 0)), (2, .int l2), (3, .int l3)]) C hl dX3_reckon_39 (by decide) rfl (fun ls hl => ?_)
          refine r_iconst (v := 0) C dX3_reckon_41 (by decide) ?_
          refine r_istore (lv' := [(5, .int (0 : Int32)), (4, .int v_known), (0, .ref (ad 0)), (1, .ref (be 0)), (2, .int l2), (3, .int l3)]) C hl dX3_reckon_42 (by decide) rfl (fun ls hl => ?_)
          exact K44 l3 v_known fu v_values v_heights v_readBits v_waitsFor v_known (0 : Int32) H L ls hW (lv_sub hl [2, 3, 5, 1, 0] rfl) h
  unfold fX3_reckon at h
  refine r_aload_n C hl 0 dX3_reckon_0 rfl rfl ?_
  refine r_get C hW 0 rfl rfl iwX3 1 (by decide) w_fl_X3_15 rfl dX3_reckon_1 ?_
  refine r_iconst (v := 0) C dX3_reckon_4 (by decide) ?_
  obtain ⟨c5_a, h5, h⟩ := bd1_some h
  refine r_S (wr := [(ad 0, .inr (3, [.ref (ad 1), .ref (ad 2), .ref (ad 3), .ref (ad 4), .int v_known, .int v_circular, .int v_circles])), (ad 1, .inl (eI X, 30, .inl v_values)), (ad 3, .inl (eI X, 30, .inl v_readBits)), (ad 4, .inl (eI X, 30, .inl v_waitsFor)), (be 0, .inr (1, [.ref (be 1)])), (be 1, .inl (eI X, 120, .inl u_parts))]) (np := 2) C hl (mJ7_fill_53178 X (fun i => ad (2 + i)) 30 v_heights (0 : Int32) c5_a h5) hW [2] [0, 1, 3, 4, 5, 6] rfl rfl rfl rfl (by decide) w_cd_J7_fill_53178 w_ml_X3_24 w_st_J7_fill_53178 w_in_java_util_Arrays (by decide +kernel) rfl ⟨Nat.le_of_ble_eq_true rfl, Nat.le_of_ble_eq_true rfl⟩ ⟨Nat.zero_le _, Nat.zero_le _⟩ (Nat.le_of_ble_eq_true rfl) dX3_reckon_5 (fun rv w1 H L hp hW => ?_) rfl
  obtain ⟨rfl, rfl⟩ := hp
  replace hW : Wd X k A [(ad 0, .inr (3, [.ref (ad 1), .ref (ad 2), .ref (ad 3), .ref (ad 4), .int v_known, .int v_circular, .int v_circles])), (ad 1, .inl (eI X, 30, .inl v_values)), (ad 2, .inl (eI X, 30, .inl c5_a)), (ad 3, .inl (eI X, 30, .inl v_readBits)), (ad 4, .inl (eI X, 30, .inl v_waitsFor)), (be 0, .inr (1, [.ref (be 1)])), (be 1, .inl (eI X, 120, .inl u_parts))] H L := hW.sub [0, 1, 6, 2, 3, 4, 5] rfl rfl
  show Wx X k 0 0 H L 8 ls []
  refine r_aload_n C hl 0 dX3_reckon_8 rfl rfl ?_
  refine r_get C hW 0 rfl rfl iwX3 2 (by decide) w_fl_X3_18 rfl dX3_reckon_9 ?_
  refine r_iconst (v := 0) C dX3_reckon_12 (by decide) ?_
  obtain ⟨c13_a, h13, h⟩ := bd1_some h
  refine r_S (wr := [(ad 0, .inr (3, [.ref (ad 1), .ref (ad 2), .ref (ad 3), .ref (ad 4), .int v_known, .int v_circular, .int v_circles])), (ad 1, .inl (eI X, 30, .inl v_values)), (ad 2, .inl (eI X, 30, .inl c5_a)), (ad 4, .inl (eI X, 30, .inl v_waitsFor)), (be 0, .inr (1, [.ref (be 1)])), (be 1, .inl (eI X, 120, .inl u_parts))]) (np := 2) C hl (mJ7_fill_53178 X (fun i => ad (3 + i)) 30 v_readBits (0 : Int32) c13_a h13) hW [3] [0, 1, 2, 4, 5, 6] rfl rfl rfl rfl (by decide) w_cd_J7_fill_53178 w_ml_X3_24 w_st_J7_fill_53178 w_in_java_util_Arrays (by decide +kernel) rfl ⟨Nat.le_of_ble_eq_true rfl, Nat.le_of_ble_eq_true rfl⟩ ⟨Nat.zero_le _, Nat.zero_le _⟩ (Nat.le_of_ble_eq_true rfl) dX3_reckon_13 (fun rv w1 H L hp hW => ?_) rfl
  obtain ⟨rfl, rfl⟩ := hp
  replace hW : Wd X k A [(ad 0, .inr (3, [.ref (ad 1), .ref (ad 2), .ref (ad 3), .ref (ad 4), .int v_known, .int v_circular, .int v_circles])), (ad 1, .inl (eI X, 30, .inl v_values)), (ad 2, .inl (eI X, 30, .inl c5_a)), (ad 3, .inl (eI X, 30, .inl c13_a)), (ad 4, .inl (eI X, 30, .inl v_waitsFor)), (be 0, .inr (1, [.ref (be 1)])), (be 1, .inl (eI X, 120, .inl u_parts))] H L := hW.sub [0, 1, 2, 6, 3, 4, 5] rfl rfl
  show Wx X k 0 0 H L 16 ls []
  refine r_aload_n C hl 0 dX3_reckon_16 rfl rfl ?_
  refine r_iconst (v := 0) C dX3_reckon_17 (by decide) ?_
  refine r_put (ws' := [(ad 0, .inr (3, [.ref (ad 1), .ref (ad 2), .ref (ad 3), .ref (ad 4), .int (0 : Int32), .int v_circular, .int v_circles])), (ad 1, .inl (eI X, 30, .inl v_values)), (ad 2, .inl (eI X, 30, .inl c5_a)), (ad 3, .inl (eI X, 30, .inl c13_a)), (ad 4, .inl (eI X, 30, .inl v_waitsFor)), (be 0, .inr (1, [.ref (be 1)])), (be 1, .inl (eI X, 120, .inl u_parts))]) C hW 0 rfl rfl iwX3 tyX3_ok nmX3 4 (by decide) w_fl_X3_30 rfl (tyX3_ok 4 (by decide)) rfl rfl (Nat.le_of_ble_eq_true rfl) rfl dX3_reckon_18 (fun H L hW => ?_)
  refine r_iconst (v := 1) C dX3_reckon_21 (by decide) ?_
  refine r_istore_n (lv' := [(2, .int (1 : Int32)), (0, .ref (ad 0)), (1, .ref (be 0))]) C hl dX3_reckon_22 rfl (by decide) rfl (fun ls hl => ?_)
  refine r_iconst (v := 0) C dX3_reckon_23 (by decide) ?_
  refine r_istore_n (lv' := [(3, .int (0 : Int32)), (2, .int (1 : Int32)), (0, .ref (ad 0)), (1, .ref (be 0))]) C hl dX3_reckon_24 rfl (by decide) rfl (fun ls hl => ?_)
  exact K25 v_circular v_circles fu v_values c5_a c13_a v_waitsFor (0 : Int32) (1 : Int32) (0 : Int32) H L ls hW (lv_sub hl [2, 3, 1, 0] rfl) h
def fX3_nthOfCircle_b25 (v_waitsFor : (Nat → Int32)) (v_circular : Int32) (p1 : Int32) (p2 : Int32)   (self25 : Int32 → Int32 → Option (Int32)) (l3 : Int32) (l4 : Int32) : Option (Int32) :=
  if p2 ≤ l4 then
    some l3
  else
    rd v_waitsFor 30 l3 fun x36 =>
    if x36 = p1 then
      some (-4 : Int32)
    else
      self25 x36 (l4 + (1 : Int32))
def fX3_nthOfCircle (v_waitsFor : (Nat → Int32)) (v_circular : Int32) (p1 : Int32) (p2 : Int32) : Option (Int32) :=
  bd1 (fX7_has v_circular p1) fun r5 =>
  if r5 = (0 : Int32) then
    some (-4 : Int32)
  else
    if p2 < (30 : Int32) then
      lq2 (fX3_nthOfCircle_b25 v_waitsFor v_circular p1 p2  ) fu p1 (0 : Int32)
    else
      some (-4 : Int32)
set_option maxRecDepth 100000 in
set_option maxHeartbeats 8000000 in
theorem mX3_nthOfCircle (X : Ev) (ad : Nat → Nat) (v_values : (Nat → Int32)) (v_heights : (Nat → Int32)) (v_readBits : (Nat → Int32)) (v_waitsFor : (Nat → Int32)) (v_known : Int32) (v_circular : Int32) (v_circles : Int32) (p1 : Int32) (p2 : Int32) (o : Int32) (h : fX3_nthOfCircle v_waitsFor v_circular p1 p2 = some o) : Ctr X yX3_nthOfCircle cX3_nthOfCircle 5 (some .int) 1 21 0 0 [.ref (ad 0), .int p1, .int p2] [(ad 0, .inr (3, [.ref (ad 1), .ref (ad 2), .ref (ad 3), .ref (ad 4), .int v_known, .int v_circular, .int v_circles])), (ad 1, .inl (eI X, 30, .inl v_values)), (ad 2, .inl (eI X, 30, .inl v_heights)), (ad 3, .inl (eI X, 30, .inl v_readBits)), (ad 4, .inl (eI X, 30, .inl v_waitsFor))] (De (some (.int o)) [(ad 0, .inr (3, [.ref (ad 1), .ref (ad 2), .ref (ad 3), .ref (ad 4), .int v_known, .int v_circular, .int v_circles])), (ad 1, .inl (eI X, 30, .inl v_values)), (ad 2, .inl (eI X, 30, .inl v_heights)), (ad 3, .inl (eI X, 30, .inl v_readBits)), (ad 4, .inl (eI X, 30, .inl v_waitsFor))]) := by
  refine Ctr.start (by decide) (Nat.le_of_ble_eq_true rfl) (fun k A ls C hq hin hW hl => ?_)
  replace C : Cx X k cX3_nthOfCircle 5 (some .int) RX3 A 1 21 0 0 := C
  replace hl : lv_has ls 5 [(0, .ref (ad 0)), (1, .int p1), (2, .int p2)] := hl
  suffices hh : ∀ (H : Heap) (L : List Loc), Wd X k A [(ad 0, .inr (3, [.ref (ad 1), .ref (ad 2), .ref (ad 3), .ref (ad 4), .int v_known, .int v_circular, .int v_circles])), (ad 1, .inl (eI X, 30, .inl v_values)), (ad 2, .inl (eI X, 30, .inl v_heights)), (ad 3, .inl (eI X, 30, .inl v_readBits)), (ad 4, .inl (eI X, 30, .inl v_waitsFor))] H L → Wx X k 0 0 H L 0 ls [] from hh _ _ hW
  clear hW
  intro H L hW
  have K25 : ∀ (n25 : Nat), ∀ (l3 : Int32), ∀ (l4 : Int32), ∀ (H : Heap) (L : List Loc) (ls : Array Slot), Wd X k A [(ad 0, .inr (3, [.ref (ad 1), .ref (ad 2), .ref (ad 3), .ref (ad 4), .int v_known, .int v_circular, .int v_circles])), (ad 1, .inl (eI X, 30, .inl v_values)), (ad 2, .inl (eI X, 30, .inl v_heights)), (ad 3, .inl (eI X, 30, .inl v_readBits)), (ad 4, .inl (eI X, 30, .inl v_waitsFor))] H L → lv_has ls 5 [(0, .ref (ad 0)), (1, .int p1), (2, .int p2), (3, .int l3), (4, .int l4)] → lq2 (fX3_nthOfCircle_b25 v_waitsFor v_circular p1 p2  ) n25 l3 l4 = some o → Wx X k 0 0 H L 25 ls [] := by
    intro n25
    induction n25 with
    | zero => intro l3 l4 H L ls hW hl h; exact lq2_0 h
    | succ n25 ih25 =>
      intro l3 l4 H L ls hW hl h
      rw [lq2_s] at h
      unfold fX3_nthOfCircle_b25 at h
      refine r_iload C hl 4 dX3_nthOfCircle_25 rfl ?_
      refine r_iload_n C hl 2 dX3_nthOfCircle_27 rfl rfl ?_
      refine r_icmp_ge (tgt := 52) C dX3_nthOfCircle_28 (by decide) (fun c28 => ?_) (fun c28 => ?_)
      · replace h := iT c28 h
        refine r_iload_n C hl 3 dX3_nthOfCircle_52 rfl rfl ?_
        exact r_iret C hq hW (by obtain rfl := Option.some.inj h; exact ⟨rfl, rfl⟩) dX3_nthOfCircle_53
      · replace h := iF c28 h
        refine r_aload_n C hl 0 dX3_nthOfCircle_31 rfl rfl ?_
        refine r_get C hW 0 rfl rfl iwX3 3 (by decide) w_fl_X3_21 rfl dX3_nthOfCircle_32 ?_
        refine r_iload_n C hl 3 dX3_nthOfCircle_35 rfl rfl ?_
        obtain ⟨x36, e36, g36, h⟩ := rd_some h
        refine r_iald C hW 4 rfl g36 e36 dX3_nthOfCircle_36 ?_
        refine r_istore_n (lv' := [(3, .int x36), (0, .ref (ad 0)), (1, .int p1), (2, .int p2), (4, .int l4)]) C hl dX3_nthOfCircle_37 rfl (by decide) rfl (fun ls hl => ?_)
        refine r_iload_n C hl 0 dX3_nthOfCircle_38 rfl rfl ?_
        refine r_iload_n C hl 2 dX3_nthOfCircle_39 rfl rfl ?_
        refine r_icmp_ne (tgt := 46) C dX3_nthOfCircle_40 (by decide) (fun c40 => ?_) (fun c40 => ?_)
        · replace h := iF c40 h
          refine r_iinc (j := 4) (v := l4 + (1 : Int32)) (lv' := [(4, .int (l4 + (1 : Int32))), (3, .int x36), (0, .ref (ad 0)), (1, .int p1), (2, .int p2)]) C hl dX3_nthOfCircle_46 rfl rfl (by decide) rfl (fun ls hl => ?_)
          refine r_goto (tgt := 25) C dX3_nthOfCircle_49 (by decide) ?_
          exact ih25 x36 (l4 + (1 : Int32)) H L ls hW (lv_sub hl [2, 3, 4, 1, 0] rfl) h
        · replace h := iT c40 h
          refine r_bipush (v := -4) C dX3_nthOfCircle_43 (by decide) ?_
          exact r_iret C hq hW (by obtain rfl := Option.some.inj h; exact ⟨rfl, rfl⟩) dX3_nthOfCircle_45
  unfold fX3_nthOfCircle at h
  refine r_aload_n C hl 0 dX3_nthOfCircle_0 rfl rfl ?_
  refine r_get C hW 0 rfl rfl iwX3 5 (by decide) w_fl_X3_83 rfl dX3_nthOfCircle_1 ?_
  refine r_iload_n C hl 1 dX3_nthOfCircle_4 rfl rfl ?_
  obtain ⟨r5, h5, h⟩ := bd1_some h
  refine r_SN (wr := [(ad 0, .inr (3, [.ref (ad 1), .ref (ad 2), .ref (ad 3), .ref (ad 4), .int v_known, .int v_circular, .int v_circles])), (ad 1, .inl (eI X, 30, .inl v_values)), (ad 2, .inl (eI X, 30, .inl v_heights)), (ad 3, .inl (eI X, 30, .inl v_readBits)), (ad 4, .inl (eI X, 30, .inl v_waitsFor))]) (np := 2) C hl (mX7_has X    v_circular p1 r5 h5) hW [] [0, 1, 2, 3, 4] rfl rfl rfl rfl (by decide) w_cd_X7_has w_st_X7_has w_in_HeightSheet 9 rfl (by decide +kernel) rfl ⟨Nat.le_of_ble_eq_true rfl, Nat.le_of_ble_eq_true rfl⟩ ⟨Nat.zero_le _, Nat.zero_le _⟩ (Nat.le_of_ble_eq_true rfl) dX3_nthOfCircle_5 (fun rv w1 H L hp hW => ?_) rfl
  obtain ⟨rfl, rfl⟩ := hp
  replace hW : Wd X k A [(ad 0, .inr (3, [.ref (ad 1), .ref (ad 2), .ref (ad 3), .ref (ad 4), .int v_known, .int v_circular, .int v_circles])), (ad 1, .inl (eI X, 30, .inl v_values)), (ad 2, .inl (eI X, 30, .inl v_heights)), (ad 3, .inl (eI X, 30, .inl v_readBits)), (ad 4, .inl (eI X, 30, .inl v_waitsFor))] H L := hW.sub [0, 1, 2, 3, 4] rfl rfl
  show Wx X k 0 0 H L 8 ls [.int r5]
  refine r_if_eq (tgt := 17) C dX3_nthOfCircle_8 (by decide) (fun c8 => ?_) (fun c8 => ?_)
  · replace h := iT c8 h
    refine r_bipush (v := -4) C dX3_nthOfCircle_17 (by decide) ?_
    exact r_iret C hq hW (by obtain rfl := Option.some.inj h; exact ⟨rfl, rfl⟩) dX3_nthOfCircle_19
  · replace h := iF c8 h
    refine r_iload_n C hl 2 dX3_nthOfCircle_11 rfl rfl ?_
    refine r_bipush (v := 30) C dX3_nthOfCircle_12 (by decide) ?_
    refine r_icmp_lt (tgt := 20) C dX3_nthOfCircle_14 (by decide) (fun c14 => ?_) (fun c14 => ?_)
    · replace h := iT c14 h
      refine r_iload_n C hl 1 dX3_nthOfCircle_20 rfl rfl ?_
      refine r_istore_n (lv' := [(3, .int p1), (0, .ref (ad 0)), (1, .int p1), (2, .int p2)]) C hl dX3_nthOfCircle_21 rfl (by decide) rfl (fun ls hl => ?_)
      refine r_iconst (v := 0) C dX3_nthOfCircle_22 (by decide) ?_
      refine r_istore (lv' := [(4, .int (0 : Int32)), (3, .int p1), (0, .ref (ad 0)), (1, .int p1), (2, .int p2)]) C hl dX3_nthOfCircle_23 (by decide) rfl (fun ls hl => ?_)
      exact K25  fu p1 (0 : Int32) H L ls hW (lv_sub hl [2, 3, 4, 1, 0] rfl) h
    · replace h := iF c14 h
      refine r_bipush (v := -4) C dX3_nthOfCircle_17 (by decide) ?_
      exact r_iret C hq hW (by obtain rfl := Option.some.inj h; exact ⟨rfl, rfl⟩) dX3_nthOfCircle_19
def fX3_standing (v_known : Int32) (v_circular : Int32) (p1 : Int32) : Option (Int32) :=
  bd1 (fX7_has v_known p1) fun r5 =>
  if r5 = (0 : Int32) then
    bd1 (fX7_has v_circular p1) fun r18 =>
    if r18 = (0 : Int32) then
      some (1 : Int32)
    else
      some (2 : Int32)
  else
    some (0 : Int32)
set_option maxRecDepth 100000 in
set_option maxHeartbeats 8000000 in
theorem mX3_standing (X : Ev) (ad : Nat → Nat) (v_values : (Nat → Int32)) (v_heights : (Nat → Int32)) (v_readBits : (Nat → Int32)) (v_waitsFor : (Nat → Int32)) (v_known : Int32) (v_circular : Int32) (v_circles : Int32) (p1 : Int32) (o : Int32) (h : fX3_standing v_known v_circular p1 = some o) : Ctr X yX3_standing cX3_standing 2 (some .int) 1 21 0 0 [.ref (ad 0), .int p1] [(ad 0, .inr (3, [.ref (ad 1), .ref (ad 2), .ref (ad 3), .ref (ad 4), .int v_known, .int v_circular, .int v_circles])), (ad 1, .inl (eI X, 30, .inl v_values)), (ad 2, .inl (eI X, 30, .inl v_heights)), (ad 3, .inl (eI X, 30, .inl v_readBits)), (ad 4, .inl (eI X, 30, .inl v_waitsFor))] (De (some (.int o)) [(ad 0, .inr (3, [.ref (ad 1), .ref (ad 2), .ref (ad 3), .ref (ad 4), .int v_known, .int v_circular, .int v_circles])), (ad 1, .inl (eI X, 30, .inl v_values)), (ad 2, .inl (eI X, 30, .inl v_heights)), (ad 3, .inl (eI X, 30, .inl v_readBits)), (ad 4, .inl (eI X, 30, .inl v_waitsFor))]) := by
  refine Ctr.start (by decide) (Nat.le_of_ble_eq_true rfl) (fun k A ls C hq hin hW hl => ?_)
  replace C : Cx X k cX3_standing 2 (some .int) RX3 A 1 21 0 0 := C
  replace hl : lv_has ls 2 [(0, .ref (ad 0)), (1, .int p1)] := hl
  suffices hh : ∀ (H : Heap) (L : List Loc), Wd X k A [(ad 0, .inr (3, [.ref (ad 1), .ref (ad 2), .ref (ad 3), .ref (ad 4), .int v_known, .int v_circular, .int v_circles])), (ad 1, .inl (eI X, 30, .inl v_values)), (ad 2, .inl (eI X, 30, .inl v_heights)), (ad 3, .inl (eI X, 30, .inl v_readBits)), (ad 4, .inl (eI X, 30, .inl v_waitsFor))] H L → Wx X k 0 0 H L 0 ls [] from hh _ _ hW
  clear hW
  intro H L hW
  unfold fX3_standing at h
  refine r_aload_n C hl 0 dX3_standing_0 rfl rfl ?_
  refine r_get C hW 0 rfl rfl iwX3 4 (by decide) w_fl_X3_30 rfl dX3_standing_1 ?_
  refine r_iload_n C hl 1 dX3_standing_4 rfl rfl ?_
  obtain ⟨r5, h5, h⟩ := bd1_some h
  refine r_SN (wr := [(ad 0, .inr (3, [.ref (ad 1), .ref (ad 2), .ref (ad 3), .ref (ad 4), .int v_known, .int v_circular, .int v_circles])), (ad 1, .inl (eI X, 30, .inl v_values)), (ad 2, .inl (eI X, 30, .inl v_heights)), (ad 3, .inl (eI X, 30, .inl v_readBits)), (ad 4, .inl (eI X, 30, .inl v_waitsFor))]) (np := 2) C hl (mX7_has X    v_known p1 r5 h5) hW [] [0, 1, 2, 3, 4] rfl rfl rfl rfl (by decide) w_cd_X7_has w_st_X7_has w_in_HeightSheet 9 rfl (by decide +kernel) rfl ⟨Nat.le_of_ble_eq_true rfl, Nat.le_of_ble_eq_true rfl⟩ ⟨Nat.zero_le _, Nat.zero_le _⟩ (Nat.le_of_ble_eq_true rfl) dX3_standing_5 (fun rv w1 H L hp hW => ?_) rfl
  obtain ⟨rfl, rfl⟩ := hp
  replace hW : Wd X k A [(ad 0, .inr (3, [.ref (ad 1), .ref (ad 2), .ref (ad 3), .ref (ad 4), .int v_known, .int v_circular, .int v_circles])), (ad 1, .inl (eI X, 30, .inl v_values)), (ad 2, .inl (eI X, 30, .inl v_heights)), (ad 3, .inl (eI X, 30, .inl v_readBits)), (ad 4, .inl (eI X, 30, .inl v_waitsFor))] H L := hW.sub [0, 1, 2, 3, 4] rfl rfl
  show Wx X k 0 0 H L 8 ls [.int r5]
  refine r_if_eq (tgt := 13) C dX3_standing_8 (by decide) (fun c8 => ?_) (fun c8 => ?_)
  · replace h := iT c8 h
    refine r_aload_n C hl 0 dX3_standing_13 rfl rfl ?_
    refine r_get C hW 0 rfl rfl iwX3 5 (by decide) w_fl_X3_83 rfl dX3_standing_14 ?_
    refine r_iload_n C hl 1 dX3_standing_17 rfl rfl ?_
    obtain ⟨r18, h18, h⟩ := bd1_some h
    refine r_SN (wr := [(ad 0, .inr (3, [.ref (ad 1), .ref (ad 2), .ref (ad 3), .ref (ad 4), .int v_known, .int v_circular, .int v_circles])), (ad 1, .inl (eI X, 30, .inl v_values)), (ad 2, .inl (eI X, 30, .inl v_heights)), (ad 3, .inl (eI X, 30, .inl v_readBits)), (ad 4, .inl (eI X, 30, .inl v_waitsFor))]) (np := 2) C hl (mX7_has X    v_circular p1 r18 h18) hW [] [0, 1, 2, 3, 4] rfl rfl rfl rfl (by decide) w_cd_X7_has w_st_X7_has w_in_HeightSheet 9 rfl (by decide +kernel) rfl ⟨Nat.le_of_ble_eq_true rfl, Nat.le_of_ble_eq_true rfl⟩ ⟨Nat.zero_le _, Nat.zero_le _⟩ (Nat.le_of_ble_eq_true rfl) dX3_standing_18 (fun rv w1 H L hp hW => ?_) rfl
    obtain ⟨rfl, rfl⟩ := hp
    replace hW : Wd X k A [(ad 0, .inr (3, [.ref (ad 1), .ref (ad 2), .ref (ad 3), .ref (ad 4), .int v_known, .int v_circular, .int v_circles])), (ad 1, .inl (eI X, 30, .inl v_values)), (ad 2, .inl (eI X, 30, .inl v_heights)), (ad 3, .inl (eI X, 30, .inl v_readBits)), (ad 4, .inl (eI X, 30, .inl v_waitsFor))] H L := hW.sub [0, 1, 2, 3, 4] rfl rfl
    show Wx X k 0 0 H L 21 ls [.int r18]
    refine r_if_eq (tgt := 28) C dX3_standing_21 (by decide) (fun c21 => ?_) (fun c21 => ?_)
    · replace h := iT c21 h
      refine r_iconst (v := 1) C dX3_standing_28 (by decide) ?_
      exact r_iret C hq hW (by obtain rfl := Option.some.inj h; exact ⟨rfl, rfl⟩) dX3_standing_29
    · replace h := iF c21 h
      refine r_iconst (v := 2) C dX3_standing_24 (by decide) ?_
      refine r_goto (tgt := 29) C dX3_standing_25 (by decide) ?_
      exact r_iret C hq hW (by obtain rfl := Option.some.inj h; exact ⟨rfl, rfl⟩) dX3_standing_29
  · replace h := iF c8 h
    refine r_iconst (v := 0) C dX3_standing_11 (by decide) ?_
    exact r_iret C hq hW (by obtain rfl := Option.some.inj h; exact ⟨rfl, rfl⟩) dX3_standing_12
def fX3_greatestHeight_j32 (v_heights : (Nat → Int32)) (v_known : Int32) (self4 : Int32 → Int32 → Option (Int32)) (l1 : Int32) (l2 : Int32) : Option (Int32) :=
  self4 l1 (l2 + (1 : Int32))
def fX3_greatestHeight_b4 (v_heights : (Nat → Int32)) (v_known : Int32)   (self4 : Int32 → Int32 → Option (Int32)) (l1 : Int32) (l2 : Int32) : Option (Int32) :=
  if (30 : Int32) ≤ l2 then
    some l1
  else
    bd1 (fX7_has v_known l2) fun r15 =>
    if r15 = (0 : Int32) then
      fX3_greatestHeight_j32 v_heights v_known self4 l1 l2
    else
      rd v_heights 30 l2 fun x27 =>
      fX3_greatestHeight_j32 v_heights v_known self4 (if l1 < x27 then x27 else l1) l2
def fX3_greatestHeight (v_heights : (Nat → Int32)) (v_known : Int32) : Option (Int32) :=
  lq2 (fX3_greatestHeight_b4 v_heights v_known  ) fu (0 : Int32) (0 : Int32)
set_option maxRecDepth 100000 in
set_option maxHeartbeats 8000000 in
theorem mX3_greatestHeight (X : Ev) (ad : Nat → Nat) (v_values : (Nat → Int32)) (v_heights : (Nat → Int32)) (v_readBits : (Nat → Int32)) (v_waitsFor : (Nat → Int32)) (v_known : Int32) (v_circular : Int32) (v_circles : Int32)  (o : Int32) (h : fX3_greatestHeight v_heights v_known = some o) : Ctr X yX3_greatestHeight cX3_greatestHeight 3 (some .int) 1 23 0 0 [.ref (ad 0)] [(ad 0, .inr (3, [.ref (ad 1), .ref (ad 2), .ref (ad 3), .ref (ad 4), .int v_known, .int v_circular, .int v_circles])), (ad 1, .inl (eI X, 30, .inl v_values)), (ad 2, .inl (eI X, 30, .inl v_heights)), (ad 3, .inl (eI X, 30, .inl v_readBits)), (ad 4, .inl (eI X, 30, .inl v_waitsFor))] (De (some (.int o)) [(ad 0, .inr (3, [.ref (ad 1), .ref (ad 2), .ref (ad 3), .ref (ad 4), .int v_known, .int v_circular, .int v_circles])), (ad 1, .inl (eI X, 30, .inl v_values)), (ad 2, .inl (eI X, 30, .inl v_heights)), (ad 3, .inl (eI X, 30, .inl v_readBits)), (ad 4, .inl (eI X, 30, .inl v_waitsFor))]) := by
  refine Ctr.start (by decide) (Nat.le_of_ble_eq_true rfl) (fun k A ls C hq hin hW hl => ?_)
  replace C : Cx X k cX3_greatestHeight 3 (some .int) RX3 A 1 23 0 0 := C
  replace hl : lv_has ls 3 [(0, .ref (ad 0))] := hl
  suffices hh : ∀ (H : Heap) (L : List Loc), Wd X k A [(ad 0, .inr (3, [.ref (ad 1), .ref (ad 2), .ref (ad 3), .ref (ad 4), .int v_known, .int v_circular, .int v_circles])), (ad 1, .inl (eI X, 30, .inl v_values)), (ad 2, .inl (eI X, 30, .inl v_heights)), (ad 3, .inl (eI X, 30, .inl v_readBits)), (ad 4, .inl (eI X, 30, .inl v_waitsFor))] H L → Wx X k 0 0 H L 0 ls [] from hh _ _ hW
  clear hW
  intro H L hW
  have K4 : ∀ (n4 : Nat), ∀ (l1 : Int32), ∀ (l2 : Int32), ∀ (H : Heap) (L : List Loc) (ls : Array Slot), Wd X k A [(ad 0, .inr (3, [.ref (ad 1), .ref (ad 2), .ref (ad 3), .ref (ad 4), .int v_known, .int v_circular, .int v_circles])), (ad 1, .inl (eI X, 30, .inl v_values)), (ad 2, .inl (eI X, 30, .inl v_heights)), (ad 3, .inl (eI X, 30, .inl v_readBits)), (ad 4, .inl (eI X, 30, .inl v_waitsFor))] H L → lv_has ls 3 [(0, .ref (ad 0)), (1, .int l1), (2, .int l2)] → lq2 (fX3_greatestHeight_b4 v_heights v_known  ) n4 l1 l2 = some o → Wx X k 0 0 H L 4 ls [] := by
    intro n4
    induction n4 with
    | zero => intro l1 l2 H L ls hW hl h; exact lq2_0 h
    | succ n4 ih4 =>
      have K32 : ∀ (l1 : Int32), ∀ (l2 : Int32), ∀ (H : Heap) (L : List Loc) (ls : Array Slot), Wd X k A [(ad 0, .inr (3, [.ref (ad 1), .ref (ad 2), .ref (ad 3), .ref (ad 4), .int v_known, .int v_circular, .int v_circles])), (ad 1, .inl (eI X, 30, .inl v_values)), (ad 2, .inl (eI X, 30, .inl v_heights)), (ad 3, .inl (eI X, 30, .inl v_readBits)), (ad 4, .inl (eI X, 30, .inl v_waitsFor))] H L → lv_has ls 3 [(0, .ref (ad 0)), (1, .int l1), (2, .int l2)] → fX3_greatestHeight_j32 v_heights v_known (lq2 (fX3_greatestHeight_b4 v_heights v_known  ) n4) l1 l2 = some o → Wx X k 0 0 H L 32 ls [] := by
        intro l1 l2 H L ls hW hl h
        unfold fX3_greatestHeight_j32 at h
        refine r_iinc (j := 2) (v := l2 + (1 : Int32)) (lv' := [(2, .int (l2 + (1 : Int32))), (0, .ref (ad 0)), (1, .int l1)]) C hl dX3_greatestHeight_32 rfl rfl (by decide) rfl (fun ls hl => ?_)
        refine r_goto (tgt := 4) C dX3_greatestHeight_35 (by decide) ?_
        exact ih4 l1 (l2 + (1 : Int32)) H L ls hW (lv_sub hl [1, 2, 0] rfl) h
      intro l1 l2 H L ls hW hl h
      rw [lq2_s] at h
      unfold fX3_greatestHeight_b4 at h
      refine r_iload_n C hl 2 dX3_greatestHeight_4 rfl rfl ?_
      refine r_bipush (v := 30) C dX3_greatestHeight_5 (by decide) ?_
      refine r_icmp_ge (tgt := 38) C dX3_greatestHeight_7 (by decide) (fun c7 => ?_) (fun c7 => ?_)
      · replace h := iT c7 h
        refine r_iload_n C hl 1 dX3_greatestHeight_38 rfl rfl ?_
        exact r_iret C hq hW (by obtain rfl := Option.some.inj h; exact ⟨rfl, rfl⟩) dX3_greatestHeight_39
      · replace h := iF c7 h
        refine r_aload_n C hl 0 dX3_greatestHeight_10 rfl rfl ?_
        refine r_get C hW 0 rfl rfl iwX3 4 (by decide) w_fl_X3_30 rfl dX3_greatestHeight_11 ?_
        refine r_iload_n C hl 2 dX3_greatestHeight_14 rfl rfl ?_
        obtain ⟨r15, h15, h⟩ := bd1_some h
        refine r_SN (wr := [(ad 0, .inr (3, [.ref (ad 1), .ref (ad 2), .ref (ad 3), .ref (ad 4), .int v_known, .int v_circular, .int v_circles])), (ad 1, .inl (eI X, 30, .inl v_values)), (ad 2, .inl (eI X, 30, .inl v_heights)), (ad 3, .inl (eI X, 30, .inl v_readBits)), (ad 4, .inl (eI X, 30, .inl v_waitsFor))]) (np := 2) C hl (mX7_has X    v_known l2 r15 h15) hW [] [0, 1, 2, 3, 4] rfl rfl rfl rfl (by decide) w_cd_X7_has w_st_X7_has w_in_HeightSheet 9 rfl (by decide +kernel) rfl ⟨Nat.le_of_ble_eq_true rfl, Nat.le_of_ble_eq_true rfl⟩ ⟨Nat.zero_le _, Nat.zero_le _⟩ (Nat.le_of_ble_eq_true rfl) dX3_greatestHeight_15 (fun rv w1 H L hp hW => ?_) rfl
        obtain ⟨rfl, rfl⟩ := hp
        replace hW : Wd X k A [(ad 0, .inr (3, [.ref (ad 1), .ref (ad 2), .ref (ad 3), .ref (ad 4), .int v_known, .int v_circular, .int v_circles])), (ad 1, .inl (eI X, 30, .inl v_values)), (ad 2, .inl (eI X, 30, .inl v_heights)), (ad 3, .inl (eI X, 30, .inl v_readBits)), (ad 4, .inl (eI X, 30, .inl v_waitsFor))] H L := hW.sub [0, 1, 2, 3, 4] rfl rfl
        show Wx X k 0 0 H L 18 ls [.int r15]
        refine r_if_eq (tgt := 32) C dX3_greatestHeight_18 (by decide) (fun c18 => ?_) (fun c18 => ?_)
        · replace h := iT c18 h
          exact K32 l1 l2 H L ls hW hl h
        · replace h := iF c18 h
          refine r_iload_n C hl 1 dX3_greatestHeight_21 rfl rfl ?_
          refine r_aload_n C hl 0 dX3_greatestHeight_22 rfl rfl ?_
          refine r_get C hW 0 rfl rfl iwX3 1 (by decide) w_fl_X3_15 rfl dX3_greatestHeight_23 ?_
          refine r_iload_n C hl 2 dX3_greatestHeight_26 rfl rfl ?_
          obtain ⟨x27, e27, g27, h⟩ := rd_some h
          refine r_iald C hW 2 rfl g27 e27 dX3_greatestHeight_27 ?_
          refine r_max C hl w_ml_X3_76 (Nat.le_of_ble_eq_true rfl) (Nat.le_of_ble_eq_true rfl) (Nat.zero_le _) (Nat.zero_le _) dX3_greatestHeight_28 ?_
          refine r_istore_n (lv' := [(1, .int (if l1 < x27 then x27 else l1)), (0, .ref (ad 0)), (2, .int l2)]) C hl dX3_greatestHeight_31 rfl (by decide) rfl (fun ls hl => ?_)
          exact K32 (if l1 < x27 then x27 else l1) l2 H L ls hW (lv_sub hl [1, 0, 2] rfl) h
  unfold fX3_greatestHeight at h
  refine r_iconst (v := 0) C dX3_greatestHeight_0 (by decide) ?_
  refine r_istore_n (lv' := [(1, .int (0 : Int32)), (0, .ref (ad 0))]) C hl dX3_greatestHeight_1 rfl (by decide) rfl (fun ls hl => ?_)
  refine r_iconst (v := 0) C dX3_greatestHeight_2 (by decide) ?_
  refine r_istore_n (lv' := [(2, .int (0 : Int32)), (1, .int (0 : Int32)), (0, .ref (ad 0))]) C hl dX3_greatestHeight_3 rfl (by decide) rfl (fun ls hl => ?_)
  exact K4  fu (0 : Int32) (0 : Int32) H L ls hW (lv_sub hl [2, 1, 0] rfl) h
def fX3_countReads_b4 (v_readBits : (Nat → Int32))   (self4 : Int32 → Int32 → Option (Int32)) (l1 : Int32) (l2 : Int32) : Option (Int32) :=
  if (30 : Int32) ≤ l2 then
    some l1
  else
    rd v_readBits 30 l2 fun x16 =>
    bd1 (fJ6_bitCount_0f7a4 x16) fun r17 =>
    self4 (l1 + r17) (l2 + (1 : Int32))
def fX3_countReads (v_readBits : (Nat → Int32)) : Option (Int32) :=
  lq2 (fX3_countReads_b4 v_readBits  ) fu (0 : Int32) (0 : Int32)
set_option maxRecDepth 100000 in
set_option maxHeartbeats 8000000 in
theorem mX3_countReads (X : Ev) (ad : Nat → Nat) (v_values : (Nat → Int32)) (v_heights : (Nat → Int32)) (v_readBits : (Nat → Int32)) (v_waitsFor : (Nat → Int32)) (v_known : Int32) (v_circular : Int32) (v_circles : Int32)  (o : Int32) (h : fX3_countReads v_readBits = some o) : Ctr X yX3_countReads cX3_countReads 3 (some .int) 1 20 0 0 [.ref (ad 0)] [(ad 0, .inr (3, [.ref (ad 1), .ref (ad 2), .ref (ad 3), .ref (ad 4), .int v_known, .int v_circular, .int v_circles])), (ad 1, .inl (eI X, 30, .inl v_values)), (ad 2, .inl (eI X, 30, .inl v_heights)), (ad 3, .inl (eI X, 30, .inl v_readBits)), (ad 4, .inl (eI X, 30, .inl v_waitsFor))] (De (some (.int o)) [(ad 0, .inr (3, [.ref (ad 1), .ref (ad 2), .ref (ad 3), .ref (ad 4), .int v_known, .int v_circular, .int v_circles])), (ad 1, .inl (eI X, 30, .inl v_values)), (ad 2, .inl (eI X, 30, .inl v_heights)), (ad 3, .inl (eI X, 30, .inl v_readBits)), (ad 4, .inl (eI X, 30, .inl v_waitsFor))]) := by
  refine Ctr.start (by decide) (Nat.le_of_ble_eq_true rfl) (fun k A ls C hq hin hW hl => ?_)
  replace C : Cx X k cX3_countReads 3 (some .int) RX3 A 1 20 0 0 := C
  replace hl : lv_has ls 3 [(0, .ref (ad 0))] := hl
  suffices hh : ∀ (H : Heap) (L : List Loc), Wd X k A [(ad 0, .inr (3, [.ref (ad 1), .ref (ad 2), .ref (ad 3), .ref (ad 4), .int v_known, .int v_circular, .int v_circles])), (ad 1, .inl (eI X, 30, .inl v_values)), (ad 2, .inl (eI X, 30, .inl v_heights)), (ad 3, .inl (eI X, 30, .inl v_readBits)), (ad 4, .inl (eI X, 30, .inl v_waitsFor))] H L → Wx X k 0 0 H L 0 ls [] from hh _ _ hW
  clear hW
  intro H L hW
  have K4 : ∀ (n4 : Nat), ∀ (l1 : Int32), ∀ (l2 : Int32), ∀ (H : Heap) (L : List Loc) (ls : Array Slot), Wd X k A [(ad 0, .inr (3, [.ref (ad 1), .ref (ad 2), .ref (ad 3), .ref (ad 4), .int v_known, .int v_circular, .int v_circles])), (ad 1, .inl (eI X, 30, .inl v_values)), (ad 2, .inl (eI X, 30, .inl v_heights)), (ad 3, .inl (eI X, 30, .inl v_readBits)), (ad 4, .inl (eI X, 30, .inl v_waitsFor))] H L → lv_has ls 3 [(0, .ref (ad 0)), (1, .int l1), (2, .int l2)] → lq2 (fX3_countReads_b4 v_readBits  ) n4 l1 l2 = some o → Wx X k 0 0 H L 4 ls [] := by
    intro n4
    induction n4 with
    | zero => intro l1 l2 H L ls hW hl h; exact lq2_0 h
    | succ n4 ih4 =>
      intro l1 l2 H L ls hW hl h
      rw [lq2_s] at h
      unfold fX3_countReads_b4 at h
      refine r_iload_n C hl 2 dX3_countReads_4 rfl rfl ?_
      refine r_bipush (v := 30) C dX3_countReads_5 (by decide) ?_
      refine r_icmp_ge (tgt := 28) C dX3_countReads_7 (by decide) (fun c7 => ?_) (fun c7 => ?_)
      · replace h := iT c7 h
        refine r_iload_n C hl 1 dX3_countReads_28 rfl rfl ?_
        exact r_iret C hq hW (by obtain rfl := Option.some.inj h; exact ⟨rfl, rfl⟩) dX3_countReads_29
      · replace h := iF c7 h
        refine r_iload_n C hl 1 dX3_countReads_10 rfl rfl ?_
        refine r_aload_n C hl 0 dX3_countReads_11 rfl rfl ?_
        refine r_get C hW 0 rfl rfl iwX3 2 (by decide) w_fl_X3_18 rfl dX3_countReads_12 ?_
        refine r_iload_n C hl 2 dX3_countReads_15 rfl rfl ?_
        obtain ⟨x16, e16, g16, h⟩ := rd_some h
        refine r_iald C hW 3 rfl g16 e16 dX3_countReads_16 ?_
        obtain ⟨r17, h17, h⟩ := bd1_some h
        refine r_S (wr := [(ad 0, .inr (3, [.ref (ad 1), .ref (ad 2), .ref (ad 3), .ref (ad 4), .int v_known, .int v_circular, .int v_circles])), (ad 1, .inl (eI X, 30, .inl v_values)), (ad 2, .inl (eI X, 30, .inl v_heights)), (ad 3, .inl (eI X, 30, .inl v_readBits)), (ad 4, .inl (eI X, 30, .inl v_waitsFor))]) (np := 1) C hl (mJ6_bitCount_0f7a4 X    x16 r17 h17) hW [] [0, 1, 2, 3, 4] rfl rfl rfl rfl (by decide) w_cd_J6_bitCount_0f7a4 w_ml_X3_95 w_st_J6_bitCount_0f7a4 w_in_java_lang_Integer (by decide +kernel) rfl ⟨Nat.le_of_ble_eq_true rfl, Nat.le_of_ble_eq_true rfl⟩ ⟨Nat.zero_le _, Nat.zero_le _⟩ (Nat.le_of_ble_eq_true rfl) dX3_countReads_17 (fun rv w1 H L hp hW => ?_) rfl
        obtain ⟨rfl, rfl⟩ := hp
        replace hW : Wd X k A [(ad 0, .inr (3, [.ref (ad 1), .ref (ad 2), .ref (ad 3), .ref (ad 4), .int v_known, .int v_circular, .int v_circles])), (ad 1, .inl (eI X, 30, .inl v_values)), (ad 2, .inl (eI X, 30, .inl v_heights)), (ad 3, .inl (eI X, 30, .inl v_readBits)), (ad 4, .inl (eI X, 30, .inl v_waitsFor))] H L := hW.sub [0, 1, 2, 3, 4] rfl rfl
        show Wx X k 0 0 H L 20 ls [.int r17, .int l1]
        refine r_iadd C dX3_countReads_20 ?_
        refine r_istore_n (lv' := [(1, .int (l1 + r17)), (0, .ref (ad 0)), (2, .int l2)]) C hl dX3_countReads_21 rfl (by decide) rfl (fun ls hl => ?_)
        refine r_iinc (j := 2) (v := l2 + (1 : Int32)) (lv' := [(2, .int (l2 + (1 : Int32))), (1, .int (l1 + r17)), (0, .ref (ad 0))]) C hl dX3_countReads_22 rfl rfl (by decide) rfl (fun ls hl => ?_)
        refine r_goto (tgt := 4) C dX3_countReads_25 (by decide) ?_
        exact ih4 (l1 + r17) (l2 + (1 : Int32)) H L ls hW (lv_sub hl [2, 1, 0] rfl) h
  unfold fX3_countReads at h
  refine r_iconst (v := 0) C dX3_countReads_0 (by decide) ?_
  refine r_istore_n (lv' := [(1, .int (0 : Int32)), (0, .ref (ad 0))]) C hl dX3_countReads_1 rfl (by decide) rfl (fun ls hl => ?_)
  refine r_iconst (v := 0) C dX3_countReads_2 (by decide) ?_
  refine r_istore_n (lv' := [(2, .int (0 : Int32)), (1, .int (0 : Int32)), (0, .ref (ad 0))]) C hl dX3_countReads_3 rfl (by decide) rfl (fun ls hl => ?_)
  exact K4  fu (0 : Int32) (0 : Int32) H L ls hW (lv_sub hl [2, 1, 0] rfl) h
def fX3_sumOfValues_j32 (v_values : (Nat → Int32)) (v_known : Int32) (self4 : Int32 → Int32 → Option (Int32)) (l2 : Int32) (s0 : Int32) (s1 : Int32) : Option (Int32) :=
  self4 (s0 + s1) (l2 + (1 : Int32))
def fX3_sumOfValues_b4 (v_values : (Nat → Int32)) (v_known : Int32)   (self4 : Int32 → Int32 → Option (Int32)) (l1 : Int32) (l2 : Int32) : Option (Int32) :=
  if (30 : Int32) ≤ l2 then
    some l1
  else
    bd1 (fX7_has v_known l2) fun r16 =>
    if r16 = (0 : Int32) then
      fX3_sumOfValues_j32 v_values v_known self4 l2 l1 (0 : Int32)
    else
      rd v_values 30 l2 fun x27 =>
      fX3_sumOfValues_j32 v_values v_known self4 l2 l1 x27
def fX3_sumOfValues (v_values : (Nat → Int32)) (v_known : Int32) : Option (Int32) :=
  lq2 (fX3_sumOfValues_b4 v_values v_known  ) fu (0 : Int32) (0 : Int32)
set_option maxRecDepth 100000 in
set_option maxHeartbeats 8000000 in
theorem mX3_sumOfValues (X : Ev) (ad : Nat → Nat) (v_values : (Nat → Int32)) (v_heights : (Nat → Int32)) (v_readBits : (Nat → Int32)) (v_waitsFor : (Nat → Int32)) (v_known : Int32) (v_circular : Int32) (v_circles : Int32)  (o : Int32) (h : fX3_sumOfValues v_values v_known = some o) : Ctr X yX3_sumOfValues cX3_sumOfValues 3 (some .int) 1 21 0 0 [.ref (ad 0)] [(ad 0, .inr (3, [.ref (ad 1), .ref (ad 2), .ref (ad 3), .ref (ad 4), .int v_known, .int v_circular, .int v_circles])), (ad 1, .inl (eI X, 30, .inl v_values)), (ad 2, .inl (eI X, 30, .inl v_heights)), (ad 3, .inl (eI X, 30, .inl v_readBits)), (ad 4, .inl (eI X, 30, .inl v_waitsFor))] (De (some (.int o)) [(ad 0, .inr (3, [.ref (ad 1), .ref (ad 2), .ref (ad 3), .ref (ad 4), .int v_known, .int v_circular, .int v_circles])), (ad 1, .inl (eI X, 30, .inl v_values)), (ad 2, .inl (eI X, 30, .inl v_heights)), (ad 3, .inl (eI X, 30, .inl v_readBits)), (ad 4, .inl (eI X, 30, .inl v_waitsFor))]) := by
  refine Ctr.start (by decide) (Nat.le_of_ble_eq_true rfl) (fun k A ls C hq hin hW hl => ?_)
  replace C : Cx X k cX3_sumOfValues 3 (some .int) RX3 A 1 21 0 0 := C
  replace hl : lv_has ls 3 [(0, .ref (ad 0))] := hl
  suffices hh : ∀ (H : Heap) (L : List Loc), Wd X k A [(ad 0, .inr (3, [.ref (ad 1), .ref (ad 2), .ref (ad 3), .ref (ad 4), .int v_known, .int v_circular, .int v_circles])), (ad 1, .inl (eI X, 30, .inl v_values)), (ad 2, .inl (eI X, 30, .inl v_heights)), (ad 3, .inl (eI X, 30, .inl v_readBits)), (ad 4, .inl (eI X, 30, .inl v_waitsFor))] H L → Wx X k 0 0 H L 0 ls [] from hh _ _ hW
  clear hW
  intro H L hW
  have K4 : ∀ (n4 : Nat), ∀ (l1 : Int32), ∀ (l2 : Int32), ∀ (H : Heap) (L : List Loc) (ls : Array Slot), Wd X k A [(ad 0, .inr (3, [.ref (ad 1), .ref (ad 2), .ref (ad 3), .ref (ad 4), .int v_known, .int v_circular, .int v_circles])), (ad 1, .inl (eI X, 30, .inl v_values)), (ad 2, .inl (eI X, 30, .inl v_heights)), (ad 3, .inl (eI X, 30, .inl v_readBits)), (ad 4, .inl (eI X, 30, .inl v_waitsFor))] H L → lv_has ls 3 [(0, .ref (ad 0)), (1, .int l1), (2, .int l2)] → lq2 (fX3_sumOfValues_b4 v_values v_known  ) n4 l1 l2 = some o → Wx X k 0 0 H L 4 ls [] := by
    intro n4
    induction n4 with
    | zero => intro l1 l2 H L ls hW hl h; exact lq2_0 h
    | succ n4 ih4 =>
      have K32 : ∀ (l2 : Int32), ∀ (s0 : Int32), ∀ (s1 : Int32), ∀ (H : Heap) (L : List Loc) (ls : Array Slot), Wd X k A [(ad 0, .inr (3, [.ref (ad 1), .ref (ad 2), .ref (ad 3), .ref (ad 4), .int v_known, .int v_circular, .int v_circles])), (ad 1, .inl (eI X, 30, .inl v_values)), (ad 2, .inl (eI X, 30, .inl v_heights)), (ad 3, .inl (eI X, 30, .inl v_readBits)), (ad 4, .inl (eI X, 30, .inl v_waitsFor))] H L → lv_has ls 3 [(0, .ref (ad 0)), (2, .int l2)] → fX3_sumOfValues_j32 v_values v_known (lq2 (fX3_sumOfValues_b4 v_values v_known  ) n4) l2 s0 s1 = some o → Wx X k 0 0 H L 32 ls [.int s1, .int s0] := by
        intro l2 s0 s1 H L ls hW hl h
        unfold fX3_sumOfValues_j32 at h
        refine r_iadd C dX3_sumOfValues_32 ?_
        refine r_istore_n (lv' := [(1, .int (s0 + s1)), (0, .ref (ad 0)), (2, .int l2)]) C hl dX3_sumOfValues_33 rfl (by decide) rfl (fun ls hl => ?_)
        refine r_iinc (j := 2) (v := l2 + (1 : Int32)) (lv' := [(2, .int (l2 + (1 : Int32))), (1, .int (s0 + s1)), (0, .ref (ad 0))]) C hl dX3_sumOfValues_34 rfl rfl (by decide) rfl (fun ls hl => ?_)
        refine r_goto (tgt := 4) C dX3_sumOfValues_37 (by decide) ?_
        exact ih4 (s0 + s1) (l2 + (1 : Int32)) H L ls hW (lv_sub hl [2, 1, 0] rfl) h
      intro l1 l2 H L ls hW hl h
      rw [lq2_s] at h
      unfold fX3_sumOfValues_b4 at h
      refine r_iload_n C hl 2 dX3_sumOfValues_4 rfl rfl ?_
      refine r_bipush (v := 30) C dX3_sumOfValues_5 (by decide) ?_
      refine r_icmp_ge (tgt := 40) C dX3_sumOfValues_7 (by decide) (fun c7 => ?_) (fun c7 => ?_)
      · replace h := iT c7 h
        refine r_iload_n C hl 1 dX3_sumOfValues_40 rfl rfl ?_
        exact r_iret C hq hW (by obtain rfl := Option.some.inj h; exact ⟨rfl, rfl⟩) dX3_sumOfValues_41
      · replace h := iF c7 h
        refine r_iload_n C hl 1 dX3_sumOfValues_10 rfl rfl ?_
        refine r_aload_n C hl 0 dX3_sumOfValues_11 rfl rfl ?_
        refine r_get C hW 0 rfl rfl iwX3 4 (by decide) w_fl_X3_30 rfl dX3_sumOfValues_12 ?_
        refine r_iload_n C hl 2 dX3_sumOfValues_15 rfl rfl ?_
        obtain ⟨r16, h16, h⟩ := bd1_some h
        refine r_SN (wr := [(ad 0, .inr (3, [.ref (ad 1), .ref (ad 2), .ref (ad 3), .ref (ad 4), .int v_known, .int v_circular, .int v_circles])), (ad 1, .inl (eI X, 30, .inl v_values)), (ad 2, .inl (eI X, 30, .inl v_heights)), (ad 3, .inl (eI X, 30, .inl v_readBits)), (ad 4, .inl (eI X, 30, .inl v_waitsFor))]) (np := 2) C hl (mX7_has X    v_known l2 r16 h16) hW [] [0, 1, 2, 3, 4] rfl rfl rfl rfl (by decide) w_cd_X7_has w_st_X7_has w_in_HeightSheet 9 rfl (by decide +kernel) rfl ⟨Nat.le_of_ble_eq_true rfl, Nat.le_of_ble_eq_true rfl⟩ ⟨Nat.zero_le _, Nat.zero_le _⟩ (Nat.le_of_ble_eq_true rfl) dX3_sumOfValues_16 (fun rv w1 H L hp hW => ?_) rfl
        obtain ⟨rfl, rfl⟩ := hp
        replace hW : Wd X k A [(ad 0, .inr (3, [.ref (ad 1), .ref (ad 2), .ref (ad 3), .ref (ad 4), .int v_known, .int v_circular, .int v_circles])), (ad 1, .inl (eI X, 30, .inl v_values)), (ad 2, .inl (eI X, 30, .inl v_heights)), (ad 3, .inl (eI X, 30, .inl v_readBits)), (ad 4, .inl (eI X, 30, .inl v_waitsFor))] H L := hW.sub [0, 1, 2, 3, 4] rfl rfl
        show Wx X k 0 0 H L 19 ls [.int r16, .int l1]
        refine r_if_eq (tgt := 31) C dX3_sumOfValues_19 (by decide) (fun c19 => ?_) (fun c19 => ?_)
        · replace h := iT c19 h
          refine r_iconst (v := 0) C dX3_sumOfValues_31 (by decide) ?_
          exact K32 l2 l1 (0 : Int32) H L ls hW (lv_sub hl [0, 2] rfl) h
        · replace h := iF c19 h
          refine r_aload_n C hl 0 dX3_sumOfValues_22 rfl rfl ?_
          refine r_get C hW 0 rfl rfl iwX3 0 (by decide) w_fl_X3_9 rfl dX3_sumOfValues_23 ?_
          refine r_iload_n C hl 2 dX3_sumOfValues_26 rfl rfl ?_
          obtain ⟨x27, e27, g27, h⟩ := rd_some h
          refine r_iald C hW 1 rfl g27 e27 dX3_sumOfValues_27 ?_
          refine r_goto (tgt := 32) C dX3_sumOfValues_28 (by decide) ?_
          exact K32 l2 l1 x27 H L ls hW (lv_sub hl [0, 2] rfl) h
  unfold fX3_sumOfValues at h
  refine r_iconst (v := 0) C dX3_sumOfValues_0 (by decide) ?_
  refine r_istore_n (lv' := [(1, .int (0 : Int32)), (0, .ref (ad 0))]) C hl dX3_sumOfValues_1 rfl (by decide) rfl (fun ls hl => ?_)
  refine r_iconst (v := 0) C dX3_sumOfValues_2 (by decide) ?_
  refine r_istore_n (lv' := [(2, .int (0 : Int32)), (1, .int (0 : Int32)), (0, .ref (ad 0))]) C hl dX3_sumOfValues_3 rfl (by decide) rfl (fun ls hl => ?_)
  exact K4  fu (0 : Int32) (0 : Int32) H L ls hW (lv_sub hl [2, 1, 0] rfl) h
def fX3_nthByHeight_j54 (v_heights : (Nat → Int32)) (v_known : Int32) (p1 : Int32) (self4 : Int32 → Int32 → Option (Int32)) (self13 : Int32 → Int32 → Option (Int32)) (l2 : Int32) (l3 : Int32) (l4 : Int32) : Option (Int32) :=
  self13 l2 (l4 + (1 : Int32))
def fX3_nthByHeight_b13 (v_heights : (Nat → Int32)) (v_known : Int32) (p1 : Int32) (self4 : Int32 → Int32 → Option (Int32)) (l3 : Int32) (self13 : Int32 → Int32 → Option (Int32)) (l2 : Int32) (l4 : Int32) : Option (Int32) :=
  if (30 : Int32) ≤ l4 then
    self4 l2 (l3 + (1 : Int32))
  else
    bd1 (fX7_has v_known l4) fun r26 =>
    if r26 = (0 : Int32) then
      fX3_nthByHeight_j54 v_heights v_known p1 self4 self13 l2 l3 l4
    else
      rd v_heights 30 l4 fun x38 =>
      if x38 = l3 then
        if l2 = p1 then
          some l4
        else
          fX3_nthByHeight_j54 v_heights v_known p1 self4 self13 (l2 + (1 : Int32)) l3 l4
      else
        fX3_nthByHeight_j54 v_heights v_known p1 self4 self13 l2 l3 l4
def fX3_nthByHeight_b4 (v_heights : (Nat → Int32)) (v_known : Int32) (p1 : Int32)   (self4 : Int32 → Int32 → Option (Int32)) (l2 : Int32) (l3 : Int32) : Option (Int32) :=
  if (30 : Int32) ≤ l3 then
    some (-4 : Int32)
  else
    lq2 (fX3_nthByHeight_b13 v_heights v_known p1 self4 l3) fu l2 (0 : Int32)
def fX3_nthByHeight (v_heights : (Nat → Int32)) (v_known : Int32) (p1 : Int32) : Option (Int32) :=
  lq2 (fX3_nthByHeight_b4 v_heights v_known p1  ) fu (0 : Int32) (0 : Int32)
set_option maxRecDepth 100000 in
set_option maxHeartbeats 8000000 in
theorem mX3_nthByHeight (X : Ev) (ad : Nat → Nat) (v_values : (Nat → Int32)) (v_heights : (Nat → Int32)) (v_readBits : (Nat → Int32)) (v_waitsFor : (Nat → Int32)) (v_known : Int32) (v_circular : Int32) (v_circles : Int32) (p1 : Int32) (o : Int32) (h : fX3_nthByHeight v_heights v_known p1 = some o) : Ctr X yX3_nthByHeight cX3_nthByHeight 5 (some .int) 1 21 0 0 [.ref (ad 0), .int p1] [(ad 0, .inr (3, [.ref (ad 1), .ref (ad 2), .ref (ad 3), .ref (ad 4), .int v_known, .int v_circular, .int v_circles])), (ad 1, .inl (eI X, 30, .inl v_values)), (ad 2, .inl (eI X, 30, .inl v_heights)), (ad 3, .inl (eI X, 30, .inl v_readBits)), (ad 4, .inl (eI X, 30, .inl v_waitsFor))] (De (some (.int o)) [(ad 0, .inr (3, [.ref (ad 1), .ref (ad 2), .ref (ad 3), .ref (ad 4), .int v_known, .int v_circular, .int v_circles])), (ad 1, .inl (eI X, 30, .inl v_values)), (ad 2, .inl (eI X, 30, .inl v_heights)), (ad 3, .inl (eI X, 30, .inl v_readBits)), (ad 4, .inl (eI X, 30, .inl v_waitsFor))]) := by
  refine Ctr.start (by decide) (Nat.le_of_ble_eq_true rfl) (fun k A ls C hq hin hW hl => ?_)
  replace C : Cx X k cX3_nthByHeight 5 (some .int) RX3 A 1 21 0 0 := C
  replace hl : lv_has ls 5 [(0, .ref (ad 0)), (1, .int p1)] := hl
  suffices hh : ∀ (H : Heap) (L : List Loc), Wd X k A [(ad 0, .inr (3, [.ref (ad 1), .ref (ad 2), .ref (ad 3), .ref (ad 4), .int v_known, .int v_circular, .int v_circles])), (ad 1, .inl (eI X, 30, .inl v_values)), (ad 2, .inl (eI X, 30, .inl v_heights)), (ad 3, .inl (eI X, 30, .inl v_readBits)), (ad 4, .inl (eI X, 30, .inl v_waitsFor))] H L → Wx X k 0 0 H L 0 ls [] from hh _ _ hW
  clear hW
  intro H L hW
  have K4 : ∀ (n4 : Nat), ∀ (l2 : Int32), ∀ (l3 : Int32), ∀ (H : Heap) (L : List Loc) (ls : Array Slot), Wd X k A [(ad 0, .inr (3, [.ref (ad 1), .ref (ad 2), .ref (ad 3), .ref (ad 4), .int v_known, .int v_circular, .int v_circles])), (ad 1, .inl (eI X, 30, .inl v_values)), (ad 2, .inl (eI X, 30, .inl v_heights)), (ad 3, .inl (eI X, 30, .inl v_readBits)), (ad 4, .inl (eI X, 30, .inl v_waitsFor))] H L → lv_has ls 5 [(0, .ref (ad 0)), (1, .int p1), (2, .int l2), (3, .int l3)] → lq2 (fX3_nthByHeight_b4 v_heights v_known p1  ) n4 l2 l3 = some o → Wx X k 0 0 H L 4 ls [] := by
    intro n4
    induction n4 with
    | zero => intro l2 l3 H L ls hW hl h; exact lq2_0 h
    | succ n4 ih4 =>
      have K13 : ∀ (l3 : Int32), ∀ (n13 : Nat), ∀ (l2 : Int32), ∀ (l4 : Int32), ∀ (H : Heap) (L : List Loc) (ls : Array Slot), Wd X k A [(ad 0, .inr (3, [.ref (ad 1), .ref (ad 2), .ref (ad 3), .ref (ad 4), .int v_known, .int v_circular, .int v_circles])), (ad 1, .inl (eI X, 30, .inl v_values)), (ad 2, .inl (eI X, 30, .inl v_heights)), (ad 3, .inl (eI X, 30, .inl v_readBits)), (ad 4, .inl (eI X, 30, .inl v_waitsFor))] H L → lv_has ls 5 [(0, .ref (ad 0)), (1, .int p1), (2, .int l2), (3, .int l3), (4, .int l4)] → lq2 (fX3_nthByHeight_b13 v_heights v_known p1 (lq2 (fX3_nthByHeight_b4 v_heights v_known p1  ) n4) l3) n13 l2 l4 = some o → Wx X k 0 0 H L 13 ls [] := by
        intro l3
        intro n13
        induction n13 with
        | zero => intro l2 l4 H L ls hW hl h; exact lq2_0 h
        | succ n13 ih13 =>
          have K54 : ∀ (l2 : Int32), ∀ (l4 : Int32), ∀ (H : Heap) (L : List Loc) (ls : Array Slot), Wd X k A [(ad 0, .inr (3, [.ref (ad 1), .ref (ad 2), .ref (ad 3), .ref (ad 4), .int v_known, .int v_circular, .int v_circles])), (ad 1, .inl (eI X, 30, .inl v_values)), (ad 2, .inl (eI X, 30, .inl v_heights)), (ad 3, .inl (eI X, 30, .inl v_readBits)), (ad 4, .inl (eI X, 30, .inl v_waitsFor))] H L → lv_has ls 5 [(0, .ref (ad 0)), (1, .int p1), (2, .int l2), (3, .int l3), (4, .int l4)] → fX3_nthByHeight_j54 v_heights v_known p1 (lq2 (fX3_nthByHeight_b4 v_heights v_known p1  ) n4) (lq2 (fX3_nthByHeight_b13 v_heights v_known p1 (lq2 (fX3_nthByHeight_b4 v_heights v_known p1  ) n4) l3) n13) l2 l3 l4 = some o → Wx X k 0 0 H L 54 ls [] := by
            intro l2 l4 H L ls hW hl h
            unfold fX3_nthByHeight_j54 at h
            refine r_iinc (j := 4) (v := l4 + (1 : Int32)) (lv' := [(4, .int (l4 + (1 : Int32))), (0, .ref (ad 0)), (1, .int p1), (2, .int l2), (3, .int l3)]) C hl dX3_nthByHeight_54 rfl rfl (by decide) rfl (fun ls hl => ?_)
            refine r_goto (tgt := 13) C dX3_nthByHeight_57 (by decide) ?_
            exact ih13 l2 (l4 + (1 : Int32)) H L ls hW (lv_sub hl [1, 2, 3, 4, 0] rfl) h
          intro l2 l4 H L ls hW hl h
          rw [lq2_s] at h
          unfold fX3_nthByHeight_b13 at h
          refine r_iload C hl 4 dX3_nthByHeight_13 rfl ?_
          refine r_bipush (v := 30) C dX3_nthByHeight_15 (by decide) ?_
          refine r_icmp_ge (tgt := 60) C dX3_nthByHeight_17 (by decide) (fun c17 => ?_) (fun c17 => ?_)
          · replace h := iT c17 h
            refine r_iinc (j := 3) (v := l3 + (1 : Int32)) (lv' := [(3, .int (l3 + (1 : Int32))), (0, .ref (ad 0)), (1, .int p1), (2, .int l2), (4, .int l4)]) C hl dX3_nthByHeight_60 rfl rfl (by decide) rfl (fun ls hl => ?_)
            refine r_goto (tgt := 4) C dX3_nthByHeight_63 (by decide) ?_
            exact ih4 l2 (l3 + (1 : Int32)) H L ls hW (lv_sub hl [1, 2, 3, 0] rfl) h
          · replace h := iF c17 h
            refine r_aload_n C hl 0 dX3_nthByHeight_20 rfl rfl ?_
            refine r_get C hW 0 rfl rfl iwX3 4 (by decide) w_fl_X3_30 rfl dX3_nthByHeight_21 ?_
            refine r_iload C hl 4 dX3_nthByHeight_24 rfl ?_
            obtain ⟨r26, h26, h⟩ := bd1_some h
            refine r_SN (wr := [(ad 0, .inr (3, [.ref (ad 1), .ref (ad 2), .ref (ad 3), .ref (ad 4), .int v_known, .int v_circular, .int v_circles])), (ad 1, .inl (eI X, 30, .inl v_values)), (ad 2, .inl (eI X, 30, .inl v_heights)), (ad 3, .inl (eI X, 30, .inl v_readBits)), (ad 4, .inl (eI X, 30, .inl v_waitsFor))]) (np := 2) C hl (mX7_has X    v_known l4 r26 h26) hW [] [0, 1, 2, 3, 4] rfl rfl rfl rfl (by decide) w_cd_X7_has w_st_X7_has w_in_HeightSheet 9 rfl (by decide +kernel) rfl ⟨Nat.le_of_ble_eq_true rfl, Nat.le_of_ble_eq_true rfl⟩ ⟨Nat.zero_le _, Nat.zero_le _⟩ (Nat.le_of_ble_eq_true rfl) dX3_nthByHeight_26 (fun rv w1 H L hp hW => ?_) rfl
            obtain ⟨rfl, rfl⟩ := hp
            replace hW : Wd X k A [(ad 0, .inr (3, [.ref (ad 1), .ref (ad 2), .ref (ad 3), .ref (ad 4), .int v_known, .int v_circular, .int v_circles])), (ad 1, .inl (eI X, 30, .inl v_values)), (ad 2, .inl (eI X, 30, .inl v_heights)), (ad 3, .inl (eI X, 30, .inl v_readBits)), (ad 4, .inl (eI X, 30, .inl v_waitsFor))] H L := hW.sub [0, 1, 2, 3, 4] rfl rfl
            show Wx X k 0 0 H L 29 ls [.int r26]
            refine r_if_eq (tgt := 54) C dX3_nthByHeight_29 (by decide) (fun c29 => ?_) (fun c29 => ?_)
            · replace h := iT c29 h
              exact K54 l2 l4 H L ls hW hl h
            · replace h := iF c29 h
              refine r_aload_n C hl 0 dX3_nthByHeight_32 rfl rfl ?_
              refine r_get C hW 0 rfl rfl iwX3 1 (by decide) w_fl_X3_15 rfl dX3_nthByHeight_33 ?_
              refine r_iload C hl 4 dX3_nthByHeight_36 rfl ?_
              obtain ⟨x38, e38, g38, h⟩ := rd_some h
              refine r_iald C hW 2 rfl g38 e38 dX3_nthByHeight_38 ?_
              refine r_iload_n C hl 3 dX3_nthByHeight_39 rfl rfl ?_
              refine r_icmp_ne (tgt := 54) C dX3_nthByHeight_40 (by decide) (fun c40 => ?_) (fun c40 => ?_)
              · replace h := iF c40 h
                exact K54 l2 l4 H L ls hW hl h
              · replace h := iT c40 h
                refine r_iload_n C hl 2 dX3_nthByHeight_43 rfl rfl ?_
                refine r_iload_n C hl 1 dX3_nthByHeight_44 rfl rfl ?_
                refine r_icmp_ne (tgt := 51) C dX3_nthByHeight_45 (by decide) (fun c45 => ?_) (fun c45 => ?_)
                · replace h := iF c45 h
                  refine r_iinc (j := 2) (v := l2 + (1 : Int32)) (lv' := [(2, .int (l2 + (1 : Int32))), (0, .ref (ad 0)), (1, .int p1), (3, .int l3), (4, .int l4)]) C hl dX3_nthByHeight_51 rfl rfl (by decide) rfl (fun ls hl => ?_)
                  exact K54 (l2 + (1 : Int32)) l4 H L ls hW (lv_sub hl [1, 2, 0, 3, 4] rfl) h
                · replace h := iT c45 h
                  refine r_iload C hl 4 dX3_nthByHeight_48 rfl ?_
                  exact r_iret C hq hW (by obtain rfl := Option.some.inj h; exact ⟨rfl, rfl⟩) dX3_nthByHeight_50
      intro l2 l3 H L ls hW hl h
      rw [lq2_s] at h
      unfold fX3_nthByHeight_b4 at h
      refine r_iload_n C hl 3 dX3_nthByHeight_4 rfl rfl ?_
      refine r_bipush (v := 30) C dX3_nthByHeight_5 (by decide) ?_
      refine r_icmp_ge (tgt := 66) C dX3_nthByHeight_7 (by decide) (fun c7 => ?_) (fun c7 => ?_)
      · replace h := iT c7 h
        refine r_bipush (v := -4) C dX3_nthByHeight_66 (by decide) ?_
        exact r_iret C hq hW (by obtain rfl := Option.some.inj h; exact ⟨rfl, rfl⟩) dX3_nthByHeight_68
      · replace h := iF c7 h
        refine r_iconst (v := 0) C dX3_nthByHeight_10 (by decide) ?_
        refine r_istore (lv' := [(4, .int (0 : Int32)), (0, .ref (ad 0)), (1, .int p1), (2, .int l2), (3, .int l3)]) C hl dX3_nthByHeight_11 (by decide) rfl (fun ls hl => ?_)
        exact K13 l3 fu l2 (0 : Int32) H L ls hW (lv_sub hl [1, 2, 3, 4, 0] rfl) h
  unfold fX3_nthByHeight at h
  refine r_iconst (v := 0) C dX3_nthByHeight_0 (by decide) ?_
  refine r_istore_n (lv' := [(2, .int (0 : Int32)), (0, .ref (ad 0)), (1, .int p1)]) C hl dX3_nthByHeight_1 rfl (by decide) rfl (fun ls hl => ?_)
  refine r_iconst (v := 0) C dX3_nthByHeight_2 (by decide) ?_
  refine r_istore_n (lv' := [(3, .int (0 : Int32)), (2, .int (0 : Int32)), (0, .ref (ad 0)), (1, .int p1)]) C hl dX3_nthByHeight_3 rfl (by decide) rfl (fun ls hl => ?_)
  exact K4  fu (0 : Int32) (0 : Int32) H L ls hW (lv_sub hl [2, 3, 1, 0] rfl) h
def fX3_readersOf_j28 (v_readBits : (Nat → Int32)) (p1 : Int32) (self4 : Int32 → Int32 → Option (Int32)) (l2 : Int32) (l3 : Int32) : Option (Int32) :=
  self4 l2 (l3 + (1 : Int32))
def fX3_readersOf_b4 (v_readBits : (Nat → Int32)) (p1 : Int32)   (self4 : Int32 → Int32 → Option (Int32)) (l2 : Int32) (l3 : Int32) : Option (Int32) :=
  if (30 : Int32) ≤ l3 then
    some l2
  else
    rd v_readBits 30 l3 fun x15 =>
    if (x15 &&& p1) = (0 : Int32) then
      fX3_readersOf_j28 v_readBits p1 self4 l2 l3
    else
      bd1 (fX7_bit l3) fun r23 =>
      fX3_readersOf_j28 v_readBits p1 self4 (l2 ||| r23) l3
def fX3_readersOf (v_readBits : (Nat → Int32)) (p1 : Int32) : Option (Int32) :=
  lq2 (fX3_readersOf_b4 v_readBits p1  ) fu (0 : Int32) (0 : Int32)
set_option maxRecDepth 100000 in
set_option maxHeartbeats 8000000 in
theorem mX3_readersOf (X : Ev) (ad : Nat → Nat) (v_values : (Nat → Int32)) (v_heights : (Nat → Int32)) (v_readBits : (Nat → Int32)) (v_waitsFor : (Nat → Int32)) (v_known : Int32) (v_circular : Int32) (v_circles : Int32) (p1 : Int32) (o : Int32) (h : fX3_readersOf v_readBits p1 = some o) : Ctr X yX3_readersOf cX3_readersOf 4 (some .int) 1 20 0 0 [.ref (ad 0), .int p1] [(ad 0, .inr (3, [.ref (ad 1), .ref (ad 2), .ref (ad 3), .ref (ad 4), .int v_known, .int v_circular, .int v_circles])), (ad 1, .inl (eI X, 30, .inl v_values)), (ad 2, .inl (eI X, 30, .inl v_heights)), (ad 3, .inl (eI X, 30, .inl v_readBits)), (ad 4, .inl (eI X, 30, .inl v_waitsFor))] (De (some (.int o)) [(ad 0, .inr (3, [.ref (ad 1), .ref (ad 2), .ref (ad 3), .ref (ad 4), .int v_known, .int v_circular, .int v_circles])), (ad 1, .inl (eI X, 30, .inl v_values)), (ad 2, .inl (eI X, 30, .inl v_heights)), (ad 3, .inl (eI X, 30, .inl v_readBits)), (ad 4, .inl (eI X, 30, .inl v_waitsFor))]) := by
  refine Ctr.start (by decide) (Nat.le_of_ble_eq_true rfl) (fun k A ls C hq hin hW hl => ?_)
  replace C : Cx X k cX3_readersOf 4 (some .int) RX3 A 1 20 0 0 := C
  replace hl : lv_has ls 4 [(0, .ref (ad 0)), (1, .int p1)] := hl
  suffices hh : ∀ (H : Heap) (L : List Loc), Wd X k A [(ad 0, .inr (3, [.ref (ad 1), .ref (ad 2), .ref (ad 3), .ref (ad 4), .int v_known, .int v_circular, .int v_circles])), (ad 1, .inl (eI X, 30, .inl v_values)), (ad 2, .inl (eI X, 30, .inl v_heights)), (ad 3, .inl (eI X, 30, .inl v_readBits)), (ad 4, .inl (eI X, 30, .inl v_waitsFor))] H L → Wx X k 0 0 H L 0 ls [] from hh _ _ hW
  clear hW
  intro H L hW
  have K4 : ∀ (n4 : Nat), ∀ (l2 : Int32), ∀ (l3 : Int32), ∀ (H : Heap) (L : List Loc) (ls : Array Slot), Wd X k A [(ad 0, .inr (3, [.ref (ad 1), .ref (ad 2), .ref (ad 3), .ref (ad 4), .int v_known, .int v_circular, .int v_circles])), (ad 1, .inl (eI X, 30, .inl v_values)), (ad 2, .inl (eI X, 30, .inl v_heights)), (ad 3, .inl (eI X, 30, .inl v_readBits)), (ad 4, .inl (eI X, 30, .inl v_waitsFor))] H L → lv_has ls 4 [(0, .ref (ad 0)), (1, .int p1), (2, .int l2), (3, .int l3)] → lq2 (fX3_readersOf_b4 v_readBits p1  ) n4 l2 l3 = some o → Wx X k 0 0 H L 4 ls [] := by
    intro n4
    induction n4 with
    | zero => intro l2 l3 H L ls hW hl h; exact lq2_0 h
    | succ n4 ih4 =>
      have K28 : ∀ (l2 : Int32), ∀ (l3 : Int32), ∀ (H : Heap) (L : List Loc) (ls : Array Slot), Wd X k A [(ad 0, .inr (3, [.ref (ad 1), .ref (ad 2), .ref (ad 3), .ref (ad 4), .int v_known, .int v_circular, .int v_circles])), (ad 1, .inl (eI X, 30, .inl v_values)), (ad 2, .inl (eI X, 30, .inl v_heights)), (ad 3, .inl (eI X, 30, .inl v_readBits)), (ad 4, .inl (eI X, 30, .inl v_waitsFor))] H L → lv_has ls 4 [(0, .ref (ad 0)), (1, .int p1), (2, .int l2), (3, .int l3)] → fX3_readersOf_j28 v_readBits p1 (lq2 (fX3_readersOf_b4 v_readBits p1  ) n4) l2 l3 = some o → Wx X k 0 0 H L 28 ls [] := by
        intro l2 l3 H L ls hW hl h
        unfold fX3_readersOf_j28 at h
        refine r_iinc (j := 3) (v := l3 + (1 : Int32)) (lv' := [(3, .int (l3 + (1 : Int32))), (0, .ref (ad 0)), (1, .int p1), (2, .int l2)]) C hl dX3_readersOf_28 rfl rfl (by decide) rfl (fun ls hl => ?_)
        refine r_goto (tgt := 4) C dX3_readersOf_31 (by decide) ?_
        exact ih4 l2 (l3 + (1 : Int32)) H L ls hW (lv_sub hl [1, 2, 3, 0] rfl) h
      intro l2 l3 H L ls hW hl h
      rw [lq2_s] at h
      unfold fX3_readersOf_b4 at h
      refine r_iload_n C hl 3 dX3_readersOf_4 rfl rfl ?_
      refine r_bipush (v := 30) C dX3_readersOf_5 (by decide) ?_
      refine r_icmp_ge (tgt := 34) C dX3_readersOf_7 (by decide) (fun c7 => ?_) (fun c7 => ?_)
      · replace h := iT c7 h
        refine r_iload_n C hl 2 dX3_readersOf_34 rfl rfl ?_
        exact r_iret C hq hW (by obtain rfl := Option.some.inj h; exact ⟨rfl, rfl⟩) dX3_readersOf_35
      · replace h := iF c7 h
        refine r_aload_n C hl 0 dX3_readersOf_10 rfl rfl ?_
        refine r_get C hW 0 rfl rfl iwX3 2 (by decide) w_fl_X3_18 rfl dX3_readersOf_11 ?_
        refine r_iload_n C hl 3 dX3_readersOf_14 rfl rfl ?_
        obtain ⟨x15, e15, g15, h⟩ := rd_some h
        refine r_iald C hW 3 rfl g15 e15 dX3_readersOf_15 ?_
        refine r_iload_n C hl 1 dX3_readersOf_16 rfl rfl ?_
        refine r_iand C dX3_readersOf_17 ?_
        refine r_if_eq (tgt := 28) C dX3_readersOf_18 (by decide) (fun c18 => ?_) (fun c18 => ?_)
        · replace h := iT c18 h
          exact K28 l2 l3 H L ls hW hl h
        · replace h := iF c18 h
          refine r_iload_n C hl 2 dX3_readersOf_21 rfl rfl ?_
          refine r_iload_n C hl 3 dX3_readersOf_22 rfl rfl ?_
          obtain ⟨r23, h23, h⟩ := bd1_some h
          refine r_SN (wr := [(ad 0, .inr (3, [.ref (ad 1), .ref (ad 2), .ref (ad 3), .ref (ad 4), .int v_known, .int v_circular, .int v_circles])), (ad 1, .inl (eI X, 30, .inl v_values)), (ad 2, .inl (eI X, 30, .inl v_heights)), (ad 3, .inl (eI X, 30, .inl v_readBits)), (ad 4, .inl (eI X, 30, .inl v_waitsFor))]) (np := 1) C hl (mX7_bit X    l3 r23 h23) hW [] [0, 1, 2, 3, 4] rfl rfl rfl rfl (by decide) w_cd_X7_bit w_st_X7_bit w_in_HeightSheet 11 rfl (by decide +kernel) rfl ⟨Nat.le_of_ble_eq_true rfl, Nat.le_of_ble_eq_true rfl⟩ ⟨Nat.zero_le _, Nat.zero_le _⟩ (Nat.le_of_ble_eq_true rfl) dX3_readersOf_23 (fun rv w1 H L hp hW => ?_) rfl
          obtain ⟨rfl, rfl⟩ := hp
          replace hW : Wd X k A [(ad 0, .inr (3, [.ref (ad 1), .ref (ad 2), .ref (ad 3), .ref (ad 4), .int v_known, .int v_circular, .int v_circles])), (ad 1, .inl (eI X, 30, .inl v_values)), (ad 2, .inl (eI X, 30, .inl v_heights)), (ad 3, .inl (eI X, 30, .inl v_readBits)), (ad 4, .inl (eI X, 30, .inl v_waitsFor))] H L := hW.sub [0, 1, 2, 3, 4] rfl rfl
          show Wx X k 0 0 H L 26 ls [.int r23, .int l2]
          refine r_ior C dX3_readersOf_26 ?_
          refine r_istore_n (lv' := [(2, .int (l2 ||| r23)), (0, .ref (ad 0)), (1, .int p1), (3, .int l3)]) C hl dX3_readersOf_27 rfl (by decide) rfl (fun ls hl => ?_)
          exact K28 (l2 ||| r23) l3 H L ls hW (lv_sub hl [1, 2, 0, 3] rfl) h
  unfold fX3_readersOf at h
  refine r_iconst (v := 0) C dX3_readersOf_0 (by decide) ?_
  refine r_istore_n (lv' := [(2, .int (0 : Int32)), (0, .ref (ad 0)), (1, .int p1)]) C hl dX3_readersOf_1 rfl (by decide) rfl (fun ls hl => ?_)
  refine r_iconst (v := 0) C dX3_readersOf_2 (by decide) ?_
  refine r_istore_n (lv' := [(3, .int (0 : Int32)), (2, .int (0 : Int32)), (0, .ref (ad 0)), (1, .int p1)]) C hl dX3_readersOf_3 rfl (by decide) rfl (fun ls hl => ?_)
  exact K4  fu (0 : Int32) (0 : Int32) H L ls hW (lv_sub hl [2, 3, 1, 0] rfl) h
def fX3_neededBy_j72 (v_readBits : (Nat → Int32)) (p1 : Int32) (self12 : Int32 → Int32 → Int32 → Option (Int32)) (l2 : Int32) (l4 : Int32) (s0 : Int32) : Option (Int32) :=
  self12 l2 s0 (l4 + (1 : Int32))
def fX3_neededBy_j55 (v_readBits : (Nat → Int32)) (p1 : Int32) (self12 : Int32 → Int32 → Int32 → Option (Int32)) (self29 : Int32 → Int32 → Option (Int32)) (l2 : Int32) (l4 : Int32) (l5 : Int32) (l6 : Int32) : Option (Int32) :=
  self29 l2 (l6 + (1 : Int32))
def fX3_neededBy_b29 (v_readBits : (Nat → Int32)) (p1 : Int32) (self12 : Int32 → Int32 → Int32 → Option (Int32)) (l4 : Int32) (l5 : Int32) (self29 : Int32 → Int32 → Option (Int32)) (l2 : Int32) (l6 : Int32) : Option (Int32) :=
  if (30 : Int32) ≤ l6 then
    if l2 = l5 then
      fX3_neededBy_j72 v_readBits p1 self12 l2 l4 (0 : Int32)
    else
      fX3_neededBy_j72 v_readBits p1 self12 l2 l4 (1 : Int32)
  else
    bd1 (fX7_has l2 l6) fun r39 =>
    if r39 = (0 : Int32) then
      fX3_neededBy_j55 v_readBits p1 self12 self29 l2 l4 l5 l6
    else
      rd v_readBits 30 l6 fun x52 =>
      fX3_neededBy_j55 v_readBits p1 self12 self29 (l2 ||| x52) l4 l5 l6
def fX3_neededBy_b12 (v_readBits : (Nat → Int32)) (p1 : Int32)   (self12 : Int32 → Int32 → Int32 → Option (Int32)) (l2 : Int32) (l3 : Int32) (l4 : Int32) : Option (Int32) :=
  if l3 = (0 : Int32) then
    some l2
  else
    if (30 : Int32) ≤ l4 then
      some l2
    else
      lq2 (fX3_neededBy_b29 v_readBits p1 self12 l4 l2) fu l2 (0 : Int32)
def fX3_neededBy (v_readBits : (Nat → Int32)) (p1 : Int32) : Option (Int32) :=
  rd v_readBits 30 p1 fun x5 =>
  lq3 (fX3_neededBy_b12 v_readBits p1  ) fu x5 (1 : Int32) (0 : Int32)
set_option maxRecDepth 100000 in
set_option maxHeartbeats 8000000 in
theorem mX3_neededBy (X : Ev) (ad : Nat → Nat) (v_values : (Nat → Int32)) (v_heights : (Nat → Int32)) (v_readBits : (Nat → Int32)) (v_waitsFor : (Nat → Int32)) (v_known : Int32) (v_circular : Int32) (v_circles : Int32) (p1 : Int32) (o : Int32) (h : fX3_neededBy v_readBits p1 = some o) : Ctr X yX3_neededBy cX3_neededBy 7 (some .int) 1 21 0 0 [.ref (ad 0), .int p1] [(ad 0, .inr (3, [.ref (ad 1), .ref (ad 2), .ref (ad 3), .ref (ad 4), .int v_known, .int v_circular, .int v_circles])), (ad 1, .inl (eI X, 30, .inl v_values)), (ad 2, .inl (eI X, 30, .inl v_heights)), (ad 3, .inl (eI X, 30, .inl v_readBits)), (ad 4, .inl (eI X, 30, .inl v_waitsFor))] (De (some (.int o)) [(ad 0, .inr (3, [.ref (ad 1), .ref (ad 2), .ref (ad 3), .ref (ad 4), .int v_known, .int v_circular, .int v_circles])), (ad 1, .inl (eI X, 30, .inl v_values)), (ad 2, .inl (eI X, 30, .inl v_heights)), (ad 3, .inl (eI X, 30, .inl v_readBits)), (ad 4, .inl (eI X, 30, .inl v_waitsFor))]) := by
  refine Ctr.start (by decide) (Nat.le_of_ble_eq_true rfl) (fun k A ls C hq hin hW hl => ?_)
  replace C : Cx X k cX3_neededBy 7 (some .int) RX3 A 1 21 0 0 := C
  replace hl : lv_has ls 7 [(0, .ref (ad 0)), (1, .int p1)] := hl
  suffices hh : ∀ (H : Heap) (L : List Loc), Wd X k A [(ad 0, .inr (3, [.ref (ad 1), .ref (ad 2), .ref (ad 3), .ref (ad 4), .int v_known, .int v_circular, .int v_circles])), (ad 1, .inl (eI X, 30, .inl v_values)), (ad 2, .inl (eI X, 30, .inl v_heights)), (ad 3, .inl (eI X, 30, .inl v_readBits)), (ad 4, .inl (eI X, 30, .inl v_waitsFor))] H L → Wx X k 0 0 H L 0 ls [] from hh _ _ hW
  clear hW
  intro H L hW
  have K12 : ∀ (n12 : Nat), ∀ (l2 : Int32), ∀ (l3 : Int32), ∀ (l4 : Int32), ∀ (H : Heap) (L : List Loc) (ls : Array Slot), Wd X k A [(ad 0, .inr (3, [.ref (ad 1), .ref (ad 2), .ref (ad 3), .ref (ad 4), .int v_known, .int v_circular, .int v_circles])), (ad 1, .inl (eI X, 30, .inl v_values)), (ad 2, .inl (eI X, 30, .inl v_heights)), (ad 3, .inl (eI X, 30, .inl v_readBits)), (ad 4, .inl (eI X, 30, .inl v_waitsFor))] H L → lv_has ls 7 [(0, .ref (ad 0)), (2, .int l2), (3, .int l3), (4, .int l4)] → lq3 (fX3_neededBy_b12 v_readBits p1  ) n12 l2 l3 l4 = some o → Wx X k 0 0 H L 12 ls [] := by
    intro n12
    induction n12 with
    | zero => intro l2 l3 l4 H L ls hW hl h; exact lq3_0 h
    | succ n12 ih12 =>
      have K72 : ∀ (l2 : Int32), ∀ (l4 : Int32), ∀ (s0 : Int32), ∀ (H : Heap) (L : List Loc) (ls : Array Slot), Wd X k A [(ad 0, .inr (3, [.ref (ad 1), .ref (ad 2), .ref (ad 3), .ref (ad 4), .int v_known, .int v_circular, .int v_circles])), (ad 1, .inl (eI X, 30, .inl v_values)), (ad 2, .inl (eI X, 30, .inl v_heights)), (ad 3, .inl (eI X, 30, .inl v_readBits)), (ad 4, .inl (eI X, 30, .inl v_waitsFor))] H L → lv_has ls 7 [(0, .ref (ad 0)), (2, .int l2), (4, .int l4)] → fX3_neededBy_j72 v_readBits p1 (lq3 (fX3_neededBy_b12 v_readBits p1  ) n12) l2 l4 s0 = some o → Wx X k 0 0 H L 72 ls [.int s0] := by
        intro l2 l4 s0 H L ls hW hl h
        unfold fX3_neededBy_j72 at h
        refine r_istore_n (lv' := [(3, .int s0), (0, .ref (ad 0)), (2, .int l2), (4, .int l4)]) C hl dX3_neededBy_72 rfl (by decide) rfl (fun ls hl => ?_)
        refine r_iinc (j := 3) (v := l4 + (1 : Int32)) (lv' := [(4, .int (l4 + (1 : Int32))), (3, .int s0), (0, .ref (ad 0)), (2, .int l2)]) C hl dX3_neededBy_73 rfl rfl (by decide) rfl (fun ls hl => ?_)
        refine r_goto (tgt := 12) C dX3_neededBy_76 (by decide) ?_
        exact ih12 l2 s0 (l4 + (1 : Int32)) H L ls hW (lv_sub hl [2, 3, 1, 0] rfl) h
      have K29 : ∀ (l4 : Int32), ∀ (l5 : Int32), ∀ (n29 : Nat), ∀ (l2 : Int32), ∀ (l6 : Int32), ∀ (H : Heap) (L : List Loc) (ls : Array Slot), Wd X k A [(ad 0, .inr (3, [.ref (ad 1), .ref (ad 2), .ref (ad 3), .ref (ad 4), .int v_known, .int v_circular, .int v_circles])), (ad 1, .inl (eI X, 30, .inl v_values)), (ad 2, .inl (eI X, 30, .inl v_heights)), (ad 3, .inl (eI X, 30, .inl v_readBits)), (ad 4, .inl (eI X, 30, .inl v_waitsFor))] H L → lv_has ls 7 [(0, .ref (ad 0)), (2, .int l2), (4, .int l4), (5, .int l5), (6, .int l6)] → lq2 (fX3_neededBy_b29 v_readBits p1 (lq3 (fX3_neededBy_b12 v_readBits p1  ) n12) l4 l5) n29 l2 l6 = some o → Wx X k 0 0 H L 29 ls [] := by
        intro l4 l5
        intro n29
        induction n29 with
        | zero => intro l2 l6 H L ls hW hl h; exact lq2_0 h
        | succ n29 ih29 =>
          have K55 : ∀ (l2 : Int32), ∀ (l6 : Int32), ∀ (H : Heap) (L : List Loc) (ls : Array Slot), Wd X k A [(ad 0, .inr (3, [.ref (ad 1), .ref (ad 2), .ref (ad 3), .ref (ad 4), .int v_known, .int v_circular, .int v_circles])), (ad 1, .inl (eI X, 30, .inl v_values)), (ad 2, .inl (eI X, 30, .inl v_heights)), (ad 3, .inl (eI X, 30, .inl v_readBits)), (ad 4, .inl (eI X, 30, .inl v_waitsFor))] H L → lv_has ls 7 [(0, .ref (ad 0)), (2, .int l2), (4, .int l4), (5, .int l5), (6, .int l6)] → fX3_neededBy_j55 v_readBits p1 (lq3 (fX3_neededBy_b12 v_readBits p1  ) n12) (lq2 (fX3_neededBy_b29 v_readBits p1 (lq3 (fX3_neededBy_b12 v_readBits p1  ) n12) l4 l5) n29) l2 l4 l5 l6 = some o → Wx X k 0 0 H L 55 ls [] := by
            intro l2 l6 H L ls hW hl h
            unfold fX3_neededBy_j55 at h
            refine r_iinc (j := 4) (v := l6 + (1 : Int32)) (lv' := [(6, .int (l6 + (1 : Int32))), (0, .ref (ad 0)), (2, .int l2), (4, .int l4), (5, .int l5)]) C hl dX3_neededBy_55 rfl rfl (by decide) rfl (fun ls hl => ?_)
            refine r_goto (tgt := 29) C dX3_neededBy_58 (by decide) ?_
            exact ih29 l2 (l6 + (1 : Int32)) H L ls hW (lv_sub hl [1, 2, 3, 4, 0] rfl) h
          intro l2 l6 H L ls hW hl h
          rw [lq2_s] at h
          unfold fX3_neededBy_b29 at h
          refine r_iload C hl 4 dX3_neededBy_29 rfl ?_
          refine r_bipush (v := 30) C dX3_neededBy_31 (by decide) ?_
          refine r_icmp_ge (tgt := 61) C dX3_neededBy_33 (by decide) (fun c33 => ?_) (fun c33 => ?_)
          · replace h := iT c33 h
            refine r_iload_n C hl 1 dX3_neededBy_61 rfl rfl ?_
            refine r_iload C hl 3 dX3_neededBy_62 rfl ?_
            refine r_icmp_eq (tgt := 71) C dX3_neededBy_64 (by decide) (fun c64 => ?_) (fun c64 => ?_)
            · replace h := iT c64 h
              refine r_iconst (v := 0) C dX3_neededBy_71 (by decide) ?_
              exact K72 l2 l4 (0 : Int32) H L ls hW (lv_sub hl [0, 1, 2] rfl) h
            · replace h := iF c64 h
              refine r_iconst (v := 1) C dX3_neededBy_67 (by decide) ?_
              refine r_goto (tgt := 72) C dX3_neededBy_68 (by decide) ?_
              exact K72 l2 l4 (1 : Int32) H L ls hW (lv_sub hl [0, 1, 2] rfl) h
          · replace h := iF c33 h
            refine r_iload_n C hl 1 dX3_neededBy_36 rfl rfl ?_
            refine r_iload C hl 4 dX3_neededBy_37 rfl ?_
            obtain ⟨r39, h39, h⟩ := bd1_some h
            refine r_SN (wr := [(ad 0, .inr (3, [.ref (ad 1), .ref (ad 2), .ref (ad 3), .ref (ad 4), .int v_known, .int v_circular, .int v_circles])), (ad 1, .inl (eI X, 30, .inl v_values)), (ad 2, .inl (eI X, 30, .inl v_heights)), (ad 3, .inl (eI X, 30, .inl v_readBits)), (ad 4, .inl (eI X, 30, .inl v_waitsFor))]) (np := 2) C hl (mX7_has X    l2 l6 r39 h39) hW [] [0, 1, 2, 3, 4] rfl rfl rfl rfl (by decide) w_cd_X7_has w_st_X7_has w_in_HeightSheet 9 rfl (by decide +kernel) rfl ⟨Nat.le_of_ble_eq_true rfl, Nat.le_of_ble_eq_true rfl⟩ ⟨Nat.zero_le _, Nat.zero_le _⟩ (Nat.le_of_ble_eq_true rfl) dX3_neededBy_39 (fun rv w1 H L hp hW => ?_) rfl
            obtain ⟨rfl, rfl⟩ := hp
            replace hW : Wd X k A [(ad 0, .inr (3, [.ref (ad 1), .ref (ad 2), .ref (ad 3), .ref (ad 4), .int v_known, .int v_circular, .int v_circles])), (ad 1, .inl (eI X, 30, .inl v_values)), (ad 2, .inl (eI X, 30, .inl v_heights)), (ad 3, .inl (eI X, 30, .inl v_readBits)), (ad 4, .inl (eI X, 30, .inl v_waitsFor))] H L := hW.sub [0, 1, 2, 3, 4] rfl rfl
            show Wx X k 0 0 H L 42 ls [.int r39]
            refine r_if_eq (tgt := 55) C dX3_neededBy_42 (by decide) (fun c42 => ?_) (fun c42 => ?_)
            · replace h := iT c42 h
              exact K55 l2 l6 H L ls hW hl h
            · replace h := iF c42 h
              refine r_iload_n C hl 1 dX3_neededBy_45 rfl rfl ?_
              refine r_aload_n C hl 0 dX3_neededBy_46 rfl rfl ?_
              refine r_get C hW 0 rfl rfl iwX3 2 (by decide) w_fl_X3_18 rfl dX3_neededBy_47 ?_
              refine r_iload C hl 4 dX3_neededBy_50 rfl ?_
              obtain ⟨x52, e52, g52, h⟩ := rd_some h
              refine r_iald C hW 3 rfl g52 e52 dX3_neededBy_52 ?_
              refine r_ior C dX3_neededBy_53 ?_
              refine r_istore_n (lv' := [(2, .int (l2 ||| x52)), (0, .ref (ad 0)), (4, .int l4), (5, .int l5), (6, .int l6)]) C hl dX3_neededBy_54 rfl (by decide) rfl (fun ls hl => ?_)
              exact K55 (l2 ||| x52) l6 H L ls hW (lv_sub hl [1, 0, 2, 3, 4] rfl) h
      intro l2 l3 l4 H L ls hW hl h
      rw [lq3_s] at h
      unfold fX3_neededBy_b12 at h
      refine r_iload_n C hl 2 dX3_neededBy_12 rfl rfl ?_
      refine r_if_eq (tgt := 79) C dX3_neededBy_13 (by decide) (fun c13 => ?_) (fun c13 => ?_)
      · replace h := iT c13 h
        refine r_iload_n C hl 1 dX3_neededBy_79 rfl rfl ?_
        exact r_iret C hq hW (by obtain rfl := Option.some.inj h; exact ⟨rfl, rfl⟩) dX3_neededBy_80
      · replace h := iF c13 h
        refine r_iload C hl 3 dX3_neededBy_16 rfl ?_
        refine r_bipush (v := 30) C dX3_neededBy_18 (by decide) ?_
        refine r_icmp_ge (tgt := 79) C dX3_neededBy_20 (by decide) (fun c20 => ?_) (fun c20 => ?_)
        · replace h := iT c20 h
          refine r_iload_n C hl 1 dX3_neededBy_79 rfl rfl ?_
          exact r_iret C hq hW (by obtain rfl := Option.some.inj h; exact ⟨rfl, rfl⟩) dX3_neededBy_80
        · replace h := iF c20 h
          refine r_iload_n C hl 1 dX3_neededBy_23 rfl rfl ?_
          refine r_istore (lv' := [(5, .int l2), (0, .ref (ad 0)), (2, .int l2), (3, .int l3), (4, .int l4)]) C hl dX3_neededBy_24 (by decide) rfl (fun ls hl => ?_)
          refine r_iconst (v := 0) C dX3_neededBy_26 (by decide) ?_
          refine r_istore (lv' := [(6, .int (0 : Int32)), (5, .int l2), (0, .ref (ad 0)), (2, .int l2), (3, .int l3), (4, .int l4)]) C hl dX3_neededBy_27 (by decide) rfl (fun ls hl => ?_)
          exact K29 l4 l2 fu l2 (0 : Int32) H L ls hW (lv_sub hl [2, 3, 5, 1, 0] rfl) h
  unfold fX3_neededBy at h
  refine r_aload_n C hl 0 dX3_neededBy_0 rfl rfl ?_
  refine r_get C hW 0 rfl rfl iwX3 2 (by decide) w_fl_X3_18 rfl dX3_neededBy_1 ?_
  refine r_iload_n C hl 1 dX3_neededBy_4 rfl rfl ?_
  obtain ⟨x5, e5, g5, h⟩ := rd_some h
  refine r_iald C hW 3 rfl g5 e5 dX3_neededBy_5 ?_
  refine r_istore_n (lv' := [(2, .int x5), (0, .ref (ad 0)), (1, .int p1)]) C hl dX3_neededBy_6 rfl (by decide) rfl (fun ls hl => ?_)
  refine r_iconst (v := 1) C dX3_neededBy_7 (by decide) ?_
  refine r_istore_n (lv' := [(3, .int (1 : Int32)), (2, .int x5), (0, .ref (ad 0)), (1, .int p1)]) C hl dX3_neededBy_8 rfl (by decide) rfl (fun ls hl => ?_)
  refine r_iconst (v := 0) C dX3_neededBy_9 (by decide) ?_
  refine r_istore (lv' := [(4, .int (0 : Int32)), (3, .int (1 : Int32)), (2, .int x5), (0, .ref (ad 0)), (1, .int p1)]) C hl dX3_neededBy_10 (by decide) rfl (fun ls hl => ?_)
  exact K12  fu x5 (1 : Int32) (0 : Int32) H L ls hW (lv_sub hl [3, 2, 1, 0] rfl) h
def fX3_hangingOn_j47 (v_readBits : (Nat → Int32)) (p1 : Int32) (self14 : Int32 → Int32 → Int32 → Option (Int32)) (l2 : Int32) (l4 : Int32) (s0 : Int32) : Option (Int32) :=
  self14 l2 s0 (l4 + (1 : Int32))
def fX3_hangingOn_b14 (v_readBits : (Nat → Int32)) (p1 : Int32)   (self14 : Int32 → Int32 → Int32 → Option (Int32)) (l2 : Int32) (l3 : Int32) (l4 : Int32) : Option (Int32) :=
  if l3 = (0 : Int32) then
    some l2
  else
    if (30 : Int32) ≤ l4 then
      some l2
    else
      bd1 (fX3_readersOf v_readBits l2) fun r31 =>
      if (l2 ||| r31) = l2 then
        fX3_hangingOn_j47 v_readBits p1 self14 (l2 ||| r31) l4 (0 : Int32)
      else
        fX3_hangingOn_j47 v_readBits p1 self14 (l2 ||| r31) l4 (1 : Int32)
def fX3_hangingOn (v_readBits : (Nat → Int32)) (p1 : Int32) : Option (Int32) :=
  bd1 (fX7_bit p1) fun r2 =>
  bd1 (fX3_readersOf v_readBits r2) fun r5 =>
  lq3 (fX3_hangingOn_b14 v_readBits p1  ) fu r5 (1 : Int32) (0 : Int32)
set_option maxRecDepth 100000 in
set_option maxHeartbeats 8000000 in
theorem mX3_hangingOn (X : Ev) (ad : Nat → Nat) (v_values : (Nat → Int32)) (v_heights : (Nat → Int32)) (v_readBits : (Nat → Int32)) (v_waitsFor : (Nat → Int32)) (v_known : Int32) (v_circular : Int32) (v_circles : Int32) (p1 : Int32) (o : Int32) (h : fX3_hangingOn v_readBits p1 = some o) : Ctr X yX3_hangingOn cX3_hangingOn 6 (some .int) 2 43 0 0 [.ref (ad 0), .int p1] [(ad 0, .inr (3, [.ref (ad 1), .ref (ad 2), .ref (ad 3), .ref (ad 4), .int v_known, .int v_circular, .int v_circles])), (ad 1, .inl (eI X, 30, .inl v_values)), (ad 2, .inl (eI X, 30, .inl v_heights)), (ad 3, .inl (eI X, 30, .inl v_readBits)), (ad 4, .inl (eI X, 30, .inl v_waitsFor))] (De (some (.int o)) [(ad 0, .inr (3, [.ref (ad 1), .ref (ad 2), .ref (ad 3), .ref (ad 4), .int v_known, .int v_circular, .int v_circles])), (ad 1, .inl (eI X, 30, .inl v_values)), (ad 2, .inl (eI X, 30, .inl v_heights)), (ad 3, .inl (eI X, 30, .inl v_readBits)), (ad 4, .inl (eI X, 30, .inl v_waitsFor))]) := by
  refine Ctr.start (by decide) (Nat.le_of_ble_eq_true rfl) (fun k A ls C hq hin hW hl => ?_)
  replace C : Cx X k cX3_hangingOn 6 (some .int) RX3 A 2 43 0 0 := C
  replace hl : lv_has ls 6 [(0, .ref (ad 0)), (1, .int p1)] := hl
  suffices hh : ∀ (H : Heap) (L : List Loc), Wd X k A [(ad 0, .inr (3, [.ref (ad 1), .ref (ad 2), .ref (ad 3), .ref (ad 4), .int v_known, .int v_circular, .int v_circles])), (ad 1, .inl (eI X, 30, .inl v_values)), (ad 2, .inl (eI X, 30, .inl v_heights)), (ad 3, .inl (eI X, 30, .inl v_readBits)), (ad 4, .inl (eI X, 30, .inl v_waitsFor))] H L → Wx X k 0 0 H L 0 ls [] from hh _ _ hW
  clear hW
  intro H L hW
  have K14 : ∀ (n14 : Nat), ∀ (l2 : Int32), ∀ (l3 : Int32), ∀ (l4 : Int32), ∀ (H : Heap) (L : List Loc) (ls : Array Slot), Wd X k A [(ad 0, .inr (3, [.ref (ad 1), .ref (ad 2), .ref (ad 3), .ref (ad 4), .int v_known, .int v_circular, .int v_circles])), (ad 1, .inl (eI X, 30, .inl v_values)), (ad 2, .inl (eI X, 30, .inl v_heights)), (ad 3, .inl (eI X, 30, .inl v_readBits)), (ad 4, .inl (eI X, 30, .inl v_waitsFor))] H L → lv_has ls 6 [(0, .ref (ad 0)), (2, .int l2), (3, .int l3), (4, .int l4)] → lq3 (fX3_hangingOn_b14 v_readBits p1  ) n14 l2 l3 l4 = some o → Wx X k 0 0 H L 14 ls [] := by
    intro n14
    induction n14 with
    | zero => intro l2 l3 l4 H L ls hW hl h; exact lq3_0 h
    | succ n14 ih14 =>
      have K47 : ∀ (l2 : Int32), ∀ (l4 : Int32), ∀ (s0 : Int32), ∀ (H : Heap) (L : List Loc) (ls : Array Slot), Wd X k A [(ad 0, .inr (3, [.ref (ad 1), .ref (ad 2), .ref (ad 3), .ref (ad 4), .int v_known, .int v_circular, .int v_circles])), (ad 1, .inl (eI X, 30, .inl v_values)), (ad 2, .inl (eI X, 30, .inl v_heights)), (ad 3, .inl (eI X, 30, .inl v_readBits)), (ad 4, .inl (eI X, 30, .inl v_waitsFor))] H L → lv_has ls 6 [(0, .ref (ad 0)), (2, .int l2), (4, .int l4)] → fX3_hangingOn_j47 v_readBits p1 (lq3 (fX3_hangingOn_b14 v_readBits p1  ) n14) l2 l4 s0 = some o → Wx X k 0 0 H L 47 ls [.int s0] := by
        intro l2 l4 s0 H L ls hW hl h
        unfold fX3_hangingOn_j47 at h
        refine r_istore_n (lv' := [(3, .int s0), (0, .ref (ad 0)), (2, .int l2), (4, .int l4)]) C hl dX3_hangingOn_47 rfl (by decide) rfl (fun ls hl => ?_)
        refine r_iinc (j := 3) (v := l4 + (1 : Int32)) (lv' := [(4, .int (l4 + (1 : Int32))), (3, .int s0), (0, .ref (ad 0)), (2, .int l2)]) C hl dX3_hangingOn_48 rfl rfl (by decide) rfl (fun ls hl => ?_)
        refine r_goto (tgt := 14) C dX3_hangingOn_51 (by decide) ?_
        exact ih14 l2 s0 (l4 + (1 : Int32)) H L ls hW (lv_sub hl [2, 3, 1, 0] rfl) h
      intro l2 l3 l4 H L ls hW hl h
      rw [lq3_s] at h
      unfold fX3_hangingOn_b14 at h
      refine r_iload_n C hl 2 dX3_hangingOn_14 rfl rfl ?_
      refine r_if_eq (tgt := 54) C dX3_hangingOn_15 (by decide) (fun c15 => ?_) (fun c15 => ?_)
      · replace h := iT c15 h
        refine r_iload_n C hl 1 dX3_hangingOn_54 rfl rfl ?_
        exact r_iret C hq hW (by obtain rfl := Option.some.inj h; exact ⟨rfl, rfl⟩) dX3_hangingOn_55
      · replace h := iF c15 h
        refine r_iload C hl 3 dX3_hangingOn_18 rfl ?_
        refine r_bipush (v := 30) C dX3_hangingOn_20 (by decide) ?_
        refine r_icmp_ge (tgt := 54) C dX3_hangingOn_22 (by decide) (fun c22 => ?_) (fun c22 => ?_)
        · replace h := iT c22 h
          refine r_iload_n C hl 1 dX3_hangingOn_54 rfl rfl ?_
          exact r_iret C hq hW (by obtain rfl := Option.some.inj h; exact ⟨rfl, rfl⟩) dX3_hangingOn_55
        · replace h := iF c22 h
          refine r_iload_n C hl 1 dX3_hangingOn_25 rfl rfl ?_
          refine r_istore (lv' := [(5, .int l2), (0, .ref (ad 0)), (2, .int l2), (3, .int l3), (4, .int l4)]) C hl dX3_hangingOn_26 (by decide) rfl (fun ls hl => ?_)
          refine r_iload_n C hl 2 dX3_hangingOn_28 rfl rfl ?_
          refine r_aload_n C hl 1 dX3_hangingOn_29 rfl rfl ?_
          refine r_iload_n C hl 2 dX3_hangingOn_30 rfl rfl ?_
          obtain ⟨r31, h31, h⟩ := bd1_some h
          refine r_V (wr := []) (np := 1) C hl (mX3_readersOf X ad  v_values v_heights v_readBits v_waitsFor v_known v_circular v_circles l2 r31 h31) hW [0, 1, 2, 3, 4] [] rfl rfl rfl rfl (by decide) 0 rfl rfl w_cd_X3_readersOf w_ml_X3_98 w_im_X3_readersOf w_sel_X3_readersOf w_in_HeightSheet_Reckoning (by decide +kernel) rfl ⟨Nat.le_of_ble_eq_true rfl, Nat.le_of_ble_eq_true rfl⟩ ⟨Nat.zero_le _, Nat.zero_le _⟩ (Nat.le_of_ble_eq_true rfl) dX3_hangingOn_31 (fun rv w1 H L hp hW => ?_) rfl
          obtain ⟨rfl, rfl⟩ := hp
          replace hW : Wd X k A [(ad 0, .inr (3, [.ref (ad 1), .ref (ad 2), .ref (ad 3), .ref (ad 4), .int v_known, .int v_circular, .int v_circles])), (ad 1, .inl (eI X, 30, .inl v_values)), (ad 2, .inl (eI X, 30, .inl v_heights)), (ad 3, .inl (eI X, 30, .inl v_readBits)), (ad 4, .inl (eI X, 30, .inl v_waitsFor))] H L := hW.sub [0, 1, 2, 3, 4] rfl rfl
          show Wx X k 0 0 H L 34 ls [.int r31, .int l2]
          refine r_ior C dX3_hangingOn_34 ?_
          refine r_istore_n (lv' := [(2, .int (l2 ||| r31)), (5, .int l2), (0, .ref (ad 0)), (3, .int l3), (4, .int l4)]) C hl dX3_hangingOn_35 rfl (by decide) rfl (fun ls hl => ?_)
          refine r_iload_n C hl 0 dX3_hangingOn_36 rfl rfl ?_
          refine r_iload C hl 1 dX3_hangingOn_37 rfl ?_
          refine r_icmp_eq (tgt := 46) C dX3_hangingOn_39 (by decide) (fun c39 => ?_) (fun c39 => ?_)
          · replace h := iT c39 h
            refine r_iconst (v := 0) C dX3_hangingOn_46 (by decide) ?_
            exact K47 (l2 ||| r31) l4 (0 : Int32) H L ls hW (lv_sub hl [2, 0, 4] rfl) h
          · replace h := iF c39 h
            refine r_iconst (v := 1) C dX3_hangingOn_42 (by decide) ?_
            refine r_goto (tgt := 47) C dX3_hangingOn_43 (by decide) ?_
            exact K47 (l2 ||| r31) l4 (1 : Int32) H L ls hW (lv_sub hl [2, 0, 4] rfl) h
  unfold fX3_hangingOn at h
  refine r_aload_n C hl 0 dX3_hangingOn_0 rfl rfl ?_
  refine r_iload_n C hl 1 dX3_hangingOn_1 rfl rfl ?_
  obtain ⟨r2, h2, h⟩ := bd1_some h
  refine r_SN (wr := [(ad 0, .inr (3, [.ref (ad 1), .ref (ad 2), .ref (ad 3), .ref (ad 4), .int v_known, .int v_circular, .int v_circles])), (ad 1, .inl (eI X, 30, .inl v_values)), (ad 2, .inl (eI X, 30, .inl v_heights)), (ad 3, .inl (eI X, 30, .inl v_readBits)), (ad 4, .inl (eI X, 30, .inl v_waitsFor))]) (np := 1) C hl (mX7_bit X    p1 r2 h2) hW [] [0, 1, 2, 3, 4] rfl rfl rfl rfl (by decide) w_cd_X7_bit w_st_X7_bit w_in_HeightSheet 11 rfl (by decide +kernel) rfl ⟨Nat.le_of_ble_eq_true rfl, Nat.le_of_ble_eq_true rfl⟩ ⟨Nat.zero_le _, Nat.zero_le _⟩ (Nat.le_of_ble_eq_true rfl) dX3_hangingOn_2 (fun rv w1 H L hp hW => ?_) rfl
  obtain ⟨rfl, rfl⟩ := hp
  replace hW : Wd X k A [(ad 0, .inr (3, [.ref (ad 1), .ref (ad 2), .ref (ad 3), .ref (ad 4), .int v_known, .int v_circular, .int v_circles])), (ad 1, .inl (eI X, 30, .inl v_values)), (ad 2, .inl (eI X, 30, .inl v_heights)), (ad 3, .inl (eI X, 30, .inl v_readBits)), (ad 4, .inl (eI X, 30, .inl v_waitsFor))] H L := hW.sub [0, 1, 2, 3, 4] rfl rfl
  show Wx X k 0 0 H L 5 ls [.int r2, .ref (ad 0)]
  obtain ⟨r5, h5, h⟩ := bd1_some h
  refine r_V (wr := []) (np := 1) C hl (mX3_readersOf X ad  v_values v_heights v_readBits v_waitsFor v_known v_circular v_circles r2 r5 h5) hW [0, 1, 2, 3, 4] [] rfl rfl rfl rfl (by decide) 0 rfl rfl w_cd_X3_readersOf w_ml_X3_98 w_im_X3_readersOf w_sel_X3_readersOf w_in_HeightSheet_Reckoning (by decide +kernel) rfl ⟨Nat.le_of_ble_eq_true rfl, Nat.le_of_ble_eq_true rfl⟩ ⟨Nat.zero_le _, Nat.zero_le _⟩ (Nat.le_of_ble_eq_true rfl) dX3_hangingOn_5 (fun rv w1 H L hp hW => ?_) rfl
  obtain ⟨rfl, rfl⟩ := hp
  replace hW : Wd X k A [(ad 0, .inr (3, [.ref (ad 1), .ref (ad 2), .ref (ad 3), .ref (ad 4), .int v_known, .int v_circular, .int v_circles])), (ad 1, .inl (eI X, 30, .inl v_values)), (ad 2, .inl (eI X, 30, .inl v_heights)), (ad 3, .inl (eI X, 30, .inl v_readBits)), (ad 4, .inl (eI X, 30, .inl v_waitsFor))] H L := hW.sub [0, 1, 2, 3, 4] rfl rfl
  show Wx X k 0 0 H L 8 ls [.int r5]
  refine r_istore_n (lv' := [(2, .int r5), (0, .ref (ad 0)), (1, .int p1)]) C hl dX3_hangingOn_8 rfl (by decide) rfl (fun ls hl => ?_)
  refine r_iconst (v := 1) C dX3_hangingOn_9 (by decide) ?_
  refine r_istore_n (lv' := [(3, .int (1 : Int32)), (2, .int r5), (0, .ref (ad 0)), (1, .int p1)]) C hl dX3_hangingOn_10 rfl (by decide) rfl (fun ls hl => ?_)
  refine r_iconst (v := 0) C dX3_hangingOn_11 (by decide) ?_
  refine r_istore (lv' := [(4, .int (0 : Int32)), (3, .int (1 : Int32)), (2, .int r5), (0, .ref (ad 0)), (1, .int p1)]) C hl dX3_hangingOn_12 (by decide) rfl (fun ls hl => ?_)
  exact K14  fu r5 (1 : Int32) (0 : Int32) H L ls hW (lv_sub hl [3, 2, 1, 0] rfl) h
def fX3_movedTo_j56 (v_values : (Nat → Int32)) (v_known : Int32) (u_values : (Nat → Int32)) (u_known : Int32) (self12 : Int32 → Int32 → Option (Int32)) (l2 : Int32) (l3 : Int32) : Option (Int32) :=
  self12 l2 (l3 + (1 : Int32))
def fX3_movedTo_b12 (v_values : (Nat → Int32)) (v_known : Int32) (u_values : (Nat → Int32)) (u_known : Int32)   (self12 : Int32 → Int32 → Option (Int32)) (l2 : Int32) (l3 : Int32) : Option (Int32) :=
  if (30 : Int32) ≤ l3 then
    some l2
  else
    bd1 (fX7_has (v_known &&& u_known) l3) fun r28 =>
    if r28 = (0 : Int32) then
      fX3_movedTo_j56 v_values v_known u_values u_known self12 l2 l3
    else
      rd v_values 30 l3 fun x39 =>
      rd u_values 30 l3 fun x45 =>
      if x39 = x45 then
        fX3_movedTo_j56 v_values v_known u_values u_known self12 l2 l3
      else
        bd1 (fX7_bit l3) fun r51 =>
        fX3_movedTo_j56 v_values v_known u_values u_known self12 (l2 ||| r51) l3
def fX3_movedTo (v_values : (Nat → Int32)) (v_known : Int32) (u_values : (Nat → Int32)) (u_known : Int32) : Option (Int32) :=
  lq2 (fX3_movedTo_b12 v_values v_known u_values u_known  ) fu (v_known ^^^ u_known) (0 : Int32)
set_option maxRecDepth 100000 in
set_option maxHeartbeats 8000000 in
theorem mX3_movedTo (X : Ev) (ad : Nat → Nat) (be : Nat → Nat) (v_values : (Nat → Int32)) (v_heights : (Nat → Int32)) (v_readBits : (Nat → Int32)) (v_waitsFor : (Nat → Int32)) (v_known : Int32) (v_circular : Int32) (v_circles : Int32) (u_values : (Nat → Int32)) (u_heights : (Nat → Int32)) (u_readBits : (Nat → Int32)) (u_waitsFor : (Nat → Int32)) (u_known : Int32) (u_circular : Int32) (u_circles : Int32)  (o : Int32) (h : fX3_movedTo v_values v_known u_values u_known = some o) : Ctr X yX3_movedTo cX3_movedTo 4 (some .int) 1 21 0 0 [.ref (ad 0), .ref (be 0)] [(ad 0, .inr (3, [.ref (ad 1), .ref (ad 2), .ref (ad 3), .ref (ad 4), .int v_known, .int v_circular, .int v_circles])), (ad 1, .inl (eI X, 30, .inl v_values)), (ad 2, .inl (eI X, 30, .inl v_heights)), (ad 3, .inl (eI X, 30, .inl v_readBits)), (ad 4, .inl (eI X, 30, .inl v_waitsFor)), (be 0, .inr (3, [.ref (be 1), .ref (be 2), .ref (be 3), .ref (be 4), .int u_known, .int u_circular, .int u_circles])), (be 1, .inl (eI X, 30, .inl u_values)), (be 2, .inl (eI X, 30, .inl u_heights)), (be 3, .inl (eI X, 30, .inl u_readBits)), (be 4, .inl (eI X, 30, .inl u_waitsFor))] (De (some (.int o)) [(ad 0, .inr (3, [.ref (ad 1), .ref (ad 2), .ref (ad 3), .ref (ad 4), .int v_known, .int v_circular, .int v_circles])), (ad 1, .inl (eI X, 30, .inl v_values)), (ad 2, .inl (eI X, 30, .inl v_heights)), (ad 3, .inl (eI X, 30, .inl v_readBits)), (ad 4, .inl (eI X, 30, .inl v_waitsFor)), (be 0, .inr (3, [.ref (be 1), .ref (be 2), .ref (be 3), .ref (be 4), .int u_known, .int u_circular, .int u_circles])), (be 1, .inl (eI X, 30, .inl u_values)), (be 2, .inl (eI X, 30, .inl u_heights)), (be 3, .inl (eI X, 30, .inl u_readBits)), (be 4, .inl (eI X, 30, .inl u_waitsFor))]) := by
  refine Ctr.start (by decide) (Nat.le_of_ble_eq_true rfl) (fun k A ls C hq hin hW hl => ?_)
  replace C : Cx X k cX3_movedTo 4 (some .int) RX3 A 1 21 0 0 := C
  replace hl : lv_has ls 4 [(0, .ref (ad 0)), (1, .ref (be 0))] := hl
  suffices hh : ∀ (H : Heap) (L : List Loc), Wd X k A [(ad 0, .inr (3, [.ref (ad 1), .ref (ad 2), .ref (ad 3), .ref (ad 4), .int v_known, .int v_circular, .int v_circles])), (ad 1, .inl (eI X, 30, .inl v_values)), (ad 2, .inl (eI X, 30, .inl v_heights)), (ad 3, .inl (eI X, 30, .inl v_readBits)), (ad 4, .inl (eI X, 30, .inl v_waitsFor)), (be 0, .inr (3, [.ref (be 1), .ref (be 2), .ref (be 3), .ref (be 4), .int u_known, .int u_circular, .int u_circles])), (be 1, .inl (eI X, 30, .inl u_values)), (be 2, .inl (eI X, 30, .inl u_heights)), (be 3, .inl (eI X, 30, .inl u_readBits)), (be 4, .inl (eI X, 30, .inl u_waitsFor))] H L → Wx X k 0 0 H L 0 ls [] from hh _ _ hW
  clear hW
  intro H L hW
  have K12 : ∀ (n12 : Nat), ∀ (l2 : Int32), ∀ (l3 : Int32), ∀ (H : Heap) (L : List Loc) (ls : Array Slot), Wd X k A [(ad 0, .inr (3, [.ref (ad 1), .ref (ad 2), .ref (ad 3), .ref (ad 4), .int v_known, .int v_circular, .int v_circles])), (ad 1, .inl (eI X, 30, .inl v_values)), (ad 2, .inl (eI X, 30, .inl v_heights)), (ad 3, .inl (eI X, 30, .inl v_readBits)), (ad 4, .inl (eI X, 30, .inl v_waitsFor)), (be 0, .inr (3, [.ref (be 1), .ref (be 2), .ref (be 3), .ref (be 4), .int u_known, .int u_circular, .int u_circles])), (be 1, .inl (eI X, 30, .inl u_values)), (be 2, .inl (eI X, 30, .inl u_heights)), (be 3, .inl (eI X, 30, .inl u_readBits)), (be 4, .inl (eI X, 30, .inl u_waitsFor))] H L → lv_has ls 4 [(0, .ref (ad 0)), (1, .ref (be 0)), (2, .int l2), (3, .int l3)] → lq2 (fX3_movedTo_b12 v_values v_known u_values u_known  ) n12 l2 l3 = some o → Wx X k 0 0 H L 12 ls [] := by
    intro n12
    induction n12 with
    | zero => intro l2 l3 H L ls hW hl h; exact lq2_0 h
    | succ n12 ih12 =>
      have K56 : ∀ (l2 : Int32), ∀ (l3 : Int32), ∀ (H : Heap) (L : List Loc) (ls : Array Slot), Wd X k A [(ad 0, .inr (3, [.ref (ad 1), .ref (ad 2), .ref (ad 3), .ref (ad 4), .int v_known, .int v_circular, .int v_circles])), (ad 1, .inl (eI X, 30, .inl v_values)), (ad 2, .inl (eI X, 30, .inl v_heights)), (ad 3, .inl (eI X, 30, .inl v_readBits)), (ad 4, .inl (eI X, 30, .inl v_waitsFor)), (be 0, .inr (3, [.ref (be 1), .ref (be 2), .ref (be 3), .ref (be 4), .int u_known, .int u_circular, .int u_circles])), (be 1, .inl (eI X, 30, .inl u_values)), (be 2, .inl (eI X, 30, .inl u_heights)), (be 3, .inl (eI X, 30, .inl u_readBits)), (be 4, .inl (eI X, 30, .inl u_waitsFor))] H L → lv_has ls 4 [(0, .ref (ad 0)), (1, .ref (be 0)), (2, .int l2), (3, .int l3)] → fX3_movedTo_j56 v_values v_known u_values u_known (lq2 (fX3_movedTo_b12 v_values v_known u_values u_known  ) n12) l2 l3 = some o → Wx X k 0 0 H L 56 ls [] := by
        intro l2 l3 H L ls hW hl h
        unfold fX3_movedTo_j56 at h
        refine r_iinc (j := 3) (v := l3 + (1 : Int32)) (lv' := [(3, .int (l3 + (1 : Int32))), (0, .ref (ad 0)), (1, .ref (be 0)), (2, .int l2)]) C hl dX3_movedTo_56 rfl rfl (by decide) rfl (fun ls hl => ?_)
        refine r_goto (tgt := 12) C dX3_movedTo_59 (by decide) ?_
        exact ih12 l2 (l3 + (1 : Int32)) H L ls hW (lv_sub hl [1, 2, 3, 0] rfl) h
      intro l2 l3 H L ls hW hl h
      rw [lq2_s] at h
      unfold fX3_movedTo_b12 at h
      refine r_iload_n C hl 3 dX3_movedTo_12 rfl rfl ?_
      refine r_bipush (v := 30) C dX3_movedTo_13 (by decide) ?_
      refine r_icmp_ge (tgt := 62) C dX3_movedTo_15 (by decide) (fun c15 => ?_) (fun c15 => ?_)
      · replace h := iT c15 h
        refine r_iload_n C hl 2 dX3_movedTo_62 rfl rfl ?_
        exact r_iret C hq hW (by obtain rfl := Option.some.inj h; exact ⟨rfl, rfl⟩) dX3_movedTo_63
      · replace h := iF c15 h
        refine r_aload_n C hl 0 dX3_movedTo_18 rfl rfl ?_
        refine r_get C hW 0 rfl rfl iwX3 4 (by decide) w_fl_X3_30 rfl dX3_movedTo_19 ?_
        refine r_aload_n C hl 1 dX3_movedTo_22 rfl rfl ?_
        refine r_get C hW 5 rfl rfl iwX3 4 (by decide) w_fl_X3_30 rfl dX3_movedTo_23 ?_
        refine r_iand C dX3_movedTo_26 ?_
        refine r_iload_n C hl 3 dX3_movedTo_27 rfl rfl ?_
        obtain ⟨r28, h28, h⟩ := bd1_some h
        refine r_SN (wr := [(ad 0, .inr (3, [.ref (ad 1), .ref (ad 2), .ref (ad 3), .ref (ad 4), .int v_known, .int v_circular, .int v_circles])), (ad 1, .inl (eI X, 30, .inl v_values)), (ad 2, .inl (eI X, 30, .inl v_heights)), (ad 3, .inl (eI X, 30, .inl v_readBits)), (ad 4, .inl (eI X, 30, .inl v_waitsFor)), (be 0, .inr (3, [.ref (be 1), .ref (be 2), .ref (be 3), .ref (be 4), .int u_known, .int u_circular, .int u_circles])), (be 1, .inl (eI X, 30, .inl u_values)), (be 2, .inl (eI X, 30, .inl u_heights)), (be 3, .inl (eI X, 30, .inl u_readBits)), (be 4, .inl (eI X, 30, .inl u_waitsFor))]) (np := 2) C hl (mX7_has X    (v_known &&& u_known) l3 r28 h28) hW [] [0, 1, 2, 3, 4, 5, 6, 7, 8, 9] rfl rfl rfl rfl (by decide) w_cd_X7_has w_st_X7_has w_in_HeightSheet 9 rfl (by decide +kernel) rfl ⟨Nat.le_of_ble_eq_true rfl, Nat.le_of_ble_eq_true rfl⟩ ⟨Nat.zero_le _, Nat.zero_le _⟩ (Nat.le_of_ble_eq_true rfl) dX3_movedTo_28 (fun rv w1 H L hp hW => ?_) rfl
        obtain ⟨rfl, rfl⟩ := hp
        replace hW : Wd X k A [(ad 0, .inr (3, [.ref (ad 1), .ref (ad 2), .ref (ad 3), .ref (ad 4), .int v_known, .int v_circular, .int v_circles])), (ad 1, .inl (eI X, 30, .inl v_values)), (ad 2, .inl (eI X, 30, .inl v_heights)), (ad 3, .inl (eI X, 30, .inl v_readBits)), (ad 4, .inl (eI X, 30, .inl v_waitsFor)), (be 0, .inr (3, [.ref (be 1), .ref (be 2), .ref (be 3), .ref (be 4), .int u_known, .int u_circular, .int u_circles])), (be 1, .inl (eI X, 30, .inl u_values)), (be 2, .inl (eI X, 30, .inl u_heights)), (be 3, .inl (eI X, 30, .inl u_readBits)), (be 4, .inl (eI X, 30, .inl u_waitsFor))] H L := hW.sub [0, 1, 2, 3, 4, 5, 6, 7, 8, 9] rfl rfl
        show Wx X k 0 0 H L 31 ls [.int r28]
        refine r_if_eq (tgt := 56) C dX3_movedTo_31 (by decide) (fun c31 => ?_) (fun c31 => ?_)
        · replace h := iT c31 h
          exact K56 l2 l3 H L ls hW hl h
        · replace h := iF c31 h
          refine r_aload_n C hl 0 dX3_movedTo_34 rfl rfl ?_
          refine r_get C hW 0 rfl rfl iwX3 0 (by decide) w_fl_X3_9 rfl dX3_movedTo_35 ?_
          refine r_iload_n C hl 3 dX3_movedTo_38 rfl rfl ?_
          obtain ⟨x39, e39, g39, h⟩ := rd_some h
          refine r_iald C hW 1 rfl g39 e39 dX3_movedTo_39 ?_
          refine r_aload_n C hl 1 dX3_movedTo_40 rfl rfl ?_
          refine r_get C hW 5 rfl rfl iwX3 0 (by decide) w_fl_X3_9 rfl dX3_movedTo_41 ?_
          refine r_iload_n C hl 3 dX3_movedTo_44 rfl rfl ?_
          obtain ⟨x45, e45, g45, h⟩ := rd_some h
          refine r_iald C hW 6 rfl g45 e45 dX3_movedTo_45 ?_
          refine r_icmp_eq (tgt := 56) C dX3_movedTo_46 (by decide) (fun c46 => ?_) (fun c46 => ?_)
          · replace h := iT c46 h
            exact K56 l2 l3 H L ls hW hl h
          · replace h := iF c46 h
            refine r_iload_n C hl 2 dX3_movedTo_49 rfl rfl ?_
            refine r_iload_n C hl 3 dX3_movedTo_50 rfl rfl ?_
            obtain ⟨r51, h51, h⟩ := bd1_some h
            refine r_SN (wr := [(ad 0, .inr (3, [.ref (ad 1), .ref (ad 2), .ref (ad 3), .ref (ad 4), .int v_known, .int v_circular, .int v_circles])), (ad 1, .inl (eI X, 30, .inl v_values)), (ad 2, .inl (eI X, 30, .inl v_heights)), (ad 3, .inl (eI X, 30, .inl v_readBits)), (ad 4, .inl (eI X, 30, .inl v_waitsFor)), (be 0, .inr (3, [.ref (be 1), .ref (be 2), .ref (be 3), .ref (be 4), .int u_known, .int u_circular, .int u_circles])), (be 1, .inl (eI X, 30, .inl u_values)), (be 2, .inl (eI X, 30, .inl u_heights)), (be 3, .inl (eI X, 30, .inl u_readBits)), (be 4, .inl (eI X, 30, .inl u_waitsFor))]) (np := 1) C hl (mX7_bit X    l3 r51 h51) hW [] [0, 1, 2, 3, 4, 5, 6, 7, 8, 9] rfl rfl rfl rfl (by decide) w_cd_X7_bit w_st_X7_bit w_in_HeightSheet 11 rfl (by decide +kernel) rfl ⟨Nat.le_of_ble_eq_true rfl, Nat.le_of_ble_eq_true rfl⟩ ⟨Nat.zero_le _, Nat.zero_le _⟩ (Nat.le_of_ble_eq_true rfl) dX3_movedTo_51 (fun rv w1 H L hp hW => ?_) rfl
            obtain ⟨rfl, rfl⟩ := hp
            replace hW : Wd X k A [(ad 0, .inr (3, [.ref (ad 1), .ref (ad 2), .ref (ad 3), .ref (ad 4), .int v_known, .int v_circular, .int v_circles])), (ad 1, .inl (eI X, 30, .inl v_values)), (ad 2, .inl (eI X, 30, .inl v_heights)), (ad 3, .inl (eI X, 30, .inl v_readBits)), (ad 4, .inl (eI X, 30, .inl v_waitsFor)), (be 0, .inr (3, [.ref (be 1), .ref (be 2), .ref (be 3), .ref (be 4), .int u_known, .int u_circular, .int u_circles])), (be 1, .inl (eI X, 30, .inl u_values)), (be 2, .inl (eI X, 30, .inl u_heights)), (be 3, .inl (eI X, 30, .inl u_readBits)), (be 4, .inl (eI X, 30, .inl u_waitsFor))] H L := hW.sub [0, 1, 2, 3, 4, 5, 6, 7, 8, 9] rfl rfl
            show Wx X k 0 0 H L 54 ls [.int r51, .int l2]
            refine r_ior C dX3_movedTo_54 ?_
            refine r_istore_n (lv' := [(2, .int (l2 ||| r51)), (0, .ref (ad 0)), (1, .ref (be 0)), (3, .int l3)]) C hl dX3_movedTo_55 rfl (by decide) rfl (fun ls hl => ?_)
            exact K56 (l2 ||| r51) l3 H L ls hW (lv_sub hl [1, 2, 0, 3] rfl) h
  unfold fX3_movedTo at h
  refine r_aload_n C hl 0 dX3_movedTo_0 rfl rfl ?_
  refine r_get C hW 0 rfl rfl iwX3 4 (by decide) w_fl_X3_30 rfl dX3_movedTo_1 ?_
  refine r_aload_n C hl 1 dX3_movedTo_4 rfl rfl ?_
  refine r_get C hW 5 rfl rfl iwX3 4 (by decide) w_fl_X3_30 rfl dX3_movedTo_5 ?_
  refine r_ixor C dX3_movedTo_8 ?_
  refine r_istore_n (lv' := [(2, .int (v_known ^^^ u_known)), (0, .ref (ad 0)), (1, .ref (be 0))]) C hl dX3_movedTo_9 rfl (by decide) rfl (fun ls hl => ?_)
  refine r_iconst (v := 0) C dX3_movedTo_10 (by decide) ?_
  refine r_istore_n (lv' := [(3, .int (0 : Int32)), (2, .int (v_known ^^^ u_known)), (0, .ref (ad 0)), (1, .ref (be 0))]) C hl dX3_movedTo_11 rfl (by decide) rfl (fun ls hl => ?_)
  exact K12  fu (v_known ^^^ u_known) (0 : Int32) H L ls hW (lv_sub hl [2, 3, 1, 0] rfl) h
