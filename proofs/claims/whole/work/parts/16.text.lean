def fX5_isWord_b28 (v_bytes : (Nat → Int32)) (v_at : Int32) (v_start : Int32) (v_token : Int32) (q1 : Nat)   (self28 : Int32 → Option (Int32)) (l2 : Int32) : Option (Int32) :=
  bd1 (fJ0_length_8abf5 q1) fun r30 =>
  if r30 ≤ l2 then
    some (1 : Int32)
  else
    rd v_bytes 320 (v_start + l2) fun x46 =>
    bd1 (fJ0_charAt_5068e q1 l2) fun r49 =>
    if x46 = r49 then
      self28 (l2 + (1 : Int32))
    else
      some (0 : Int32)
def fX5_isWord (v_bytes : (Nat → Int32)) (v_at : Int32) (v_start : Int32) (v_token : Int32) (q1 : Nat) : Option (Int32) :=
  if v_token = (1 : Int32) then
    bd1 (fJ0_length_8abf5 q1) fun r18 =>
    if (v_at - v_start) = r18 then
      lq1 (fX5_isWord_b28 v_bytes v_at v_start v_token q1  ) fu (0 : Int32)
    else
      some (0 : Int32)
  else
    some (0 : Int32)
set_option maxRecDepth 100000 in
set_option maxHeartbeats 8000000 in
theorem mX5_isWord (X : Ev) (ad : Nat → Nat) (v_bytes : (Nat → Int32)) (v_size : Int32) (v_at : Int32) (v_start : Int32) (v_token : Int32) (v_number : Int32) (q1 : Nat) (o : Int32) (h : fX5_isWord v_bytes v_at v_start v_token q1 = some o) : Ctr X yX5_isWord cX5_isWord 3 (some .boolean) 4 85 0 0 [.ref (ad 0), .ref (eK X q1)] [(ad 0, .inr (5, [.ref (ad 1), .int v_size, .int v_at, .int v_start, .int v_token, .int v_number])), (ad 1, .inl (eB X, 320, .inl v_bytes))] (De (some (.int o)) [(ad 0, .inr (5, [.ref (ad 1), .int v_size, .int v_at, .int v_start, .int v_token, .int v_number])), (ad 1, .inl (eB X, 320, .inl v_bytes))]) := by
  refine Ctr.start (by decide) (Nat.le_of_ble_eq_true rfl) (fun k A ls C hq hin hW hl => ?_)
  replace C : Cx X k cX5_isWord 3 (some .boolean) RX5 A 4 85 0 0 := C
  replace hl : lv_has ls 3 [(0, .ref (ad 0)), (1, .ref (eK X q1))] := hl
  suffices hh : ∀ (H : Heap) (L : List Loc), Wd X k A [(ad 0, .inr (5, [.ref (ad 1), .int v_size, .int v_at, .int v_start, .int v_token, .int v_number])), (ad 1, .inl (eB X, 320, .inl v_bytes))] H L → Wx X k 0 0 H L 0 ls [] from hh _ _ hW
  clear hW
  intro H L hW
  have K28 : ∀ (n28 : Nat), ∀ (l2 : Int32), ∀ (H : Heap) (L : List Loc) (ls : Array Slot), Wd X k A [(ad 0, .inr (5, [.ref (ad 1), .int v_size, .int v_at, .int v_start, .int v_token, .int v_number])), (ad 1, .inl (eB X, 320, .inl v_bytes))] H L → lv_has ls 3 [(0, .ref (ad 0)), (1, .ref (eK X q1)), (2, .int l2)] → lq1 (fX5_isWord_b28 v_bytes v_at v_start v_token q1  ) n28 l2 = some o → Wx X k 0 0 H L 28 ls [] := by
    intro n28
    induction n28 with
    | zero => intro l2 H L ls hW hl h; exact lq1_0 h
    | succ n28 ih28 =>
      intro l2 H L ls hW hl h
      rw [lq1_s] at h
      unfold fX5_isWord_b28 at h
      refine r_iload_n C hl 2 dX5_isWord_28 rfl rfl ?_
      refine r_aload_n C hl 1 dX5_isWord_29 rfl rfl ?_
      obtain ⟨r30, h30, h⟩ := bd1_some h
      refine r_VS (np := 0) (As := []) C hl (mJ0_length_8abf5 X    q1 r30 h30) hW (fJ0_length_lt h30) w_cd_J0_length_8abf5 w_ml_X5_44 w_im_J0_length_8abf5 w_sel_J0_length_8abf5 w_in_java_lang_String (by decide +kernel) rfl ⟨Nat.le_of_ble_eq_true rfl, Nat.le_of_ble_eq_true rfl⟩ ⟨Nat.zero_le _, Nat.zero_le _⟩ (Nat.le_of_ble_eq_true rfl) dX5_isWord_30 (fun H L hW => ?_) rfl
      show Wx X k 0 0 H L 33 ls [.int r30, .int l2]
      refine r_icmp_ge (tgt := 63) C dX5_isWord_33 (by decide) (fun c33 => ?_) (fun c33 => ?_)
      · replace h := iT c33 h
        refine r_iconst (v := 1) C dX5_isWord_63 (by decide) ?_
        exact r_zret C hq hW (by decide) (by obtain rfl := Option.some.inj h; exact ⟨rfl, rfl⟩) dX5_isWord_64
      · replace h := iF c33 h
        refine r_aload_n C hl 0 dX5_isWord_36 rfl rfl ?_
        refine r_get C hW 0 rfl rfl iwX5 0 (by decide) w_fl_X5_9 rfl dX5_isWord_37 ?_
        refine r_aload_n C hl 0 dX5_isWord_40 rfl rfl ?_
        refine r_get C hW 0 rfl rfl iwX5 3 (by decide) w_fl_X5_22 rfl dX5_isWord_41 ?_
        refine r_iload_n C hl 2 dX5_isWord_44 rfl rfl ?_
        refine r_iadd C dX5_isWord_45 ?_
        obtain ⟨x46, e46, g46, h⟩ := rd_some h
        refine r_bald C hW 1 rfl g46 e46 dX5_isWord_46 ?_
        refine r_aload_n C hl 1 dX5_isWord_47 rfl rfl ?_
        refine r_iload_n C hl 2 dX5_isWord_48 rfl rfl ?_
        obtain ⟨r49, h49, h⟩ := bd1_some h
        refine r_VS (np := 1) (As := [.int l2]) C hl (mJ0_charAt_5068e X    q1 l2 r49 h49) hW (fJ0_charAt_lt h49) w_cd_J0_charAt_5068e w_ml_X5_50 w_im_J0_charAt_5068e w_sel_J0_charAt_5068e w_in_java_lang_String (by decide +kernel) rfl ⟨Nat.le_of_ble_eq_true rfl, Nat.le_of_ble_eq_true rfl⟩ ⟨Nat.zero_le _, Nat.zero_le _⟩ (Nat.le_of_ble_eq_true rfl) dX5_isWord_49 (fun H L hW => ?_) rfl
        show Wx X k 0 0 H L 52 ls [.int r49, .int x46]
        refine r_icmp_eq (tgt := 57) C dX5_isWord_52 (by decide) (fun c52 => ?_) (fun c52 => ?_)
        · replace h := iT c52 h
          refine r_iinc (j := 2) (v := l2 + (1 : Int32)) (lv' := [(2, .int (l2 + (1 : Int32))), (0, .ref (ad 0)), (1, .ref (eK X q1))]) C hl dX5_isWord_57 rfl rfl (by decide) rfl (fun ls hl => ?_)
          refine r_goto (tgt := 28) C dX5_isWord_60 (by decide) ?_
          exact ih28 (l2 + (1 : Int32)) H L ls hW (lv_sub hl [1, 2, 0] rfl) h
        · replace h := iF c52 h
          refine r_iconst (v := 0) C dX5_isWord_55 (by decide) ?_
          exact r_zret C hq hW (by decide) (by obtain rfl := Option.some.inj h; exact ⟨rfl, rfl⟩) dX5_isWord_56
  unfold fX5_isWord at h
  refine r_aload_n C hl 0 dX5_isWord_0 rfl rfl ?_
  refine r_get C hW 0 rfl rfl iwX5 4 (by decide) w_fl_X5_25 rfl dX5_isWord_1 ?_
  refine r_iconst (v := 1) C dX5_isWord_4 (by decide) ?_
  refine r_icmp_ne (tgt := 24) C dX5_isWord_5 (by decide) (fun c5 => ?_) (fun c5 => ?_)
  · replace h := iF c5 h
    refine r_iconst (v := 0) C dX5_isWord_24 (by decide) ?_
    exact r_zret C hq hW (by decide) (by obtain rfl := Option.some.inj h; exact ⟨rfl, rfl⟩) dX5_isWord_25
  · replace h := iT c5 h
    refine r_aload_n C hl 0 dX5_isWord_8 rfl rfl ?_
    refine r_get C hW 0 rfl rfl iwX5 2 (by decide) w_fl_X5_19 rfl dX5_isWord_9 ?_
    refine r_aload_n C hl 0 dX5_isWord_12 rfl rfl ?_
    refine r_get C hW 0 rfl rfl iwX5 3 (by decide) w_fl_X5_22 rfl dX5_isWord_13 ?_
    refine r_isub C dX5_isWord_16 ?_
    refine r_aload_n C hl 1 dX5_isWord_17 rfl rfl ?_
    obtain ⟨r18, h18, h⟩ := bd1_some h
    refine r_VS (np := 0) (As := []) C hl (mJ0_length_8abf5 X    q1 r18 h18) hW (fJ0_length_lt h18) w_cd_J0_length_8abf5 w_ml_X5_44 w_im_J0_length_8abf5 w_sel_J0_length_8abf5 w_in_java_lang_String (by decide +kernel) rfl ⟨Nat.le_of_ble_eq_true rfl, Nat.le_of_ble_eq_true rfl⟩ ⟨Nat.zero_le _, Nat.zero_le _⟩ (Nat.le_of_ble_eq_true rfl) dX5_isWord_18 (fun H L hW => ?_) rfl
    show Wx X k 0 0 H L 21 ls [.int r18, .int (v_at - v_start)]
    refine r_icmp_eq (tgt := 26) C dX5_isWord_21 (by decide) (fun c21 => ?_) (fun c21 => ?_)
    · replace h := iT c21 h
      refine r_iconst (v := 0) C dX5_isWord_26 (by decide) ?_
      refine r_istore_n (lv' := [(2, .int (0 : Int32)), (0, .ref (ad 0)), (1, .ref (eK X q1))]) C hl dX5_isWord_27 rfl (by decide) rfl (fun ls hl => ?_)
      exact K28  fu (0 : Int32) H L ls hW (lv_sub hl [1, 2, 0] rfl) h
    · replace h := iF c21 h
      refine r_iconst (v := 0) C dX5_isWord_24 (by decide) ?_
      exact r_zret C hq hW (by decide) (by obtain rfl := Option.some.inj h; exact ⟨rfl, rfl⟩) dX5_isWord_25
def fX6_kindTold_b2 (u_bytes : (Nat → Int32)) (u_at : Int32) (u_start : Int32) (u_token : Int32)   (self2 : Int32 → Option (Int32)) (l1 : Int32) : Option (Int32) :=
  if (9 : Int32) ≤ l1 then
    some (0 : Int32)
  else
    bd1 (fX6_wordOf l1) fun r10 =>
    bd1 (fX5_isWord u_bytes u_at u_start u_token r10) fun r13 =>
    if r13 = (0 : Int32) then
      self2 (l1 + (1 : Int32))
    else
      some l1
def fX6_kindTold (u_bytes : (Nat → Int32)) (u_at : Int32) (u_start : Int32) (u_token : Int32) : Option (Int32) :=
  lq1 (fX6_kindTold_b2 u_bytes u_at u_start u_token  ) fu (1 : Int32)
set_option maxRecDepth 100000 in
set_option maxHeartbeats 8000000 in
theorem mX6_kindTold (X : Ev) (ad : Nat → Nat) (u_bytes : (Nat → Int32)) (u_size : Int32) (u_at : Int32) (u_start : Int32) (u_token : Int32) (u_number : Int32)  (o : Int32) (h : fX6_kindTold u_bytes u_at u_start u_token = some o) : Ctr X yX6_kindTold cX6_kindTold 2 (some .int) 5 107 0 0 [.ref (ad 0)] [(ad 0, .inr (5, [.ref (ad 1), .int u_size, .int u_at, .int u_start, .int u_token, .int u_number])), (ad 1, .inl (eB X, 320, .inl u_bytes))] (De (some (.int o)) [(ad 0, .inr (5, [.ref (ad 1), .int u_size, .int u_at, .int u_start, .int u_token, .int u_number])), (ad 1, .inl (eB X, 320, .inl u_bytes))]) := by
  refine Ctr.start (by decide) (Nat.le_of_ble_eq_true rfl) (fun k A ls C hq hin hW hl => ?_)
  replace C : Cx X k cX6_kindTold 2 (some .int) RX6 A 5 107 0 0 := C
  replace hl : lv_has ls 2 [(0, .ref (ad 0))] := hl
  suffices hh : ∀ (H : Heap) (L : List Loc), Wd X k A [(ad 0, .inr (5, [.ref (ad 1), .int u_size, .int u_at, .int u_start, .int u_token, .int u_number])), (ad 1, .inl (eB X, 320, .inl u_bytes))] H L → Wx X k 0 0 H L 0 ls [] from hh _ _ hW
  clear hW
  intro H L hW
  have K2 : ∀ (n2 : Nat), ∀ (l1 : Int32), ∀ (H : Heap) (L : List Loc) (ls : Array Slot), Wd X k A [(ad 0, .inr (5, [.ref (ad 1), .int u_size, .int u_at, .int u_start, .int u_token, .int u_number])), (ad 1, .inl (eB X, 320, .inl u_bytes))] H L → lv_has ls 2 [(0, .ref (ad 0)), (1, .int l1)] → lq1 (fX6_kindTold_b2 u_bytes u_at u_start u_token  ) n2 l1 = some o → Wx X k 0 0 H L 2 ls [] := by
    intro n2
    induction n2 with
    | zero => intro l1 H L ls hW hl h; exact lq1_0 h
    | succ n2 ih2 =>
      intro l1 H L ls hW hl h
      rw [lq1_s] at h
      unfold fX6_kindTold_b2 at h
      refine r_iload_n C hl 1 dX6_kindTold_2 rfl rfl ?_
      refine r_bipush (v := 9) C dX6_kindTold_3 (by decide) ?_
      refine r_icmp_ge (tgt := 27) C dX6_kindTold_5 (by decide) (fun c5 => ?_) (fun c5 => ?_)
      · replace h := iT c5 h
        refine r_iconst (v := 0) C dX6_kindTold_27 (by decide) ?_
        exact r_iret C hq hW (by obtain rfl := Option.some.inj h; exact ⟨rfl, rfl⟩) dX6_kindTold_28
      · replace h := iF c5 h
        refine r_aload_n C hl 0 dX6_kindTold_8 rfl rfl ?_
        refine r_iload_n C hl 1 dX6_kindTold_9 rfl rfl ?_
        obtain ⟨r10, h10, h⟩ := bd1_some h
        refine r_S (wr := [(ad 0, .inr (5, [.ref (ad 1), .int u_size, .int u_at, .int u_start, .int u_token, .int u_number])), (ad 1, .inl (eB X, 320, .inl u_bytes))]) (np := 1) C hl (mX6_wordOf X    l1 r10 h10) hW [] [0, 1] rfl rfl rfl rfl (by decide) w_cd_X6_wordOf w_ml_X6_78 w_st_X6_wordOf w_in_HeightSheet_TextReader (by decide +kernel) rfl ⟨Nat.le_of_ble_eq_true rfl, Nat.le_of_ble_eq_true rfl⟩ ⟨Nat.zero_le _, Nat.zero_le _⟩ (Nat.le_of_ble_eq_true rfl) dX6_kindTold_10 (fun rv w1 H L hp hW => ?_) rfl
        obtain ⟨rfl, rfl⟩ := hp
        replace hW : Wd X k A [(ad 0, .inr (5, [.ref (ad 1), .int u_size, .int u_at, .int u_start, .int u_token, .int u_number])), (ad 1, .inl (eB X, 320, .inl u_bytes))] H L := hW.sub [0, 1] rfl rfl
        show Wx X k 0 0 H L 13 ls [.ref (eK X r10), .ref (ad 0)]
        obtain ⟨r13, h13, h⟩ := bd1_some h
        refine r_VN (wr := []) (np := 1) C hl (mX5_isWord X ad  u_bytes u_size u_at u_start u_token u_number r10 r13 h13) hW [0, 1] [] rfl rfl rfl rfl (by decide) 0 rfl rfl w_cd_X5_isWord w_im_X5_isWord w_sel_X5_isWord w_in_HeightSheet_Tape 17 rfl (by decide +kernel) rfl ⟨Nat.le_of_ble_eq_true rfl, Nat.le_of_ble_eq_true rfl⟩ ⟨Nat.zero_le _, Nat.zero_le _⟩ (Nat.le_of_ble_eq_true rfl) dX6_kindTold_13 (fun rv w1 H L hp hW => ?_) rfl
        obtain ⟨rfl, rfl⟩ := hp
        replace hW : Wd X k A [(ad 0, .inr (5, [.ref (ad 1), .int u_size, .int u_at, .int u_start, .int u_token, .int u_number])), (ad 1, .inl (eB X, 320, .inl u_bytes))] H L := hW.sub [0, 1] rfl rfl
        show Wx X k 0 0 H L 16 ls [.int r13]
        refine r_if_eq (tgt := 21) C dX6_kindTold_16 (by decide) (fun c16 => ?_) (fun c16 => ?_)
        · replace h := iT c16 h
          refine r_iinc (j := 1) (v := l1 + (1 : Int32)) (lv' := [(1, .int (l1 + (1 : Int32))), (0, .ref (ad 0))]) C hl dX6_kindTold_21 rfl rfl (by decide) rfl (fun ls hl => ?_)
          refine r_goto (tgt := 2) C dX6_kindTold_24 (by decide) ?_
          exact ih2 (l1 + (1 : Int32)) H L ls hW (lv_sub hl [1, 0] rfl) h
        · replace h := iF c16 h
          refine r_iload_n C hl 1 dX6_kindTold_19 rfl rfl ?_
          exact r_iret C hq hW (by obtain rfl := Option.some.inj h; exact ⟨rfl, rfl⟩) dX6_kindTold_20
  unfold fX6_kindTold at h
  refine r_iconst (v := 1) C dX6_kindTold_0 (by decide) ?_
  refine r_istore_n (lv' := [(1, .int (1 : Int32)), (0, .ref (ad 0))]) C hl dX6_kindTold_1 rfl (by decide) rfl (fun ls hl => ?_)
  exact K2  fu (1 : Int32) H L ls hW (lv_sub hl [1, 0] rfl) h
def fX6_takesLine_j100 (u_bytes : (Nat → Int32)) (u_size : Int32) (self67 : (Nat → Int32) → Int32 → Int32 → Int32 → Int32 → Int32 → Int32 → Option (Int32 × (Nat → Int32) × Int32 × Int32 × Int32 × Int32 × Int32)) (v_draft_parts : (Nat → Int32)) (v_fault : Int32) (u_at : Int32) (u_start : Int32) (u_token : Int32) (u_number : Int32) (l2 : Int32) (l3 : Int32) (l4 : Int32) (l5 : Int32) (l6 : Int32) (s0 : Int32) : Option (Int32 × (Nat → Int32) × Int32 × Int32 × Int32 × Int32 × Int32) :=
  bd6 (fX6_takesNumber v_fault u_bytes u_size u_at u_start u_token u_number s0 l4) fun r108 c108_fault c108_at c108_start c108_token c108_number =>
  if r108 = (0 : Int32) then
    some ((0 : Int32), v_draft_parts, c108_fault, c108_at, c108_start, c108_token, c108_number)
  else
    bd1 (fX1_setOperand v_draft_parts l3 l6 c108_number) fun c127_parts =>
    self67 c127_parts c108_fault c108_at c108_start c108_token c108_number (l6 + (1 : Int32))
def fX6_takesLine_j99 (u_bytes : (Nat → Int32)) (u_size : Int32) (self67 : (Nat → Int32) → Int32 → Int32 → Int32 → Int32 → Int32 → Int32 → Option (Int32 × (Nat → Int32) × Int32 × Int32 × Int32 × Int32 × Int32)) (v_draft_parts : (Nat → Int32)) (v_fault : Int32) (u_at : Int32) (u_start : Int32) (u_token : Int32) (u_number : Int32) (l2 : Int32) (l3 : Int32) (l4 : Int32) (l5 : Int32) (l6 : Int32) : Option (Int32 × (Nat → Int32) × Int32 × Int32 × Int32 × Int32 × Int32) :=
  fX6_takesLine_j100 u_bytes u_size self67 v_draft_parts v_fault u_at u_start u_token u_number l2 l3 l4 l5 l6 (0 : Int32)
def fX6_takesLine_b67 (u_bytes : (Nat → Int32)) (u_size : Int32)  (l2 : Int32) (l3 : Int32) (l4 : Int32) (l5 : Int32) (self67 : (Nat → Int32) → Int32 → Int32 → Int32 → Int32 → Int32 → Int32 → Option (Int32 × (Nat → Int32) × Int32 × Int32 × Int32 × Int32 × Int32)) (v_draft_parts : (Nat → Int32)) (v_fault : Int32) (u_at : Int32) (u_start : Int32) (u_token : Int32) (u_number : Int32) (l6 : Int32) : Option (Int32 × (Nat → Int32) × Int32 × Int32 × Int32 × Int32 × Int32) :=
  if l5 < l6 then
    bd4 (fX5_nextToken u_bytes u_size u_at u_start u_token u_number) fun c137_at c137_start c137_token c137_number =>
    if c137_token = (3 : Int32) then
      some ((1 : Int32), v_draft_parts, v_fault, c137_at, c137_start, c137_token, c137_number)
    else
      bd2 (fX6_fails v_fault c137_token (2 : Int32)) fun r151 c151_fault =>
      if r151 = (0 : Int32) then
        some ((0 : Int32), v_draft_parts, c151_fault, c137_at, c137_start, c137_token, c137_number)
      else
        some ((1 : Int32), v_draft_parts, c151_fault, c137_at, c137_start, c137_token, c137_number)
  else
    bd1 (fX7_isSpan l2) fun r75 =>
    if r75 = (0 : Int32) then
      fX6_takesLine_j99 u_bytes u_size self67 v_draft_parts v_fault u_at u_start u_token u_number l2 l3 l4 l5 l6
    else
      if l6 = (2 : Int32) then
        bd1 (fX1_part v_draft_parts l3 (1 : Int32)) fun r93 =>
        fX6_takesLine_j100 u_bytes u_size self67 v_draft_parts v_fault u_at u_start u_token u_number l2 l3 l4 l5 l6 r93
      else
        fX6_takesLine_j99 u_bytes u_size self67 v_draft_parts v_fault u_at u_start u_token u_number l2 l3 l4 l5 l6
def fX6_takesLine_j56 (u_bytes : (Nat → Int32)) (u_size : Int32)  (v_draft_parts : (Nat → Int32)) (v_fault : Int32) (u_at : Int32) (u_start : Int32) (u_token : Int32) (u_number : Int32) (l2 : Int32) (l3 : Int32) (s0 : Int32) : Option (Int32 × (Nat → Int32) × Int32 × Int32 × Int32 × Int32 × Int32) :=
  bd1 (fX7_operandsOf l2) fun r59 =>
  lq7 (fX6_takesLine_b67 u_bytes u_size  l2 l3 s0 r59) fu v_draft_parts v_fault u_at u_start u_token u_number (1 : Int32)
def fX6_takesLine (v_draft_parts : (Nat → Int32)) (v_fault : Int32) (u_bytes : (Nat → Int32)) (u_size : Int32) (u_at : Int32) (u_start : Int32) (u_token : Int32) (u_number : Int32) : Option (Int32 × (Nat → Int32) × Int32 × Int32 × Int32 × Int32 × Int32) :=
  bd1 (fX6_kindTold u_bytes u_at u_start u_token) fun r1 =>
  if r1 = (0 : Int32) then
    bd2 (fX6_fails v_fault u_token (2 : Int32)) fun r12 c12_fault =>
    ck (r12 = 0 ∨ r12 = 1) <|
    some (r12, v_draft_parts, c12_fault, u_at, u_start, u_token, u_number)
  else
    bd6 (fX6_takesNumber v_fault u_bytes u_size u_at u_start u_token u_number (0 : Int32) (29 : Int32)) fun r21 c21_fault c21_at c21_start c21_token c21_number =>
    if r21 = (0 : Int32) then
      some ((0 : Int32), v_draft_parts, c21_fault, c21_at, c21_start, c21_token, c21_number)
    else
      bd1 (fX1_begin v_draft_parts c21_number r1) fun c40_parts =>
      if r1 = (1 : Int32) then
        fX6_takesLine_j56 u_bytes u_size  c40_parts c21_fault c21_at c21_start c21_token c21_number r1 c21_number (999 : Int32)
      else
        fX6_takesLine_j56 u_bytes u_size  c40_parts c21_fault c21_at c21_start c21_token c21_number r1 c21_number (29 : Int32)
set_option maxRecDepth 100000 in
set_option maxHeartbeats 8000000 in
theorem mX6_takesLine (X : Ev) (ad : Nat → Nat) (be : Nat → Nat) (v_draft_parts : (Nat → Int32)) (v_lines : Int32) (v_fault : Int32) (u_bytes : (Nat → Int32)) (u_size : Int32) (u_at : Int32) (u_start : Int32) (u_token : Int32) (u_number : Int32)  (o : Int32 × (Nat → Int32) × Int32 × Int32 × Int32 × Int32 × Int32) (h : fX6_takesLine v_draft_parts v_fault u_bytes u_size u_at u_start u_token u_number = some o) : Ctr X yX6_takesLine cX6_takesLine 8 (some .boolean) 6 128 0 0 [.ref (ad 0), .ref (be 0)] [(ad 0, .inr (6, [.ref (ad 1), .int v_lines, .int v_fault])), (ad 1, .inr (1, [.ref (ad 2)])), (ad 2, .inl (eI X, 120, .inl v_draft_parts)), (be 0, .inr (5, [.ref (be 1), .int u_size, .int u_at, .int u_start, .int u_token, .int u_number])), (be 1, .inl (eB X, 320, .inl u_bytes))] (De (some (.int o.1)) [(ad 0, .inr (6, [.ref (ad 1), .int v_lines, .int (o.2.2.1)])), (ad 1, .inr (1, [.ref (ad 2)])), (ad 2, .inl (eI X, 120, .inl (o.2.1))), (be 0, .inr (5, [.ref (be 1), .int u_size, .int (o.2.2.2.1), .int (o.2.2.2.2.1), .int (o.2.2.2.2.2.1), .int (o.2.2.2.2.2.2)])), (be 1, .inl (eB X, 320, .inl u_bytes))]) := by
  refine Ctr.start (by decide) (Nat.le_of_ble_eq_true rfl) (fun k A ls C hq hin hW hl => ?_)
  replace C : Cx X k cX6_takesLine 8 (some .boolean) RX6 A 6 128 0 0 := C
  replace hl : lv_has ls 8 [(0, .ref (ad 0)), (1, .ref (be 0))] := hl
  suffices hh : ∀ (H : Heap) (L : List Loc), Wd X k A [(ad 0, .inr (6, [.ref (ad 1), .int v_lines, .int v_fault])), (ad 1, .inr (1, [.ref (ad 2)])), (ad 2, .inl (eI X, 120, .inl v_draft_parts)), (be 0, .inr (5, [.ref (be 1), .int u_size, .int u_at, .int u_start, .int u_token, .int u_number])), (be 1, .inl (eB X, 320, .inl u_bytes))] H L → Wx X k 0 0 H L 0 ls [] from hh _ _ hW
  clear hW
  intro H L hW
  have K67 : ∀ (l2 : Int32), ∀ (l3 : Int32), ∀ (l4 : Int32), ∀ (l5 : Int32), ∀ (n67 : Nat), ∀ (v_draft_parts : (Nat → Int32)), ∀ (v_fault : Int32), ∀ (u_at : Int32), ∀ (u_start : Int32), ∀ (u_token : Int32), ∀ (u_number : Int32), ∀ (l6 : Int32), ∀ (H : Heap) (L : List Loc) (ls : Array Slot), Wd X k A [(ad 0, .inr (6, [.ref (ad 1), .int v_lines, .int v_fault])), (ad 1, .inr (1, [.ref (ad 2)])), (ad 2, .inl (eI X, 120, .inl v_draft_parts)), (be 0, .inr (5, [.ref (be 1), .int u_size, .int u_at, .int u_start, .int u_token, .int u_number])), (be 1, .inl (eB X, 320, .inl u_bytes))] H L → lv_has ls 8 [(0, .ref (ad 0)), (1, .ref (be 0)), (2, .int l2), (3, .int l3), (4, .int l4), (5, .int l5), (6, .int l6)] → lq7 (fX6_takesLine_b67 u_bytes u_size  l2 l3 l4 l5) n67 v_draft_parts v_fault u_at u_start u_token u_number l6 = some o → Wx X k 0 0 H L 67 ls [] := by
    intro l2 l3 l4 l5
    intro n67
    induction n67 with
    | zero => intro v_draft_parts v_fault u_at u_start u_token u_number l6 H L ls hW hl h; exact lq7_0 h
    | succ n67 ih67 =>
      have K100 : ∀ (v_draft_parts : (Nat → Int32)), ∀ (v_fault : Int32), ∀ (u_at : Int32), ∀ (u_start : Int32), ∀ (u_token : Int32), ∀ (u_number : Int32), ∀ (l6 : Int32), ∀ (s0 : Int32), ∀ (H : Heap) (L : List Loc) (ls : Array Slot), Wd X k A [(ad 0, .inr (6, [.ref (ad 1), .int v_lines, .int v_fault])), (ad 1, .inr (1, [.ref (ad 2)])), (ad 2, .inl (eI X, 120, .inl v_draft_parts)), (be 0, .inr (5, [.ref (be 1), .int u_size, .int u_at, .int u_start, .int u_token, .int u_number])), (be 1, .inl (eB X, 320, .inl u_bytes))] H L → lv_has ls 8 [(0, .ref (ad 0)), (1, .ref (be 0)), (2, .int l2), (3, .int l3), (4, .int l4), (5, .int l5), (6, .int l6)] → fX6_takesLine_j100 u_bytes u_size (lq7 (fX6_takesLine_b67 u_bytes u_size  l2 l3 l4 l5) n67) v_draft_parts v_fault u_at u_start u_token u_number l2 l3 l4 l5 l6 s0 = some o → Wx X k 0 0 H L 100 ls [.int s0] := by
        intro v_draft_parts v_fault u_at u_start u_token u_number l6 s0 H L ls hW hl h
        unfold fX6_takesLine_j100 at h
        refine r_istore (lv' := [(7, .int s0), (0, .ref (ad 0)), (1, .ref (be 0)), (2, .int l2), (3, .int l3), (4, .int l4), (5, .int l5), (6, .int l6)]) C hl dX6_takesLine_100 (by decide) rfl (fun ls hl => ?_)
        refine r_aload_n C hl 1 dX6_takesLine_102 rfl rfl ?_
        refine r_aload_n C hl 2 dX6_takesLine_103 rfl rfl ?_
        refine r_iload C hl 0 dX6_takesLine_104 rfl ?_
        refine r_iload C hl 5 dX6_takesLine_106 rfl ?_
        obtain ⟨r108, c108_fault, c108_at, c108_start, c108_token, c108_number, h108, h⟩ := bd6_some h
        refine r_V (wr := []) (np := 3) C hl (mX6_takesNumber X ad be  v_draft_parts v_lines v_fault u_bytes u_size u_at u_start u_token u_number s0 l4 (r108, c108_fault, c108_at, c108_start, c108_token, c108_number) h108) hW [0, 1, 2, 3, 4] [] rfl rfl rfl rfl (by decide) 0 rfl rfl w_cd_X6_takesNumber w_ml_X6_51 w_im_X6_takesNumber w_sel_X6_takesNumber w_in_HeightSheet_TextReader (by decide +kernel) rfl ⟨Nat.le_of_ble_eq_true rfl, Nat.le_of_ble_eq_true rfl⟩ ⟨Nat.zero_le _, Nat.zero_le _⟩ (Nat.le_of_ble_eq_true rfl) dX6_takesLine_108 (fun rv w1 H L hp hW => ?_) rfl
        obtain ⟨rfl, rfl⟩ := hp
        replace hW : Wd X k A [(ad 0, .inr (6, [.ref (ad 1), .int v_lines, .int c108_fault])), (ad 1, .inr (1, [.ref (ad 2)])), (ad 2, .inl (eI X, 120, .inl v_draft_parts)), (be 0, .inr (5, [.ref (be 1), .int u_size, .int c108_at, .int c108_start, .int c108_token, .int c108_number])), (be 1, .inl (eB X, 320, .inl u_bytes))] H L := hW.sub [0, 1, 2, 3, 4] rfl rfl
        show Wx X k 0 0 H L 111 ls [.int r108]
        refine r_if_ne (tgt := 116) C dX6_takesLine_111 (by decide) (fun c111 => ?_) (fun c111 => ?_)
        · replace h := iF c111 h
          refine r_aload_n C hl 1 dX6_takesLine_116 rfl rfl ?_
          refine r_get C hW 0 rfl rfl iwX6 0 (by decide) w_fl_X6_12 rfl dX6_takesLine_117 ?_
          refine r_iload_n C hl 4 dX6_takesLine_120 rfl rfl ?_
          refine r_iload C hl 7 dX6_takesLine_121 rfl ?_
          refine r_aload_n C hl 2 dX6_takesLine_123 rfl rfl ?_
          refine r_getN C hW 3 rfl rfl iwX5 5 (by decide) 3 rfl rfl dX6_takesLine_124 ?_
          obtain ⟨c127_parts, h127, h⟩ := bd1_some h
          refine r_VN (wr := [(ad 0, .inr (6, [.ref (ad 1), .int v_lines, .int c108_fault])), (be 0, .inr (5, [.ref (be 1), .int u_size, .int c108_at, .int c108_start, .int c108_token, .int c108_number])), (be 1, .inl (eB X, 320, .inl u_bytes))]) (np := 3) C hl (mX1_setOperand X (fun i => ad (1 + i))  v_draft_parts l3 l6 c108_number c127_parts h127) hW [1, 2] [0, 3, 4] rfl rfl rfl rfl (by decide) 0 rfl rfl w_cd_X1_setOperand w_im_X1_setOperand w_sel_X1_setOperand w_in_HeightSheet_Formulas 22 rfl (by decide +kernel) rfl ⟨Nat.le_of_ble_eq_true rfl, Nat.le_of_ble_eq_true rfl⟩ ⟨Nat.zero_le _, Nat.zero_le _⟩ (Nat.le_of_ble_eq_true rfl) dX6_takesLine_127 (fun rv w1 H L hp hW => ?_) rfl
          obtain ⟨rfl, rfl⟩ := hp
          replace hW : Wd X k A [(ad 0, .inr (6, [.ref (ad 1), .int v_lines, .int c108_fault])), (ad 1, .inr (1, [.ref (ad 2)])), (ad 2, .inl (eI X, 120, .inl c127_parts)), (be 0, .inr (5, [.ref (be 1), .int u_size, .int c108_at, .int c108_start, .int c108_token, .int c108_number])), (be 1, .inl (eB X, 320, .inl u_bytes))] H L := hW.sub [0, 3, 4, 1, 2] rfl rfl
          show Wx X k 0 0 H L 130 ls []
          refine r_iinc (j := 7) (v := l6 + (1 : Int32)) (lv' := [(6, .int (l6 + (1 : Int32))), (7, .int s0), (0, .ref (ad 0)), (1, .ref (be 0)), (2, .int l2), (3, .int l3), (4, .int l4), (5, .int l5)]) C hl dX6_takesLine_130 rfl rfl (by decide) rfl (fun ls hl => ?_)
          refine r_goto (tgt := 67) C dX6_takesLine_133 (by decide) ?_
          exact ih67 c127_parts c108_fault c108_at c108_start c108_token c108_number (l6 + (1 : Int32)) H L ls hW (lv_sub hl [2, 3, 4, 5, 6, 7, 0] rfl) h
        · replace h := iT c111 h
          refine r_iconst (v := 0) C dX6_takesLine_114 (by decide) ?_
          exact r_zret C hq hW (by decide) (by obtain rfl := Option.some.inj h; exact ⟨rfl, rfl⟩) dX6_takesLine_115
      have K99 : ∀ (v_draft_parts : (Nat → Int32)), ∀ (v_fault : Int32), ∀ (u_at : Int32), ∀ (u_start : Int32), ∀ (u_token : Int32), ∀ (u_number : Int32), ∀ (l6 : Int32), ∀ (H : Heap) (L : List Loc) (ls : Array Slot), Wd X k A [(ad 0, .inr (6, [.ref (ad 1), .int v_lines, .int v_fault])), (ad 1, .inr (1, [.ref (ad 2)])), (ad 2, .inl (eI X, 120, .inl v_draft_parts)), (be 0, .inr (5, [.ref (be 1), .int u_size, .int u_at, .int u_start, .int u_token, .int u_number])), (be 1, .inl (eB X, 320, .inl u_bytes))] H L → lv_has ls 8 [(0, .ref (ad 0)), (1, .ref (be 0)), (2, .int l2), (3, .int l3), (4, .int l4), (5, .int l5), (6, .int l6)] → fX6_takesLine_j99 u_bytes u_size (lq7 (fX6_takesLine_b67 u_bytes u_size  l2 l3 l4 l5) n67) v_draft_parts v_fault u_at u_start u_token u_number l2 l3 l4 l5 l6 = some o → Wx X k 0 0 H L 99 ls [] := by
        intro v_draft_parts v_fault u_at u_start u_token u_number l6 H L ls hW hl h
        unfold fX6_takesLine_j99 at h
        refine r_iconst (v := 0) C dX6_takesLine_99 (by decide) ?_
        exact K100 v_draft_parts v_fault u_at u_start u_token u_number l6 (0 : Int32) H L ls hW hl h
      intro v_draft_parts v_fault u_at u_start u_token u_number l6 H L ls hW hl h
      rw [lq7_s] at h
      unfold fX6_takesLine_b67 at h
      refine r_iload C hl 6 dX6_takesLine_67 rfl ?_
      refine r_iload C hl 5 dX6_takesLine_69 rfl ?_
      refine r_icmp_gt (tgt := 136) C dX6_takesLine_71 (by decide) (fun c71 => ?_) (fun c71 => ?_)
      · replace h := iT c71 h
        refine r_aload_n C hl 1 dX6_takesLine_136 rfl rfl ?_
        obtain ⟨c137_at, c137_start, c137_token, c137_number, h137, h⟩ := bd4_some h
        refine r_VN (wr := [(ad 0, .inr (6, [.ref (ad 1), .int v_lines, .int v_fault])), (ad 1, .inr (1, [.ref (ad 2)])), (ad 2, .inl (eI X, 120, .inl v_draft_parts))]) (np := 0) C hl (mX5_nextToken X be  u_bytes u_size u_at u_start u_token u_number  (c137_at, c137_start, c137_token, c137_number) h137) hW [3, 4] [0, 1, 2] rfl rfl rfl rfl (by decide) 0 rfl rfl w_cd_X5_nextToken w_im_X5_nextToken w_sel_X5_nextToken w_in_HeightSheet_Tape 16 rfl (by decide +kernel) rfl ⟨Nat.le_of_ble_eq_true rfl, Nat.le_of_ble_eq_true rfl⟩ ⟨Nat.zero_le _, Nat.zero_le _⟩ (Nat.le_of_ble_eq_true rfl) dX6_takesLine_137 (fun rv w1 H L hp hW => ?_) rfl
        obtain ⟨rfl, rfl⟩ := hp
        replace hW : Wd X k A [(ad 0, .inr (6, [.ref (ad 1), .int v_lines, .int v_fault])), (ad 1, .inr (1, [.ref (ad 2)])), (ad 2, .inl (eI X, 120, .inl v_draft_parts)), (be 0, .inr (5, [.ref (be 1), .int u_size, .int c137_at, .int c137_start, .int c137_token, .int c137_number])), (be 1, .inl (eB X, 320, .inl u_bytes))] H L := hW.sub [0, 1, 2, 3, 4] rfl rfl
        show Wx X k 0 0 H L 140 ls []
        refine r_aload_n C hl 1 dX6_takesLine_140 rfl rfl ?_
        refine r_getN C hW 3 rfl rfl iwX5 4 (by decide) 2 rfl rfl dX6_takesLine_141 ?_
        refine r_iconst (v := 3) C dX6_takesLine_144 (by decide) ?_
        refine r_icmp_eq (tgt := 157) C dX6_takesLine_145 (by decide) (fun c145 => ?_) (fun c145 => ?_)
        · replace h := iT c145 h
          refine r_iconst (v := 1) C dX6_takesLine_157 (by decide) ?_
          refine r_goto (tgt := 162) C dX6_takesLine_158 (by decide) ?_
          exact r_zret C hq hW (by decide) (by obtain rfl := Option.some.inj h; exact ⟨rfl, rfl⟩) dX6_takesLine_162
        · replace h := iF c145 h
          refine r_aload_n C hl 0 dX6_takesLine_148 rfl rfl ?_
          refine r_aload_n C hl 1 dX6_takesLine_149 rfl rfl ?_
          refine r_iconst (v := 2) C dX6_takesLine_150 (by decide) ?_
          obtain ⟨r151, c151_fault, h151, h⟩ := bd2_some h
          refine r_V (wr := []) (np := 2) C hl (mX6_fails X ad be  v_draft_parts v_lines v_fault u_bytes u_size c137_at c137_start c137_token c137_number (2 : Int32) (r151, c151_fault) h151) hW [0, 1, 2, 3, 4] [] rfl rfl rfl rfl (by decide) 0 rfl rfl w_cd_X6_fails w_ml_X6_47 w_im_X6_fails w_sel_X6_fails w_in_HeightSheet_TextReader (by decide +kernel) rfl ⟨Nat.le_of_ble_eq_true rfl, Nat.le_of_ble_eq_true rfl⟩ ⟨Nat.zero_le _, Nat.zero_le _⟩ (Nat.le_of_ble_eq_true rfl) dX6_takesLine_151 (fun rv w1 H L hp hW => ?_) rfl
          obtain ⟨rfl, rfl⟩ := hp
          replace hW : Wd X k A [(ad 0, .inr (6, [.ref (ad 1), .int v_lines, .int c151_fault])), (ad 1, .inr (1, [.ref (ad 2)])), (ad 2, .inl (eI X, 120, .inl v_draft_parts)), (be 0, .inr (5, [.ref (be 1), .int u_size, .int c137_at, .int c137_start, .int c137_token, .int c137_number])), (be 1, .inl (eB X, 320, .inl u_bytes))] H L := hW.sub [0, 1, 2, 3, 4] rfl rfl
          show Wx X k 0 0 H L 154 ls [.int r151]
          refine r_if_eq (tgt := 161) C dX6_takesLine_154 (by decide) (fun c154 => ?_) (fun c154 => ?_)
          · replace h := iT c154 h
            refine r_iconst (v := 0) C dX6_takesLine_161 (by decide) ?_
            exact r_zret C hq hW (by decide) (by obtain rfl := Option.some.inj h; exact ⟨rfl, rfl⟩) dX6_takesLine_162
          · replace h := iF c154 h
            refine r_iconst (v := 1) C dX6_takesLine_157 (by decide) ?_
            refine r_goto (tgt := 162) C dX6_takesLine_158 (by decide) ?_
            exact r_zret C hq hW (by decide) (by obtain rfl := Option.some.inj h; exact ⟨rfl, rfl⟩) dX6_takesLine_162
      · replace h := iF c71 h
        refine r_iload_n C hl 2 dX6_takesLine_74 rfl rfl ?_
        obtain ⟨r75, h75, h⟩ := bd1_some h
        refine r_SN (wr := [(ad 0, .inr (6, [.ref (ad 1), .int v_lines, .int v_fault])), (ad 1, .inr (1, [.ref (ad 2)])), (ad 2, .inl (eI X, 120, .inl v_draft_parts)), (be 0, .inr (5, [.ref (be 1), .int u_size, .int u_at, .int u_start, .int u_token, .int u_number])), (be 1, .inl (eB X, 320, .inl u_bytes))]) (np := 1) C hl (mX7_isSpan X    l2 r75 h75) hW [] [0, 1, 2, 3, 4] rfl rfl rfl rfl (by decide) w_cd_X7_isSpan w_st_X7_isSpan w_in_HeightSheet 20 rfl (by decide +kernel) rfl ⟨Nat.le_of_ble_eq_true rfl, Nat.le_of_ble_eq_true rfl⟩ ⟨Nat.zero_le _, Nat.zero_le _⟩ (Nat.le_of_ble_eq_true rfl) dX6_takesLine_75 (fun rv w1 H L hp hW => ?_) rfl
        obtain ⟨rfl, rfl⟩ := hp
        replace hW : Wd X k A [(ad 0, .inr (6, [.ref (ad 1), .int v_lines, .int v_fault])), (ad 1, .inr (1, [.ref (ad 2)])), (ad 2, .inl (eI X, 120, .inl v_draft_parts)), (be 0, .inr (5, [.ref (be 1), .int u_size, .int u_at, .int u_start, .int u_token, .int u_number])), (be 1, .inl (eB X, 320, .inl u_bytes))] H L := hW.sub [0, 1, 2, 3, 4] rfl rfl
        show Wx X k 0 0 H L 78 ls [.int r75]
        refine r_if_eq (tgt := 99) C dX6_takesLine_78 (by decide) (fun c78 => ?_) (fun c78 => ?_)
        · replace h := iT c78 h
          exact K99 v_draft_parts v_fault u_at u_start u_token u_number l6 H L ls hW hl h
        · replace h := iF c78 h
          refine r_iload C hl 6 dX6_takesLine_81 rfl ?_
          refine r_iconst (v := 2) C dX6_takesLine_83 (by decide) ?_
          refine r_icmp_ne (tgt := 99) C dX6_takesLine_84 (by decide) (fun c84 => ?_) (fun c84 => ?_)
          · replace h := iF c84 h
            exact K99 v_draft_parts v_fault u_at u_start u_token u_number l6 H L ls hW hl h
          · replace h := iT c84 h
            refine r_aload_n C hl 0 dX6_takesLine_87 rfl rfl ?_
            refine r_get C hW 0 rfl rfl iwX6 0 (by decide) w_fl_X6_12 rfl dX6_takesLine_88 ?_
            refine r_iload_n C hl 3 dX6_takesLine_91 rfl rfl ?_
            refine r_iconst (v := 1) C dX6_takesLine_92 (by decide) ?_
            obtain ⟨r93, h93, h⟩ := bd1_some h
            refine r_VN (wr := [(ad 0, .inr (6, [.ref (ad 1), .int v_lines, .int v_fault])), (be 0, .inr (5, [.ref (be 1), .int u_size, .int u_at, .int u_start, .int u_token, .int u_number])), (be 1, .inl (eB X, 320, .inl u_bytes))]) (np := 2) C hl (mX1_part X (fun i => ad (1 + i))  v_draft_parts l3 (1 : Int32) r93 h93) hW [1, 2] [0, 3, 4] rfl rfl rfl rfl (by decide) 0 rfl rfl w_cd_X1_part w_im_X1_part w_sel_X1_part w_in_HeightSheet_Formulas 21 rfl (by decide +kernel) rfl ⟨Nat.le_of_ble_eq_true rfl, Nat.le_of_ble_eq_true rfl⟩ ⟨Nat.zero_le _, Nat.zero_le _⟩ (Nat.le_of_ble_eq_true rfl) dX6_takesLine_93 (fun rv w1 H L hp hW => ?_) rfl
            obtain ⟨rfl, rfl⟩ := hp
            replace hW : Wd X k A [(ad 0, .inr (6, [.ref (ad 1), .int v_lines, .int v_fault])), (ad 1, .inr (1, [.ref (ad 2)])), (ad 2, .inl (eI X, 120, .inl v_draft_parts)), (be 0, .inr (5, [.ref (be 1), .int u_size, .int u_at, .int u_start, .int u_token, .int u_number])), (be 1, .inl (eB X, 320, .inl u_bytes))] H L := hW.sub [0, 3, 4, 1, 2] rfl rfl
            show Wx X k 0 0 H L 96 ls [.int r93]
            refine r_goto (tgt := 100) C dX6_takesLine_96 (by decide) ?_
            exact K100 v_draft_parts v_fault u_at u_start u_token u_number l6 r93 H L ls hW hl h
  have K56 : ∀ (v_draft_parts : (Nat → Int32)), ∀ (v_fault : Int32), ∀ (u_at : Int32), ∀ (u_start : Int32), ∀ (u_token : Int32), ∀ (u_number : Int32), ∀ (l2 : Int32), ∀ (l3 : Int32), ∀ (s0 : Int32), ∀ (H : Heap) (L : List Loc) (ls : Array Slot), Wd X k A [(ad 0, .inr (6, [.ref (ad 1), .int v_lines, .int v_fault])), (ad 1, .inr (1, [.ref (ad 2)])), (ad 2, .inl (eI X, 120, .inl v_draft_parts)), (be 0, .inr (5, [.ref (be 1), .int u_size, .int u_at, .int u_start, .int u_token, .int u_number])), (be 1, .inl (eB X, 320, .inl u_bytes))] H L → lv_has ls 8 [(0, .ref (ad 0)), (1, .ref (be 0)), (2, .int l2), (3, .int l3)] → fX6_takesLine_j56 u_bytes u_size  v_draft_parts v_fault u_at u_start u_token u_number l2 l3 s0 = some o → Wx X k 0 0 H L 56 ls [.int s0] := by
    intro v_draft_parts v_fault u_at u_start u_token u_number l2 l3 s0 H L ls hW hl h
    unfold fX6_takesLine_j56 at h
    refine r_istore (lv' := [(4, .int s0), (0, .ref (ad 0)), (1, .ref (be 0)), (2, .int l2), (3, .int l3)]) C hl dX6_takesLine_56 (by decide) rfl (fun ls hl => ?_)
    refine r_iload_n C hl 3 dX6_takesLine_58 rfl rfl ?_
    obtain ⟨r59, h59, h⟩ := bd1_some h
    refine r_SN (wr := [(ad 0, .inr (6, [.ref (ad 1), .int v_lines, .int v_fault])), (ad 1, .inr (1, [.ref (ad 2)])), (ad 2, .inl (eI X, 120, .inl v_draft_parts)), (be 0, .inr (5, [.ref (be 1), .int u_size, .int u_at, .int u_start, .int u_token, .int u_number])), (be 1, .inl (eB X, 320, .inl u_bytes))]) (np := 1) C hl (mX7_operandsOf X    l2 r59 h59) hW [] [0, 1, 2, 3, 4] rfl rfl rfl rfl (by decide) w_cd_X7_operandsOf w_st_X7_operandsOf w_in_HeightSheet 19 rfl (by decide +kernel) rfl ⟨Nat.le_of_ble_eq_true rfl, Nat.le_of_ble_eq_true rfl⟩ ⟨Nat.zero_le _, Nat.zero_le _⟩ (Nat.le_of_ble_eq_true rfl) dX6_takesLine_59 (fun rv w1 H L hp hW => ?_) rfl
    obtain ⟨rfl, rfl⟩ := hp
    replace hW : Wd X k A [(ad 0, .inr (6, [.ref (ad 1), .int v_lines, .int v_fault])), (ad 1, .inr (1, [.ref (ad 2)])), (ad 2, .inl (eI X, 120, .inl v_draft_parts)), (be 0, .inr (5, [.ref (be 1), .int u_size, .int u_at, .int u_start, .int u_token, .int u_number])), (be 1, .inl (eB X, 320, .inl u_bytes))] H L := hW.sub [0, 1, 2, 3, 4] rfl rfl
    show Wx X k 0 0 H L 62 ls [.int r59]
    refine r_istore (lv' := [(5, .int r59), (4, .int s0), (0, .ref (ad 0)), (1, .ref (be 0)), (2, .int l2), (3, .int l3)]) C hl dX6_takesLine_62 (by decide) rfl (fun ls hl => ?_)
    refine r_iconst (v := 1) C dX6_takesLine_64 (by decide) ?_
    refine r_istore (lv' := [(6, .int (1 : Int32)), (5, .int r59), (4, .int s0), (0, .ref (ad 0)), (1, .ref (be 0)), (2, .int l2), (3, .int l3)]) C hl dX6_takesLine_65 (by decide) rfl (fun ls hl => ?_)
    exact K67 l2 l3 s0 r59 fu v_draft_parts v_fault u_at u_start u_token u_number (1 : Int32) H L ls hW (lv_sub hl [3, 4, 5, 6, 2, 1, 0] rfl) h
  unfold fX6_takesLine at h
  refine r_aload_n C hl 1 dX6_takesLine_0 rfl rfl ?_
  obtain ⟨r1, h1, h⟩ := bd1_some h
  refine r_S (wr := [(ad 0, .inr (6, [.ref (ad 1), .int v_lines, .int v_fault])), (ad 1, .inr (1, [.ref (ad 2)])), (ad 2, .inl (eI X, 120, .inl v_draft_parts))]) (np := 1) C hl (mX6_kindTold X be  u_bytes u_size u_at u_start u_token u_number  r1 h1) hW [3, 4] [0, 1, 2] rfl rfl rfl rfl (by decide) w_cd_X6_kindTold w_ml_X6_43 w_st_X6_kindTold w_in_HeightSheet_TextReader (by decide +kernel) rfl ⟨Nat.le_of_ble_eq_true rfl, Nat.le_of_ble_eq_true rfl⟩ ⟨Nat.zero_le _, Nat.zero_le _⟩ (Nat.le_of_ble_eq_true rfl) dX6_takesLine_1 (fun rv w1 H L hp hW => ?_) rfl
  obtain ⟨rfl, rfl⟩ := hp
  replace hW : Wd X k A [(ad 0, .inr (6, [.ref (ad 1), .int v_lines, .int v_fault])), (ad 1, .inr (1, [.ref (ad 2)])), (ad 2, .inl (eI X, 120, .inl v_draft_parts)), (be 0, .inr (5, [.ref (be 1), .int u_size, .int u_at, .int u_start, .int u_token, .int u_number])), (be 1, .inl (eB X, 320, .inl u_bytes))] H L := hW.sub [0, 1, 2, 3, 4] rfl rfl
  show Wx X k 0 0 H L 4 ls [.int r1]
  refine r_istore_n (lv' := [(2, .int r1), (0, .ref (ad 0)), (1, .ref (be 0))]) C hl dX6_takesLine_4 rfl (by decide) rfl (fun ls hl => ?_)
  refine r_iload_n C hl 0 dX6_takesLine_5 rfl rfl ?_
  refine r_if_ne (tgt := 16) C dX6_takesLine_6 (by decide) (fun c6 => ?_) (fun c6 => ?_)
  · replace h := iF c6 h
    refine r_aload_n C hl 1 dX6_takesLine_16 rfl rfl ?_
    refine r_aload_n C hl 2 dX6_takesLine_17 rfl rfl ?_
    refine r_iconst (v := 0) C dX6_takesLine_18 (by decide) ?_
    refine r_bipush (v := 29) C dX6_takesLine_19 (by decide) ?_
    obtain ⟨r21, c21_fault, c21_at, c21_start, c21_token, c21_number, h21, h⟩ := bd6_some h
    refine r_V (wr := []) (np := 3) C hl (mX6_takesNumber X ad be  v_draft_parts v_lines v_fault u_bytes u_size u_at u_start u_token u_number (0 : Int32) (29 : Int32) (r21, c21_fault, c21_at, c21_start, c21_token, c21_number) h21) hW [0, 1, 2, 3, 4] [] rfl rfl rfl rfl (by decide) 0 rfl rfl w_cd_X6_takesNumber w_ml_X6_51 w_im_X6_takesNumber w_sel_X6_takesNumber w_in_HeightSheet_TextReader (by decide +kernel) rfl ⟨Nat.le_of_ble_eq_true rfl, Nat.le_of_ble_eq_true rfl⟩ ⟨Nat.zero_le _, Nat.zero_le _⟩ (Nat.le_of_ble_eq_true rfl) dX6_takesLine_21 (fun rv w1 H L hp hW => ?_) rfl
    obtain ⟨rfl, rfl⟩ := hp
    replace hW : Wd X k A [(ad 0, .inr (6, [.ref (ad 1), .int v_lines, .int c21_fault])), (ad 1, .inr (1, [.ref (ad 2)])), (ad 2, .inl (eI X, 120, .inl v_draft_parts)), (be 0, .inr (5, [.ref (be 1), .int u_size, .int c21_at, .int c21_start, .int c21_token, .int c21_number])), (be 1, .inl (eB X, 320, .inl u_bytes))] H L := hW.sub [0, 1, 2, 3, 4] rfl rfl
    show Wx X k 0 0 H L 24 ls [.int r21]
    refine r_if_ne (tgt := 29) C dX6_takesLine_24 (by decide) (fun c24 => ?_) (fun c24 => ?_)
    · replace h := iF c24 h
      refine r_aload_n C hl 2 dX6_takesLine_29 rfl rfl ?_
      refine r_getN C hW 3 rfl rfl iwX5 5 (by decide) 3 rfl rfl dX6_takesLine_30 ?_
      refine r_istore_n (lv' := [(3, .int c21_number), (2, .int r1), (0, .ref (ad 0)), (1, .ref (be 0))]) C hl dX6_takesLine_33 rfl (by decide) rfl (fun ls hl => ?_)
      refine r_aload_n C hl 2 dX6_takesLine_34 rfl rfl ?_
      refine r_get C hW 0 rfl rfl iwX6 0 (by decide) w_fl_X6_12 rfl dX6_takesLine_35 ?_
      refine r_iload_n C hl 0 dX6_takesLine_38 rfl rfl ?_
      refine r_iload_n C hl 1 dX6_takesLine_39 rfl rfl ?_
      obtain ⟨c40_parts, h40, h⟩ := bd1_some h
      refine r_VN (wr := [(ad 0, .inr (6, [.ref (ad 1), .int v_lines, .int c21_fault])), (be 0, .inr (5, [.ref (be 1), .int u_size, .int c21_at, .int c21_start, .int c21_token, .int c21_number])), (be 1, .inl (eB X, 320, .inl u_bytes))]) (np := 2) C hl (mX1_begin X (fun i => ad (1 + i))  v_draft_parts c21_number r1 c40_parts h40) hW [1, 2] [0, 3, 4] rfl rfl rfl rfl (by decide) 0 rfl rfl w_cd_X1_begin w_im_X1_begin w_sel_X1_begin w_in_HeightSheet_Formulas 18 rfl (by decide +kernel) rfl ⟨Nat.le_of_ble_eq_true rfl, Nat.le_of_ble_eq_true rfl⟩ ⟨Nat.zero_le _, Nat.zero_le _⟩ (Nat.le_of_ble_eq_true rfl) dX6_takesLine_40 (fun rv w1 H L hp hW => ?_) rfl
      obtain ⟨rfl, rfl⟩ := hp
      replace hW : Wd X k A [(ad 0, .inr (6, [.ref (ad 1), .int v_lines, .int c21_fault])), (ad 1, .inr (1, [.ref (ad 2)])), (ad 2, .inl (eI X, 120, .inl c40_parts)), (be 0, .inr (5, [.ref (be 1), .int u_size, .int c21_at, .int c21_start, .int c21_token, .int c21_number])), (be 1, .inl (eB X, 320, .inl u_bytes))] H L := hW.sub [0, 3, 4, 1, 2] rfl rfl
      show Wx X k 0 0 H L 43 ls []
      refine r_iload_n C hl 1 dX6_takesLine_43 rfl rfl ?_
      refine r_iconst (v := 1) C dX6_takesLine_44 (by decide) ?_
      refine r_icmp_ne (tgt := 54) C dX6_takesLine_45 (by decide) (fun c45 => ?_) (fun c45 => ?_)
      · replace h := iF c45 h
        refine r_bipush (v := 29) C dX6_takesLine_54 (by decide) ?_
        exact K56 c40_parts c21_fault c21_at c21_start c21_token c21_number r1 c21_number (29 : Int32) H L ls hW (lv_sub hl [2, 3, 1, 0] rfl) h
      · replace h := iT c45 h
        refine r_sipush (v := 999) C dX6_takesLine_48 (by decide) ?_
        refine r_goto (tgt := 56) C dX6_takesLine_51 (by decide) ?_
        exact K56 c40_parts c21_fault c21_at c21_start c21_token c21_number r1 c21_number (999 : Int32) H L ls hW (lv_sub hl [2, 3, 1, 0] rfl) h
    · replace h := iT c24 h
      refine r_iconst (v := 0) C dX6_takesLine_27 (by decide) ?_
      exact r_zret C hq hW (by decide) (by obtain rfl := Option.some.inj h; exact ⟨rfl, rfl⟩) dX6_takesLine_28
  · replace h := iT c6 h
    refine r_aload_n C hl 1 dX6_takesLine_9 rfl rfl ?_
    refine r_aload_n C hl 2 dX6_takesLine_10 rfl rfl ?_
    refine r_iconst (v := 2) C dX6_takesLine_11 (by decide) ?_
    obtain ⟨r12, c12_fault, h12, h⟩ := bd2_some h
    refine r_V (wr := []) (np := 2) C hl (mX6_fails X ad be  v_draft_parts v_lines v_fault u_bytes u_size u_at u_start u_token u_number (2 : Int32) (r12, c12_fault) h12) hW [0, 1, 2, 3, 4] [] rfl rfl rfl rfl (by decide) 0 rfl rfl w_cd_X6_fails w_ml_X6_47 w_im_X6_fails w_sel_X6_fails w_in_HeightSheet_TextReader (by decide +kernel) rfl ⟨Nat.le_of_ble_eq_true rfl, Nat.le_of_ble_eq_true rfl⟩ ⟨Nat.zero_le _, Nat.zero_le _⟩ (Nat.le_of_ble_eq_true rfl) dX6_takesLine_12 (fun rv w1 H L hp hW => ?_) rfl
    obtain ⟨rfl, rfl⟩ := hp
    replace hW : Wd X k A [(ad 0, .inr (6, [.ref (ad 1), .int v_lines, .int c12_fault])), (ad 1, .inr (1, [.ref (ad 2)])), (ad 2, .inl (eI X, 120, .inl v_draft_parts)), (be 0, .inr (5, [.ref (be 1), .int u_size, .int u_at, .int u_start, .int u_token, .int u_number])), (be 1, .inl (eB X, 320, .inl u_bytes))] H L := hW.sub [0, 1, 2, 3, 4] rfl rfl
    show Wx X k 0 0 H L 15 ls [.int r12]
    obtain ⟨z15, h⟩ := ck_some h
    exact r_zret C hq hW (zb_n z15) (by obtain rfl := Option.some.inj h; exact ⟨rfl, rfl⟩) dX6_takesLine_15
def fX6_takesAll_b25 (u_bytes : (Nat → Int32)) (u_size : Int32)   (self25 : (Nat → Int32) → Int32 → Int32 → Int32 → Int32 → Int32 → Int32 → Option (Int32 × (Nat → Int32) × Int32 × Int32 × Int32 × Int32 × Int32 × Int32)) (v_draft_parts : (Nat → Int32)) (v_lines : Int32) (v_fault : Int32) (u_at : Int32) (u_start : Int32) (u_token : Int32) (u_number : Int32) : Option (Int32 × (Nat → Int32) × Int32 × Int32 × Int32 × Int32 × Int32 × Int32) :=
  if u_token = (0 : Int32) then
    some ((1 : Int32), v_draft_parts, v_lines, v_fault, u_at, u_start, u_token, u_number)
  else
    if (320 : Int32) ≤ v_lines then
      some ((1 : Int32), v_draft_parts, v_lines, v_fault, u_at, u_start, u_token, u_number)
    else
      bd7 (fX6_takesLine v_draft_parts v_fault u_bytes u_size u_at u_start u_token u_number) fun r44 c44_draft_parts c44_fault c44_at c44_start c44_token c44_number =>
      if r44 = (0 : Int32) then
        some ((0 : Int32), c44_draft_parts, v_lines, c44_fault, c44_at, c44_start, c44_token, c44_number)
      else
        bd4 (fX5_nextToken u_bytes u_size c44_at c44_start c44_token c44_number) fun c63_at c63_start c63_token c63_number =>
        self25 c44_draft_parts (v_lines + (1 : Int32)) c44_fault c63_at c63_start c63_token c63_number
def fX6_takesAll (v_draft_parts : (Nat → Int32)) (v_lines : Int32) (v_fault : Int32) (u_bytes : (Nat → Int32)) (u_size : Int32) (u_at : Int32) (u_start : Int32) (u_token : Int32) (u_number : Int32) : Option (Int32 × (Nat → Int32) × Int32 × Int32 × Int32 × Int32 × Int32 × Int32) :=
  bd1 (fX1_clear v_draft_parts) fun c4_parts =>
  bd1 (fX5_rewind u_at) fun c18_at =>
  bd4 (fX5_nextToken u_bytes u_size c18_at u_start u_token u_number) fun c22_at c22_start c22_token c22_number =>
  lq7 (fX6_takesAll_b25 u_bytes u_size  ) fu c4_parts (0 : Int32) (0 : Int32) c22_at c22_start c22_token c22_number
set_option maxRecDepth 100000 in
set_option maxHeartbeats 8000000 in
theorem mX6_takesAll (X : Ev) (ad : Nat → Nat) (be : Nat → Nat) (v_draft_parts : (Nat → Int32)) (v_lines : Int32) (v_fault : Int32) (u_bytes : (Nat → Int32)) (u_size : Int32) (u_at : Int32) (u_start : Int32) (u_token : Int32) (u_number : Int32)  (o : Int32 × (Nat → Int32) × Int32 × Int32 × Int32 × Int32 × Int32 × Int32) (h : fX6_takesAll v_draft_parts v_lines v_fault u_bytes u_size u_at u_start u_token u_number = some o) : Ctr X yX6_takesAll cX6_takesAll 2 (some .boolean) 7 155 0 0 [.ref (ad 0), .ref (be 0)] [(ad 0, .inr (6, [.ref (ad 1), .int v_lines, .int v_fault])), (ad 1, .inr (1, [.ref (ad 2)])), (ad 2, .inl (eI X, 120, .inl v_draft_parts)), (be 0, .inr (5, [.ref (be 1), .int u_size, .int u_at, .int u_start, .int u_token, .int u_number])), (be 1, .inl (eB X, 320, .inl u_bytes))] (De (some (.int o.1)) [(ad 0, .inr (6, [.ref (ad 1), .int (o.2.2.1), .int (o.2.2.2.1)])), (ad 1, .inr (1, [.ref (ad 2)])), (ad 2, .inl (eI X, 120, .inl (o.2.1))), (be 0, .inr (5, [.ref (be 1), .int u_size, .int (o.2.2.2.2.1), .int (o.2.2.2.2.2.1), .int (o.2.2.2.2.2.2.1), .int (o.2.2.2.2.2.2.2)])), (be 1, .inl (eB X, 320, .inl u_bytes))]) := by
  refine Ctr.start (by decide) (Nat.le_of_ble_eq_true rfl) (fun k A ls C hq hin hW hl => ?_)
  replace C : Cx X k cX6_takesAll 2 (some .boolean) RX6 A 7 155 0 0 := C
  replace hl : lv_has ls 2 [(0, .ref (ad 0)), (1, .ref (be 0))] := hl
  suffices hh : ∀ (H : Heap) (L : List Loc), Wd X k A [(ad 0, .inr (6, [.ref (ad 1), .int v_lines, .int v_fault])), (ad 1, .inr (1, [.ref (ad 2)])), (ad 2, .inl (eI X, 120, .inl v_draft_parts)), (be 0, .inr (5, [.ref (be 1), .int u_size, .int u_at, .int u_start, .int u_token, .int u_number])), (be 1, .inl (eB X, 320, .inl u_bytes))] H L → Wx X k 0 0 H L 0 ls [] from hh _ _ hW
  clear hW
  intro H L hW
  have K25 : ∀ (n25 : Nat), ∀ (v_draft_parts : (Nat → Int32)), ∀ (v_lines : Int32), ∀ (v_fault : Int32), ∀ (u_at : Int32), ∀ (u_start : Int32), ∀ (u_token : Int32), ∀ (u_number : Int32), ∀ (H : Heap) (L : List Loc) (ls : Array Slot), Wd X k A [(ad 0, .inr (6, [.ref (ad 1), .int v_lines, .int v_fault])), (ad 1, .inr (1, [.ref (ad 2)])), (ad 2, .inl (eI X, 120, .inl v_draft_parts)), (be 0, .inr (5, [.ref (be 1), .int u_size, .int u_at, .int u_start, .int u_token, .int u_number])), (be 1, .inl (eB X, 320, .inl u_bytes))] H L → lv_has ls 2 [(0, .ref (ad 0)), (1, .ref (be 0))] → lq7 (fX6_takesAll_b25 u_bytes u_size  ) n25 v_draft_parts v_lines v_fault u_at u_start u_token u_number = some o → Wx X k 0 0 H L 25 ls [] := by
    intro n25
    induction n25 with
    | zero => intro v_draft_parts v_lines v_fault u_at u_start u_token u_number H L ls hW hl h; exact lq7_0 h
    | succ n25 ih25 =>
      intro v_draft_parts v_lines v_fault u_at u_start u_token u_number H L ls hW hl h
      rw [lq7_s] at h
      unfold fX6_takesAll_b25 at h
      refine r_aload_n C hl 1 dX6_takesAll_25 rfl rfl ?_
      refine r_getN C hW 3 rfl rfl iwX5 4 (by decide) 2 rfl rfl dX6_takesAll_26 ?_
      refine r_if_eq (tgt := 69) C dX6_takesAll_29 (by decide) (fun c29 => ?_) (fun c29 => ?_)
      · replace h := iT c29 h
        refine r_iconst (v := 1) C dX6_takesAll_69 (by decide) ?_
        exact r_zret C hq hW (by decide) (by obtain rfl := Option.some.inj h; exact ⟨rfl, rfl⟩) dX6_takesAll_70
      · replace h := iF c29 h
        refine r_aload_n C hl 0 dX6_takesAll_32 rfl rfl ?_
        refine r_get C hW 0 rfl rfl iwX6 1 (by decide) w_fl_X6_21 rfl dX6_takesAll_33 ?_
        refine r_sipush (v := 320) C dX6_takesAll_36 (by decide) ?_
        refine r_icmp_ge (tgt := 69) C dX6_takesAll_39 (by decide) (fun c39 => ?_) (fun c39 => ?_)
        · replace h := iT c39 h
          refine r_iconst (v := 1) C dX6_takesAll_69 (by decide) ?_
          exact r_zret C hq hW (by decide) (by obtain rfl := Option.some.inj h; exact ⟨rfl, rfl⟩) dX6_takesAll_70
        · replace h := iF c39 h
          refine r_aload_n C hl 0 dX6_takesAll_42 rfl rfl ?_
          refine r_aload_n C hl 1 dX6_takesAll_43 rfl rfl ?_
          obtain ⟨r44, c44_draft_parts, c44_fault, c44_at, c44_start, c44_token, c44_number, h44, h⟩ := bd7_some h
          refine r_V (wr := []) (np := 1) C hl (mX6_takesLine X ad be  v_draft_parts v_lines v_fault u_bytes u_size u_at u_start u_token u_number  (r44, c44_draft_parts, c44_fault, c44_at, c44_start, c44_token, c44_number) h44) hW [0, 1, 2, 3, 4] [] rfl rfl rfl rfl (by decide) 0 rfl rfl w_cd_X6_takesLine w_ml_X6_39 w_im_X6_takesLine w_sel_X6_takesLine w_in_HeightSheet_TextReader (by decide +kernel) rfl ⟨Nat.le_of_ble_eq_true rfl, Nat.le_of_ble_eq_true rfl⟩ ⟨Nat.zero_le _, Nat.zero_le _⟩ (Nat.le_of_ble_eq_true rfl) dX6_takesAll_44 (fun rv w1 H L hp hW => ?_) rfl
          obtain ⟨rfl, rfl⟩ := hp
          replace hW : Wd X k A [(ad 0, .inr (6, [.ref (ad 1), .int v_lines, .int c44_fault])), (ad 1, .inr (1, [.ref (ad 2)])), (ad 2, .inl (eI X, 120, .inl c44_draft_parts)), (be 0, .inr (5, [.ref (be 1), .int u_size, .int c44_at, .int c44_start, .int c44_token, .int c44_number])), (be 1, .inl (eB X, 320, .inl u_bytes))] H L := hW.sub [0, 1, 2, 3, 4] rfl rfl
          show Wx X k 0 0 H L 47 ls [.int r44]
          refine r_if_ne (tgt := 52) C dX6_takesAll_47 (by decide) (fun c47 => ?_) (fun c47 => ?_)
          · replace h := iF c47 h
            refine r_aload_n C hl 0 dX6_takesAll_52 rfl rfl ?_
            refine r_dup C rfl dX6_takesAll_53 ?_
            refine r_get C hW 0 rfl rfl iwX6 1 (by decide) w_fl_X6_21 rfl dX6_takesAll_54 ?_
            refine r_iconst (v := 1) C dX6_takesAll_57 (by decide) ?_
            refine r_iadd C dX6_takesAll_58 ?_
            refine r_put (ws' := [(ad 0, .inr (6, [.ref (ad 1), .int (v_lines + (1 : Int32)), .int c44_fault])), (ad 1, .inr (1, [.ref (ad 2)])), (ad 2, .inl (eI X, 120, .inl c44_draft_parts)), (be 0, .inr (5, [.ref (be 1), .int u_size, .int c44_at, .int c44_start, .int c44_token, .int c44_number])), (be 1, .inl (eB X, 320, .inl u_bytes))]) C hW 0 rfl rfl iwX6 tyX6_ok nmX6 1 (by decide) w_fl_X6_21 rfl (tyX6_ok 1 (by decide)) rfl rfl (Nat.le_of_ble_eq_true rfl) rfl dX6_takesAll_59 (fun H L hW => ?_)
            refine r_aload_n C hl 1 dX6_takesAll_62 rfl rfl ?_
            obtain ⟨c63_at, c63_start, c63_token, c63_number, h63, h⟩ := bd4_some h
            refine r_VN (wr := [(ad 0, .inr (6, [.ref (ad 1), .int (v_lines + (1 : Int32)), .int c44_fault])), (ad 1, .inr (1, [.ref (ad 2)])), (ad 2, .inl (eI X, 120, .inl c44_draft_parts))]) (np := 0) C hl (mX5_nextToken X be  u_bytes u_size c44_at c44_start c44_token c44_number  (c63_at, c63_start, c63_token, c63_number) h63) hW [3, 4] [0, 1, 2] rfl rfl rfl rfl (by decide) 0 rfl rfl w_cd_X5_nextToken w_im_X5_nextToken w_sel_X5_nextToken w_in_HeightSheet_Tape 16 rfl (by decide +kernel) rfl ⟨Nat.le_of_ble_eq_true rfl, Nat.le_of_ble_eq_true rfl⟩ ⟨Nat.zero_le _, Nat.zero_le _⟩ (Nat.le_of_ble_eq_true rfl) dX6_takesAll_63 (fun rv w1 H L hp hW => ?_) rfl
            obtain ⟨rfl, rfl⟩ := hp
            replace hW : Wd X k A [(ad 0, .inr (6, [.ref (ad 1), .int (v_lines + (1 : Int32)), .int c44_fault])), (ad 1, .inr (1, [.ref (ad 2)])), (ad 2, .inl (eI X, 120, .inl c44_draft_parts)), (be 0, .inr (5, [.ref (be 1), .int u_size, .int c63_at, .int c63_start, .int c63_token, .int c63_number])), (be 1, .inl (eB X, 320, .inl u_bytes))] H L := hW.sub [0, 1, 2, 3, 4] rfl rfl
            show Wx X k 0 0 H L 66 ls []
            refine r_goto (tgt := 25) C dX6_takesAll_66 (by decide) ?_
            exact ih25 c44_draft_parts (v_lines + (1 : Int32)) c44_fault c63_at c63_start c63_token c63_number H L ls hW hl h
          · replace h := iT c47 h
            refine r_iconst (v := 0) C dX6_takesAll_50 (by decide) ?_
            exact r_zret C hq hW (by decide) (by obtain rfl := Option.some.inj h; exact ⟨rfl, rfl⟩) dX6_takesAll_51
  unfold fX6_takesAll at h
  refine r_aload_n C hl 0 dX6_takesAll_0 rfl rfl ?_
  refine r_get C hW 0 rfl rfl iwX6 0 (by decide) w_fl_X6_12 rfl dX6_takesAll_1 ?_
  obtain ⟨c4_parts, h4, h⟩ := bd1_some h
  refine r_VN (wr := [(ad 0, .inr (6, [.ref (ad 1), .int v_lines, .int v_fault])), (be 0, .inr (5, [.ref (be 1), .int u_size, .int u_at, .int u_start, .int u_token, .int u_number])), (be 1, .inl (eB X, 320, .inl u_bytes))]) (np := 0) C hl (mX1_clear X (fun i => ad (1 + i))  v_draft_parts  c4_parts h4) hW [1, 2] [0, 3, 4] rfl rfl rfl rfl (by decide) 0 rfl rfl w_cd_X1_clear w_im_X1_clear w_sel_X1_clear w_in_HeightSheet_Formulas 14 rfl (by decide +kernel) rfl ⟨Nat.le_of_ble_eq_true rfl, Nat.le_of_ble_eq_true rfl⟩ ⟨Nat.zero_le _, Nat.zero_le _⟩ (Nat.le_of_ble_eq_true rfl) dX6_takesAll_4 (fun rv w1 H L hp hW => ?_) rfl
  obtain ⟨rfl, rfl⟩ := hp
  replace hW : Wd X k A [(ad 0, .inr (6, [.ref (ad 1), .int v_lines, .int v_fault])), (ad 1, .inr (1, [.ref (ad 2)])), (ad 2, .inl (eI X, 120, .inl c4_parts)), (be 0, .inr (5, [.ref (be 1), .int u_size, .int u_at, .int u_start, .int u_token, .int u_number])), (be 1, .inl (eB X, 320, .inl u_bytes))] H L := hW.sub [0, 3, 4, 1, 2] rfl rfl
  show Wx X k 0 0 H L 7 ls []
  refine r_aload_n C hl 0 dX6_takesAll_7 rfl rfl ?_
  refine r_iconst (v := 0) C dX6_takesAll_8 (by decide) ?_
  refine r_put (ws' := [(ad 0, .inr (6, [.ref (ad 1), .int (0 : Int32), .int v_fault])), (ad 1, .inr (1, [.ref (ad 2)])), (ad 2, .inl (eI X, 120, .inl c4_parts)), (be 0, .inr (5, [.ref (be 1), .int u_size, .int u_at, .int u_start, .int u_token, .int u_number])), (be 1, .inl (eB X, 320, .inl u_bytes))]) C hW 0 rfl rfl iwX6 tyX6_ok nmX6 1 (by decide) w_fl_X6_21 rfl (tyX6_ok 1 (by decide)) rfl rfl (Nat.le_of_ble_eq_true rfl) rfl dX6_takesAll_9 (fun H L hW => ?_)
  refine r_aload_n C hl 0 dX6_takesAll_12 rfl rfl ?_
  refine r_iconst (v := 0) C dX6_takesAll_13 (by decide) ?_
  refine r_put (ws' := [(ad 0, .inr (6, [.ref (ad 1), .int (0 : Int32), .int (0 : Int32)])), (ad 1, .inr (1, [.ref (ad 2)])), (ad 2, .inl (eI X, 120, .inl c4_parts)), (be 0, .inr (5, [.ref (be 1), .int u_size, .int u_at, .int u_start, .int u_token, .int u_number])), (be 1, .inl (eB X, 320, .inl u_bytes))]) C hW 0 rfl rfl iwX6 tyX6_ok nmX6 2 (by decide) w_fl_X6_25 rfl (tyX6_ok 2 (by decide)) rfl rfl (Nat.le_of_ble_eq_true rfl) rfl dX6_takesAll_14 (fun H L hW => ?_)
  refine r_aload_n C hl 1 dX6_takesAll_17 rfl rfl ?_
  obtain ⟨c18_at, h18, h⟩ := bd1_some h
  refine r_VN (wr := [(ad 0, .inr (6, [.ref (ad 1), .int (0 : Int32), .int (0 : Int32)])), (ad 1, .inr (1, [.ref (ad 2)])), (ad 2, .inl (eI X, 120, .inl c4_parts))]) (np := 0) C hl (mX5_rewind X be  u_bytes u_size u_at u_start u_token u_number  c18_at h18) hW [3, 4] [0, 1, 2] rfl rfl rfl rfl (by decide) 0 rfl rfl w_cd_X5_rewind w_im_X5_rewind w_sel_X5_rewind w_in_HeightSheet_Tape 15 rfl (by decide +kernel) rfl ⟨Nat.le_of_ble_eq_true rfl, Nat.le_of_ble_eq_true rfl⟩ ⟨Nat.zero_le _, Nat.zero_le _⟩ (Nat.le_of_ble_eq_true rfl) dX6_takesAll_18 (fun rv w1 H L hp hW => ?_) rfl
  obtain ⟨rfl, rfl⟩ := hp
  replace hW : Wd X k A [(ad 0, .inr (6, [.ref (ad 1), .int (0 : Int32), .int (0 : Int32)])), (ad 1, .inr (1, [.ref (ad 2)])), (ad 2, .inl (eI X, 120, .inl c4_parts)), (be 0, .inr (5, [.ref (be 1), .int u_size, .int c18_at, .int u_start, .int u_token, .int u_number])), (be 1, .inl (eB X, 320, .inl u_bytes))] H L := hW.sub [0, 1, 2, 3, 4] rfl rfl
  show Wx X k 0 0 H L 21 ls []
  refine r_aload_n C hl 1 dX6_takesAll_21 rfl rfl ?_
  obtain ⟨c22_at, c22_start, c22_token, c22_number, h22, h⟩ := bd4_some h
  refine r_VN (wr := [(ad 0, .inr (6, [.ref (ad 1), .int (0 : Int32), .int (0 : Int32)])), (ad 1, .inr (1, [.ref (ad 2)])), (ad 2, .inl (eI X, 120, .inl c4_parts))]) (np := 0) C hl (mX5_nextToken X be  u_bytes u_size c18_at u_start u_token u_number  (c22_at, c22_start, c22_token, c22_number) h22) hW [3, 4] [0, 1, 2] rfl rfl rfl rfl (by decide) 0 rfl rfl w_cd_X5_nextToken w_im_X5_nextToken w_sel_X5_nextToken w_in_HeightSheet_Tape 16 rfl (by decide +kernel) rfl ⟨Nat.le_of_ble_eq_true rfl, Nat.le_of_ble_eq_true rfl⟩ ⟨Nat.zero_le _, Nat.zero_le _⟩ (Nat.le_of_ble_eq_true rfl) dX6_takesAll_22 (fun rv w1 H L hp hW => ?_) rfl
  obtain ⟨rfl, rfl⟩ := hp
  replace hW : Wd X k A [(ad 0, .inr (6, [.ref (ad 1), .int (0 : Int32), .int (0 : Int32)])), (ad 1, .inr (1, [.ref (ad 2)])), (ad 2, .inl (eI X, 120, .inl c4_parts)), (be 0, .inr (5, [.ref (be 1), .int u_size, .int c22_at, .int c22_start, .int c22_token, .int c22_number])), (be 1, .inl (eB X, 320, .inl u_bytes))] H L := hW.sub [0, 1, 2, 3, 4] rfl rfl
  show Wx X k 0 0 H L 25 ls []
  exact K25  fu c4_parts (0 : Int32) (0 : Int32) c22_at c22_start c22_token c22_number H L ls hW hl h
def fX7_text_b37 (v_tape_bytes : (Nat → Int32))  (v_tape_size : Int32) (v_tape_at : Int32) (v_tape_start : Int32) (v_tape_token : Int32) (v_tape_number : Int32) (v_reading_draft_parts : (Nat → Int32)) (v_reading_lines : Int32) (v_reading_fault : Int32) (v_formulas_parts : (Nat → Int32)) (v_now : RKT) (v_history_size : Int32) (v_wasChanged : Int32) (self37 : (Nat → Int32) → Int32 → Option (Int32 × Int32 × Int32 × Int32 × Int32 × Int32 × (Nat → Int32) × Int32 × Int32 × (Nat → Int32) × RKT × Int32 × (Nat → Int32) × Int32)) (v_isKept : (Nat → Int32)) (l2 : Int32) : Option (Int32 × Int32 × Int32 × Int32 × Int32 × Int32 × (Nat → Int32) × Int32 × Int32 × (Nat → Int32) × RKT × Int32 × (Nat → Int32) × Int32) :=
  if (2 : Int32) ≤ l2 then
    bd4 (fX7_beginWith v_formulas_parts v_now v_history_size v_wasChanged v_reading_draft_parts) fun c63_formulas_parts c63_now c63_history_size c63_wasChanged =>
    some (v_reading_lines, v_tape_size, v_tape_at, v_tape_start, v_tape_token, v_tape_number, v_reading_draft_parts, v_reading_lines, v_reading_fault, c63_formulas_parts, c63_now, c63_history_size, v_isKept, c63_wasChanged)
  else
    wr v_isKept 2 l2 (vp_nar .boolean (0 : Int32)) fun w48 =>
    self37 w48 (l2 + (1 : Int32))
def fX7_text (v_tape_bytes : (Nat → Int32)) (v_tape_size : Int32) (v_tape_at : Int32) (v_tape_start : Int32) (v_tape_token : Int32) (v_tape_number : Int32) (v_reading_draft_parts : (Nat → Int32)) (v_reading_lines : Int32) (v_reading_fault : Int32) (v_formulas_parts : (Nat → Int32)) (v_now : RKT) (v_history_size : Int32) (v_isKept : (Nat → Int32)) (v_wasChanged : Int32) : Option (Int32 × Int32 × Int32 × Int32 × Int32 × Int32 × (Nat → Int32) × Int32 × Int32 × (Nat → Int32) × RKT × Int32 × (Nat → Int32) × Int32) :=
  bd8 (fX6_takesAll v_reading_draft_parts v_reading_lines v_reading_fault v_tape_bytes v_tape_size v_tape_at v_tape_start v_tape_token v_tape_number) fun r8 c8_draft_parts c8_lines c8_fault c8_at c8_start c8_token c8_number =>
  if r8 = (0 : Int32) then
    some ((-10 : Int32) - c8_start, (0 : Int32), c8_at, c8_start, c8_token, c8_number, c8_draft_parts, c8_lines, c8_fault, v_formulas_parts, v_now, v_history_size, v_isKept, v_wasChanged)
  else
    lq2 (fX7_text_b37 v_tape_bytes  (0 : Int32) c8_at c8_start c8_token c8_number c8_draft_parts c8_lines c8_fault v_formulas_parts v_now v_history_size v_wasChanged) fu v_isKept (0 : Int32)
set_option maxRecDepth 100000 in
set_option maxHeartbeats 8000000 in
theorem mX7_text (X : Ev) (ad : Nat → Nat) (v_tape_bytes : (Nat → Int32)) (v_tape_size : Int32) (v_tape_at : Int32) (v_tape_start : Int32) (v_tape_token : Int32) (v_tape_number : Int32) (v_reading_draft_parts : (Nat → Int32)) (v_reading_lines : Int32) (v_reading_fault : Int32) (v_formulas_parts : (Nat → Int32)) (v_now : RKT) (v_next : RKT) (v_asked_cell : Int32) (v_asked_kind : Int32) (v_asked_p : Int32) (v_asked_q : Int32) (v_asked_r : Int32) (v_former_cell : Int32) (v_former_kind : Int32) (v_former_p : Int32) (v_former_q : Int32) (v_former_r : Int32) (v_history_entries : (Nat → Int32)) (v_history_size : Int32) (v_images0_parts : (Nat → Int32)) (v_images1_parts : (Nat → Int32)) (v_isKept : (Nat → Int32)) (v_rows0_items : (Nat → Int32)) (v_rows0_lane : Int32) (v_rows0_size : Int32) (v_rows1_items : (Nat → Int32)) (v_rows1_lane : Int32) (v_rows1_size : Int32) (v_rows2_items : (Nat → Int32)) (v_rows2_lane : Int32) (v_rows2_size : Int32) (v_rows3_items : (Nat → Int32)) (v_rows3_lane : Int32) (v_rows3_size : Int32) (v_wasChanged : Int32) (v_evaluated : Int32) (v_moved : Int32) (v_tornBy : Int32)  (o : Int32 × Int32 × Int32 × Int32 × Int32 × Int32 × (Nat → Int32) × Int32 × Int32 × (Nat → Int32) × RKT × Int32 × (Nat → Int32) × Int32) (h : fX7_text v_tape_bytes v_tape_size v_tape_at v_tape_start v_tape_token v_tape_number v_reading_draft_parts v_reading_lines v_reading_fault v_formulas_parts v_now v_history_size v_isKept v_wasChanged = some o) : Ctr X yX7_text cX7_text 3 (some .int) 8 176 0 0 [.ref (ad 0)] [(ad 0, .inr (7, [.ref (ad 1), .ref (ad 3), .ref (ad 6), .ref (rkA v_now 0), .ref (rkA v_next 0), .ref (ad 8), .ref (ad 9), .ref (ad 10), .ref (ad 12), .ref (ad 17), .ref (ad 18), .int v_wasChanged, .int v_evaluated, .int v_moved, .int v_tornBy])), (ad 1, .inr (5, [.ref (ad 2), .int v_tape_size, .int v_tape_at, .int v_tape_start, .int v_tape_token, .int v_tape_number])), (ad 2, .inl (eB X, 320, .inl v_tape_bytes)), (ad 3, .inr (6, [.ref (ad 4), .int v_reading_lines, .int v_reading_fault])), (ad 4, .inr (1, [.ref (ad 5)])), (ad 5, .inl (eI X, 120, .inl v_reading_draft_parts)), (ad 6, .inr (1, [.ref (ad 7)])), (ad 7, .inl (eI X, 120, .inl v_formulas_parts)), (rkA v_now 0, .inr (3, [.ref (rkA v_now 1), .ref (rkA v_now 2), .ref (rkA v_now 3), .ref (rkA v_now 4), .int (rkK v_now), .int (rkC v_now), .int (rkN v_now)])), (rkA v_now 1, .inl (eI X, 30, .inl (rkV v_now))), (rkA v_now 2, .inl (eI X, 30, .inl (rkH v_now))), (rkA v_now 3, .inl (eI X, 30, .inl (rkR v_now))), (rkA v_now 4, .inl (eI X, 30, .inl (rkW v_now))), (rkA v_next 0, .inr (3, [.ref (rkA v_next 1), .ref (rkA v_next 2), .ref (rkA v_next 3), .ref (rkA v_next 4), .int (rkK v_next), .int (rkC v_next), .int (rkN v_next)])), (rkA v_next 1, .inl (eI X, 30, .inl (rkV v_next))), (rkA v_next 2, .inl (eI X, 30, .inl (rkH v_next))), (rkA v_next 3, .inl (eI X, 30, .inl (rkR v_next))), (rkA v_next 4, .inl (eI X, 30, .inl (rkW v_next))), (ad 8, .inr (0, [.int v_asked_cell, .int v_asked_kind, .int v_asked_p, .int v_asked_q, .int v_asked_r])), (ad 9, .inr (0, [.int v_former_cell, .int v_former_kind, .int v_former_p, .int v_former_q, .int v_former_r])), (ad 10, .inr (2, [.ref (ad 11), .int v_history_size])), (ad 11, .inl (eI X, 100, .inl v_history_entries)), (ad 12, .inl (eF X, 2, .inr (.inr (.inr (.inr (va_up (va_up (fun _ => none) 0 (some (ad 13))) 1 (some (ad 15)))))))), (ad 13, .inr (1, [.ref (ad 14)])), (ad 14, .inl (eI X, 120, .inl v_images0_parts)), (ad 15, .inr (1, [.ref (ad 16)])), (ad 16, .inl (eI X, 120, .inl v_images1_parts)), (ad 17, .inl (eZ X, 2, .inl v_isKept)), (ad 18, .inl (eR X, 4, .inr (.inr (.inr (.inr (va_up (va_up (va_up (va_up (fun _ => none) 0 (some (ad 19))) 1 (some (ad 21))) 2 (some (ad 23))) 3 (some (ad 25)))))))), (ad 19, .inr (4, [.ref (ad 20), .int v_rows0_lane, .int v_rows0_size])), (ad 20, .inl (eI X, 40, .inl v_rows0_items)), (ad 21, .inr (4, [.ref (ad 22), .int v_rows1_lane, .int v_rows1_size])), (ad 22, .inl (eI X, 40, .inl v_rows1_items)), (ad 23, .inr (4, [.ref (ad 24), .int v_rows2_lane, .int v_rows2_size])), (ad 24, .inl (eI X, 40, .inl v_rows2_items)), (ad 25, .inr (4, [.ref (ad 26), .int v_rows3_lane, .int v_rows3_size])), (ad 26, .inl (eI X, 40, .inl v_rows3_items))] (De (some (.int o.1)) [(ad 0, .inr (7, [.ref (ad 1), .ref (ad 3), .ref (ad 6), .ref (rkA (o.2.2.2.2.2.2.2.2.2.2.1) 0), .ref (rkA v_next 0), .ref (ad 8), .ref (ad 9), .ref (ad 10), .ref (ad 12), .ref (ad 17), .ref (ad 18), .int (o.2.2.2.2.2.2.2.2.2.2.2.2.2), .int v_evaluated, .int v_moved, .int v_tornBy])), (ad 1, .inr (5, [.ref (ad 2), .int (o.2.1), .int (o.2.2.1), .int (o.2.2.2.1), .int (o.2.2.2.2.1), .int (o.2.2.2.2.2.1)])), (ad 2, .inl (eB X, 320, .inl v_tape_bytes)), (ad 3, .inr (6, [.ref (ad 4), .int (o.2.2.2.2.2.2.2.1), .int (o.2.2.2.2.2.2.2.2.1)])), (ad 4, .inr (1, [.ref (ad 5)])), (ad 5, .inl (eI X, 120, .inl (o.2.2.2.2.2.2.1))), (ad 6, .inr (1, [.ref (ad 7)])), (ad 7, .inl (eI X, 120, .inl (o.2.2.2.2.2.2.2.2.2.1))), (rkA (o.2.2.2.2.2.2.2.2.2.2.1) 0, .inr (3, [.ref (rkA (o.2.2.2.2.2.2.2.2.2.2.1) 1), .ref (rkA (o.2.2.2.2.2.2.2.2.2.2.1) 2), .ref (rkA (o.2.2.2.2.2.2.2.2.2.2.1) 3), .ref (rkA (o.2.2.2.2.2.2.2.2.2.2.1) 4), .int (rkK (o.2.2.2.2.2.2.2.2.2.2.1)), .int (rkC (o.2.2.2.2.2.2.2.2.2.2.1)), .int (rkN (o.2.2.2.2.2.2.2.2.2.2.1))])), (rkA (o.2.2.2.2.2.2.2.2.2.2.1) 1, .inl (eI X, 30, .inl (rkV (o.2.2.2.2.2.2.2.2.2.2.1)))), (rkA (o.2.2.2.2.2.2.2.2.2.2.1) 2, .inl (eI X, 30, .inl (rkH (o.2.2.2.2.2.2.2.2.2.2.1)))), (rkA (o.2.2.2.2.2.2.2.2.2.2.1) 3, .inl (eI X, 30, .inl (rkR (o.2.2.2.2.2.2.2.2.2.2.1)))), (rkA (o.2.2.2.2.2.2.2.2.2.2.1) 4, .inl (eI X, 30, .inl (rkW (o.2.2.2.2.2.2.2.2.2.2.1)))), (rkA v_next 0, .inr (3, [.ref (rkA v_next 1), .ref (rkA v_next 2), .ref (rkA v_next 3), .ref (rkA v_next 4), .int (rkK v_next), .int (rkC v_next), .int (rkN v_next)])), (rkA v_next 1, .inl (eI X, 30, .inl (rkV v_next))), (rkA v_next 2, .inl (eI X, 30, .inl (rkH v_next))), (rkA v_next 3, .inl (eI X, 30, .inl (rkR v_next))), (rkA v_next 4, .inl (eI X, 30, .inl (rkW v_next))), (ad 8, .inr (0, [.int v_asked_cell, .int v_asked_kind, .int v_asked_p, .int v_asked_q, .int v_asked_r])), (ad 9, .inr (0, [.int v_former_cell, .int v_former_kind, .int v_former_p, .int v_former_q, .int v_former_r])), (ad 10, .inr (2, [.ref (ad 11), .int (o.2.2.2.2.2.2.2.2.2.2.2.1)])), (ad 11, .inl (eI X, 100, .inl v_history_entries)), (ad 12, .inl (eF X, 2, .inr (.inr (.inr (.inr (va_up (va_up (fun _ => none) 0 (some (ad 13))) 1 (some (ad 15)))))))), (ad 13, .inr (1, [.ref (ad 14)])), (ad 14, .inl (eI X, 120, .inl v_images0_parts)), (ad 15, .inr (1, [.ref (ad 16)])), (ad 16, .inl (eI X, 120, .inl v_images1_parts)), (ad 17, .inl (eZ X, 2, .inl (o.2.2.2.2.2.2.2.2.2.2.2.2.1))), (ad 18, .inl (eR X, 4, .inr (.inr (.inr (.inr (va_up (va_up (va_up (va_up (fun _ => none) 0 (some (ad 19))) 1 (some (ad 21))) 2 (some (ad 23))) 3 (some (ad 25)))))))), (ad 19, .inr (4, [.ref (ad 20), .int v_rows0_lane, .int v_rows0_size])), (ad 20, .inl (eI X, 40, .inl v_rows0_items)), (ad 21, .inr (4, [.ref (ad 22), .int v_rows1_lane, .int v_rows1_size])), (ad 22, .inl (eI X, 40, .inl v_rows1_items)), (ad 23, .inr (4, [.ref (ad 24), .int v_rows2_lane, .int v_rows2_size])), (ad 24, .inl (eI X, 40, .inl v_rows2_items)), (ad 25, .inr (4, [.ref (ad 26), .int v_rows3_lane, .int v_rows3_size])), (ad 26, .inl (eI X, 40, .inl v_rows3_items))]) := by
  refine Ctr.start (by decide) (Nat.le_of_ble_eq_true rfl) (fun k A ls C hq hin hW hl => ?_)
  replace C : Cx X k cX7_text 3 (some .int) RX7 A 8 176 0 0 := C
  replace hl : lv_has ls 3 [(0, .ref (ad 0))] := hl
  suffices hh : ∀ (H : Heap) (L : List Loc), Wd X k A [(ad 0, .inr (7, [.ref (ad 1), .ref (ad 3), .ref (ad 6), .ref (rkA v_now 0), .ref (rkA v_next 0), .ref (ad 8), .ref (ad 9), .ref (ad 10), .ref (ad 12), .ref (ad 17), .ref (ad 18), .int v_wasChanged, .int v_evaluated, .int v_moved, .int v_tornBy])), (ad 1, .inr (5, [.ref (ad 2), .int v_tape_size, .int v_tape_at, .int v_tape_start, .int v_tape_token, .int v_tape_number])), (ad 2, .inl (eB X, 320, .inl v_tape_bytes)), (ad 3, .inr (6, [.ref (ad 4), .int v_reading_lines, .int v_reading_fault])), (ad 4, .inr (1, [.ref (ad 5)])), (ad 5, .inl (eI X, 120, .inl v_reading_draft_parts)), (ad 6, .inr (1, [.ref (ad 7)])), (ad 7, .inl (eI X, 120, .inl v_formulas_parts)), (rkA v_now 0, .inr (3, [.ref (rkA v_now 1), .ref (rkA v_now 2), .ref (rkA v_now 3), .ref (rkA v_now 4), .int (rkK v_now), .int (rkC v_now), .int (rkN v_now)])), (rkA v_now 1, .inl (eI X, 30, .inl (rkV v_now))), (rkA v_now 2, .inl (eI X, 30, .inl (rkH v_now))), (rkA v_now 3, .inl (eI X, 30, .inl (rkR v_now))), (rkA v_now 4, .inl (eI X, 30, .inl (rkW v_now))), (rkA v_next 0, .inr (3, [.ref (rkA v_next 1), .ref (rkA v_next 2), .ref (rkA v_next 3), .ref (rkA v_next 4), .int (rkK v_next), .int (rkC v_next), .int (rkN v_next)])), (rkA v_next 1, .inl (eI X, 30, .inl (rkV v_next))), (rkA v_next 2, .inl (eI X, 30, .inl (rkH v_next))), (rkA v_next 3, .inl (eI X, 30, .inl (rkR v_next))), (rkA v_next 4, .inl (eI X, 30, .inl (rkW v_next))), (ad 8, .inr (0, [.int v_asked_cell, .int v_asked_kind, .int v_asked_p, .int v_asked_q, .int v_asked_r])), (ad 9, .inr (0, [.int v_former_cell, .int v_former_kind, .int v_former_p, .int v_former_q, .int v_former_r])), (ad 10, .inr (2, [.ref (ad 11), .int v_history_size])), (ad 11, .inl (eI X, 100, .inl v_history_entries)), (ad 12, .inl (eF X, 2, .inr (.inr (.inr (.inr (va_up (va_up (fun _ => none) 0 (some (ad 13))) 1 (some (ad 15)))))))), (ad 13, .inr (1, [.ref (ad 14)])), (ad 14, .inl (eI X, 120, .inl v_images0_parts)), (ad 15, .inr (1, [.ref (ad 16)])), (ad 16, .inl (eI X, 120, .inl v_images1_parts)), (ad 17, .inl (eZ X, 2, .inl v_isKept)), (ad 18, .inl (eR X, 4, .inr (.inr (.inr (.inr (va_up (va_up (va_up (va_up (fun _ => none) 0 (some (ad 19))) 1 (some (ad 21))) 2 (some (ad 23))) 3 (some (ad 25)))))))), (ad 19, .inr (4, [.ref (ad 20), .int v_rows0_lane, .int v_rows0_size])), (ad 20, .inl (eI X, 40, .inl v_rows0_items)), (ad 21, .inr (4, [.ref (ad 22), .int v_rows1_lane, .int v_rows1_size])), (ad 22, .inl (eI X, 40, .inl v_rows1_items)), (ad 23, .inr (4, [.ref (ad 24), .int v_rows2_lane, .int v_rows2_size])), (ad 24, .inl (eI X, 40, .inl v_rows2_items)), (ad 25, .inr (4, [.ref (ad 26), .int v_rows3_lane, .int v_rows3_size])), (ad 26, .inl (eI X, 40, .inl v_rows3_items))] H L → Wx X k 0 0 H L 0 ls [] from hh _ _ hW
  clear hW
  intro H L hW
  have K37 : ∀ (v_tape_size : Int32), ∀ (v_tape_at : Int32), ∀ (v_tape_start : Int32), ∀ (v_tape_token : Int32), ∀ (v_tape_number : Int32), ∀ (v_reading_draft_parts : (Nat → Int32)), ∀ (v_reading_lines : Int32), ∀ (v_reading_fault : Int32), ∀ (v_formulas_parts : (Nat → Int32)), ∀ (v_now : RKT), ∀ (v_history_size : Int32), ∀ (v_wasChanged : Int32), ∀ (n37 : Nat), ∀ (v_isKept : (Nat → Int32)), ∀ (l2 : Int32), ∀ (H : Heap) (L : List Loc) (ls : Array Slot), Wd X k A [(ad 0, .inr (7, [.ref (ad 1), .ref (ad 3), .ref (ad 6), .ref (rkA v_now 0), .ref (rkA v_next 0), .ref (ad 8), .ref (ad 9), .ref (ad 10), .ref (ad 12), .ref (ad 17), .ref (ad 18), .int v_wasChanged, .int v_evaluated, .int v_moved, .int v_tornBy])), (ad 1, .inr (5, [.ref (ad 2), .int v_tape_size, .int v_tape_at, .int v_tape_start, .int v_tape_token, .int v_tape_number])), (ad 2, .inl (eB X, 320, .inl v_tape_bytes)), (ad 3, .inr (6, [.ref (ad 4), .int v_reading_lines, .int v_reading_fault])), (ad 4, .inr (1, [.ref (ad 5)])), (ad 5, .inl (eI X, 120, .inl v_reading_draft_parts)), (ad 6, .inr (1, [.ref (ad 7)])), (ad 7, .inl (eI X, 120, .inl v_formulas_parts)), (rkA v_now 0, .inr (3, [.ref (rkA v_now 1), .ref (rkA v_now 2), .ref (rkA v_now 3), .ref (rkA v_now 4), .int (rkK v_now), .int (rkC v_now), .int (rkN v_now)])), (rkA v_now 1, .inl (eI X, 30, .inl (rkV v_now))), (rkA v_now 2, .inl (eI X, 30, .inl (rkH v_now))), (rkA v_now 3, .inl (eI X, 30, .inl (rkR v_now))), (rkA v_now 4, .inl (eI X, 30, .inl (rkW v_now))), (rkA v_next 0, .inr (3, [.ref (rkA v_next 1), .ref (rkA v_next 2), .ref (rkA v_next 3), .ref (rkA v_next 4), .int (rkK v_next), .int (rkC v_next), .int (rkN v_next)])), (rkA v_next 1, .inl (eI X, 30, .inl (rkV v_next))), (rkA v_next 2, .inl (eI X, 30, .inl (rkH v_next))), (rkA v_next 3, .inl (eI X, 30, .inl (rkR v_next))), (rkA v_next 4, .inl (eI X, 30, .inl (rkW v_next))), (ad 8, .inr (0, [.int v_asked_cell, .int v_asked_kind, .int v_asked_p, .int v_asked_q, .int v_asked_r])), (ad 9, .inr (0, [.int v_former_cell, .int v_former_kind, .int v_former_p, .int v_former_q, .int v_former_r])), (ad 10, .inr (2, [.ref (ad 11), .int v_history_size])), (ad 11, .inl (eI X, 100, .inl v_history_entries)), (ad 12, .inl (eF X, 2, .inr (.inr (.inr (.inr (va_up (va_up (fun _ => none) 0 (some (ad 13))) 1 (some (ad 15)))))))), (ad 13, .inr (1, [.ref (ad 14)])), (ad 14, .inl (eI X, 120, .inl v_images0_parts)), (ad 15, .inr (1, [.ref (ad 16)])), (ad 16, .inl (eI X, 120, .inl v_images1_parts)), (ad 17, .inl (eZ X, 2, .inl v_isKept)), (ad 18, .inl (eR X, 4, .inr (.inr (.inr (.inr (va_up (va_up (va_up (va_up (fun _ => none) 0 (some (ad 19))) 1 (some (ad 21))) 2 (some (ad 23))) 3 (some (ad 25)))))))), (ad 19, .inr (4, [.ref (ad 20), .int v_rows0_lane, .int v_rows0_size])), (ad 20, .inl (eI X, 40, .inl v_rows0_items)), (ad 21, .inr (4, [.ref (ad 22), .int v_rows1_lane, .int v_rows1_size])), (ad 22, .inl (eI X, 40, .inl v_rows1_items)), (ad 23, .inr (4, [.ref (ad 24), .int v_rows2_lane, .int v_rows2_size])), (ad 24, .inl (eI X, 40, .inl v_rows2_items)), (ad 25, .inr (4, [.ref (ad 26), .int v_rows3_lane, .int v_rows3_size])), (ad 26, .inl (eI X, 40, .inl v_rows3_items))] H L → lv_has ls 3 [(0, .ref (ad 0)), (2, .int l2)] → lq2 (fX7_text_b37 v_tape_bytes  v_tape_size v_tape_at v_tape_start v_tape_token v_tape_number v_reading_draft_parts v_reading_lines v_reading_fault v_formulas_parts v_now v_history_size v_wasChanged) n37 v_isKept l2 = some o → Wx X k 0 0 H L 37 ls [] := by
    intro v_tape_size v_tape_at v_tape_start v_tape_token v_tape_number v_reading_draft_parts v_reading_lines v_reading_fault v_formulas_parts v_now v_history_size v_wasChanged
    intro n37
    induction n37 with
    | zero => intro v_isKept l2 H L ls hW hl h; exact lq2_0 h
    | succ n37 ih37 =>
      intro v_isKept l2 H L ls hW hl h
      rw [lq2_s] at h
      unfold fX7_text_b37 at h
      refine r_iload_n C hl 1 dX7_text_37 rfl rfl ?_
      refine r_iconst (v := 2) C dX7_text_38 (by decide) ?_
      refine r_icmp_ge (tgt := 55) C dX7_text_39 (by decide) (fun c39 => ?_) (fun c39 => ?_)
      · replace h := iT c39 h
        refine r_aload_n C hl 0 dX7_text_55 rfl rfl ?_
        refine r_aload_n C hl 0 dX7_text_56 rfl rfl ?_
        refine r_get C hW 0 rfl rfl iwX7 1 (by decide) w_fl_X7_19 rfl dX7_text_57 ?_
        refine r_getN C hW 3 rfl rfl iwX6 0 (by decide) 4 rfl rfl dX7_text_60 ?_
        obtain ⟨c63_formulas_parts, c63_now, c63_history_size, c63_wasChanged, h63, h⟩ := bd4_some h
        refine r_V (wr := [(ad 1, .inr (5, [.ref (ad 2), .int v_tape_size, .int v_tape_at, .int v_tape_start, .int v_tape_token, .int v_tape_number])), (ad 2, .inl (eB X, 320, .inl v_tape_bytes)), (ad 3, .inr (6, [.ref (ad 4), .int v_reading_lines, .int v_reading_fault])), (rkA v_next 0, .inr (3, [.ref (rkA v_next 1), .ref (rkA v_next 2), .ref (rkA v_next 3), .ref (rkA v_next 4), .int (rkK v_next), .int (rkC v_next), .int (rkN v_next)])), (rkA v_next 1, .inl (eI X, 30, .inl (rkV v_next))), (rkA v_next 2, .inl (eI X, 30, .inl (rkH v_next))), (rkA v_next 3, .inl (eI X, 30, .inl (rkR v_next))), (rkA v_next 4, .inl (eI X, 30, .inl (rkW v_next))), (ad 8, .inr (0, [.int v_asked_cell, .int v_asked_kind, .int v_asked_p, .int v_asked_q, .int v_asked_r])), (ad 9, .inr (0, [.int v_former_cell, .int v_former_kind, .int v_former_p, .int v_former_q, .int v_former_r])), (ad 12, .inl (eF X, 2, .inr (.inr (.inr (.inr (va_up (va_up (fun _ => none) 0 (some (ad 13))) 1 (some (ad 15)))))))), (ad 13, .inr (1, [.ref (ad 14)])), (ad 14, .inl (eI X, 120, .inl v_images0_parts)), (ad 15, .inr (1, [.ref (ad 16)])), (ad 16, .inl (eI X, 120, .inl v_images1_parts)), (ad 17, .inl (eZ X, 2, .inl v_isKept)), (ad 18, .inl (eR X, 4, .inr (.inr (.inr (.inr (va_up (va_up (va_up (va_up (fun _ => none) 0 (some (ad 19))) 1 (some (ad 21))) 2 (some (ad 23))) 3 (some (ad 25)))))))), (ad 19, .inr (4, [.ref (ad 20), .int v_rows0_lane, .int v_rows0_size])), (ad 20, .inl (eI X, 40, .inl v_rows0_items)), (ad 21, .inr (4, [.ref (ad 22), .int v_rows1_lane, .int v_rows1_size])), (ad 22, .inl (eI X, 40, .inl v_rows1_items)), (ad 23, .inr (4, [.ref (ad 24), .int v_rows2_lane, .int v_rows2_size])), (ad 24, .inl (eI X, 40, .inl v_rows2_items)), (ad 25, .inr (4, [.ref (ad 26), .int v_rows3_lane, .int v_rows3_size])), (ad 26, .inl (eI X, 40, .inl v_rows3_items))]) (np := 1) C hl (mX7_beginWith X ad (fun i => ad (4 + i))  v_formulas_parts v_now v_next v_history_entries v_history_size v_wasChanged v_evaluated v_moved v_tornBy v_reading_draft_parts  (c63_formulas_parts, c63_now, c63_history_size, c63_wasChanged) h63) hW [0, 6, 7, 8, 9, 10, 11, 12, 20, 21, 4, 5] [1, 2, 3, 13, 14, 15, 16, 17, 18, 19, 22, 23, 24, 25, 26, 27, 28, 29, 30, 31, 32, 33, 34, 35, 36] rfl rfl rfl rfl (by decide) 0 rfl rfl w_cd_X7_beginWith w_ml_X7_94 w_im_X7_beginWith w_sel_X7_beginWith w_in_HeightSheet (by decide +kernel) rfl ⟨Nat.le_of_ble_eq_true rfl, Nat.le_of_ble_eq_true rfl⟩ ⟨Nat.zero_le _, Nat.zero_le _⟩ (Nat.le_of_ble_eq_true rfl) dX7_text_63 (fun rv w1 H L hp hW => ?_) rfl
        obtain ⟨rfl, rfl⟩ := hp
        replace hW : Wd X k A [(ad 0, .inr (7, [.ref (ad 1), .ref (ad 3), .ref (ad 6), .ref (rkA c63_now 0), .ref (rkA v_next 0), .ref (ad 8), .ref (ad 9), .ref (ad 10), .ref (ad 12), .ref (ad 17), .ref (ad 18), .int c63_wasChanged, .int v_evaluated, .int v_moved, .int v_tornBy])), (ad 1, .inr (5, [.ref (ad 2), .int v_tape_size, .int v_tape_at, .int v_tape_start, .int v_tape_token, .int v_tape_number])), (ad 2, .inl (eB X, 320, .inl v_tape_bytes)), (ad 3, .inr (6, [.ref (ad 4), .int v_reading_lines, .int v_reading_fault])), (ad 4, .inr (1, [.ref (ad 5)])), (ad 5, .inl (eI X, 120, .inl v_reading_draft_parts)), (ad 6, .inr (1, [.ref (ad 7)])), (ad 7, .inl (eI X, 120, .inl c63_formulas_parts)), (rkA c63_now 0, .inr (3, [.ref (rkA c63_now 1), .ref (rkA c63_now 2), .ref (rkA c63_now 3), .ref (rkA c63_now 4), .int (rkK c63_now), .int (rkC c63_now), .int (rkN c63_now)])), (rkA c63_now 1, .inl (eI X, 30, .inl (rkV c63_now))), (rkA c63_now 2, .inl (eI X, 30, .inl (rkH c63_now))), (rkA c63_now 3, .inl (eI X, 30, .inl (rkR c63_now))), (rkA c63_now 4, .inl (eI X, 30, .inl (rkW c63_now))), (rkA v_next 0, .inr (3, [.ref (rkA v_next 1), .ref (rkA v_next 2), .ref (rkA v_next 3), .ref (rkA v_next 4), .int (rkK v_next), .int (rkC v_next), .int (rkN v_next)])), (rkA v_next 1, .inl (eI X, 30, .inl (rkV v_next))), (rkA v_next 2, .inl (eI X, 30, .inl (rkH v_next))), (rkA v_next 3, .inl (eI X, 30, .inl (rkR v_next))), (rkA v_next 4, .inl (eI X, 30, .inl (rkW v_next))), (ad 8, .inr (0, [.int v_asked_cell, .int v_asked_kind, .int v_asked_p, .int v_asked_q, .int v_asked_r])), (ad 9, .inr (0, [.int v_former_cell, .int v_former_kind, .int v_former_p, .int v_former_q, .int v_former_r])), (ad 10, .inr (2, [.ref (ad 11), .int c63_history_size])), (ad 11, .inl (eI X, 100, .inl v_history_entries)), (ad 12, .inl (eF X, 2, .inr (.inr (.inr (.inr (va_up (va_up (fun _ => none) 0 (some (ad 13))) 1 (some (ad 15)))))))), (ad 13, .inr (1, [.ref (ad 14)])), (ad 14, .inl (eI X, 120, .inl v_images0_parts)), (ad 15, .inr (1, [.ref (ad 16)])), (ad 16, .inl (eI X, 120, .inl v_images1_parts)), (ad 17, .inl (eZ X, 2, .inl v_isKept)), (ad 18, .inl (eR X, 4, .inr (.inr (.inr (.inr (va_up (va_up (va_up (va_up (fun _ => none) 0 (some (ad 19))) 1 (some (ad 21))) 2 (some (ad 23))) 3 (some (ad 25)))))))), (ad 19, .inr (4, [.ref (ad 20), .int v_rows0_lane, .int v_rows0_size])), (ad 20, .inl (eI X, 40, .inl v_rows0_items)), (ad 21, .inr (4, [.ref (ad 22), .int v_rows1_lane, .int v_rows1_size])), (ad 22, .inl (eI X, 40, .inl v_rows1_items)), (ad 23, .inr (4, [.ref (ad 24), .int v_rows2_lane, .int v_rows2_size])), (ad 24, .inl (eI X, 40, .inl v_rows2_items)), (ad 25, .inr (4, [.ref (ad 26), .int v_rows3_lane, .int v_rows3_size])), (ad 26, .inl (eI X, 40, .inl v_rows3_items))] H L := hW.sub [25, 0, 1, 2, 35, 36, 26, 27, 28, 29, 30, 31, 32, 3, 4, 5, 6, 7, 8, 9, 33, 34, 10, 11, 12, 13, 14, 15, 16, 17, 18, 19, 20, 21, 22, 23, 24] rfl rfl
        show Wx X k 0 0 H L 66 ls []
        refine r_aload_n C hl 0 dX7_text_66 rfl rfl ?_
        refine r_get C hW 0 rfl rfl iwX7 1 (by decide) w_fl_X7_19 rfl dX7_text_67 ?_
        refine r_getN C hW 3 rfl rfl iwX6 1 (by decide) 5 rfl rfl dX7_text_70 ?_
        exact r_iret C hq hW (by obtain rfl := Option.some.inj h; exact ⟨rfl, rfl⟩) dX7_text_73
      · replace h := iF c39 h
        refine r_aload_n C hl 0 dX7_text_42 rfl rfl ?_
        refine r_get C hW 0 rfl rfl iwX7 9 (by decide) w_fl_X7_61 rfl dX7_text_43 ?_
        refine r_iload_n C hl 1 dX7_text_46 rfl rfl ?_
        refine r_iconst (v := 0) C dX7_text_47 (by decide) ?_
        obtain ⟨w48, e48, g48, h⟩ := wr_some h
        refine r_zast (ws' := [(ad 0, .inr (7, [.ref (ad 1), .ref (ad 3), .ref (ad 6), .ref (rkA v_now 0), .ref (rkA v_next 0), .ref (ad 8), .ref (ad 9), .ref (ad 10), .ref (ad 12), .ref (ad 17), .ref (ad 18), .int v_wasChanged, .int v_evaluated, .int v_moved, .int v_tornBy])), (ad 1, .inr (5, [.ref (ad 2), .int v_tape_size, .int v_tape_at, .int v_tape_start, .int v_tape_token, .int v_tape_number])), (ad 2, .inl (eB X, 320, .inl v_tape_bytes)), (ad 3, .inr (6, [.ref (ad 4), .int v_reading_lines, .int v_reading_fault])), (ad 4, .inr (1, [.ref (ad 5)])), (ad 5, .inl (eI X, 120, .inl v_reading_draft_parts)), (ad 6, .inr (1, [.ref (ad 7)])), (ad 7, .inl (eI X, 120, .inl v_formulas_parts)), (rkA v_now 0, .inr (3, [.ref (rkA v_now 1), .ref (rkA v_now 2), .ref (rkA v_now 3), .ref (rkA v_now 4), .int (rkK v_now), .int (rkC v_now), .int (rkN v_now)])), (rkA v_now 1, .inl (eI X, 30, .inl (rkV v_now))), (rkA v_now 2, .inl (eI X, 30, .inl (rkH v_now))), (rkA v_now 3, .inl (eI X, 30, .inl (rkR v_now))), (rkA v_now 4, .inl (eI X, 30, .inl (rkW v_now))), (rkA v_next 0, .inr (3, [.ref (rkA v_next 1), .ref (rkA v_next 2), .ref (rkA v_next 3), .ref (rkA v_next 4), .int (rkK v_next), .int (rkC v_next), .int (rkN v_next)])), (rkA v_next 1, .inl (eI X, 30, .inl (rkV v_next))), (rkA v_next 2, .inl (eI X, 30, .inl (rkH v_next))), (rkA v_next 3, .inl (eI X, 30, .inl (rkR v_next))), (rkA v_next 4, .inl (eI X, 30, .inl (rkW v_next))), (ad 8, .inr (0, [.int v_asked_cell, .int v_asked_kind, .int v_asked_p, .int v_asked_q, .int v_asked_r])), (ad 9, .inr (0, [.int v_former_cell, .int v_former_kind, .int v_former_p, .int v_former_q, .int v_former_r])), (ad 10, .inr (2, [.ref (ad 11), .int v_history_size])), (ad 11, .inl (eI X, 100, .inl v_history_entries)), (ad 12, .inl (eF X, 2, .inr (.inr (.inr (.inr (va_up (va_up (fun _ => none) 0 (some (ad 13))) 1 (some (ad 15)))))))), (ad 13, .inr (1, [.ref (ad 14)])), (ad 14, .inl (eI X, 120, .inl v_images0_parts)), (ad 15, .inr (1, [.ref (ad 16)])), (ad 16, .inl (eI X, 120, .inl v_images1_parts)), (ad 17, .inl (eZ X, 2, .inl w48)), (ad 18, .inl (eR X, 4, .inr (.inr (.inr (.inr (va_up (va_up (va_up (va_up (fun _ => none) 0 (some (ad 19))) 1 (some (ad 21))) 2 (some (ad 23))) 3 (some (ad 25)))))))), (ad 19, .inr (4, [.ref (ad 20), .int v_rows0_lane, .int v_rows0_size])), (ad 20, .inl (eI X, 40, .inl v_rows0_items)), (ad 21, .inr (4, [.ref (ad 22), .int v_rows1_lane, .int v_rows1_size])), (ad 22, .inl (eI X, 40, .inl v_rows1_items)), (ad 23, .inr (4, [.ref (ad 24), .int v_rows2_lane, .int v_rows2_size])), (ad 24, .inl (eI X, 40, .inl v_rows2_items)), (ad 25, .inr (4, [.ref (ad 26), .int v_rows3_lane, .int v_rows3_size])), (ad 26, .inl (eI X, 40, .inl v_rows3_items))]) C hW 27 rfl g48 e48 rfl dX7_text_48 (fun H L hW => ?_)
        refine r_iinc (j := 1) (v := l2 + (1 : Int32)) (lv' := [(2, .int (l2 + (1 : Int32))), (0, .ref (ad 0))]) C hl dX7_text_49 rfl rfl (by decide) rfl (fun ls hl => ?_)
        refine r_goto (tgt := 37) C dX7_text_52 (by decide) ?_
        exact ih37 w48 (l2 + (1 : Int32)) H L ls hW (lv_sub hl [1, 0] rfl) h
  unfold fX7_text at h
  refine r_aload_n C hl 0 dX7_text_0 rfl rfl ?_
  refine r_get C hW 0 rfl rfl iwX7 1 (by decide) w_fl_X7_19 rfl dX7_text_1 ?_
  refine r_aload_n C hl 0 dX7_text_4 rfl rfl ?_
  refine r_get C hW 0 rfl rfl iwX7 0 (by decide) w_fl_X7_10 rfl dX7_text_5 ?_
  obtain ⟨r8, c8_draft_parts, c8_lines, c8_fault, c8_at, c8_start, c8_token, c8_number, h8, h⟩ := bd8_some h
  refine r_VN (wr := [(ad 0, .inr (7, [.ref (ad 1), .ref (ad 3), .ref (ad 6), .ref (rkA v_now 0), .ref (rkA v_next 0), .ref (ad 8), .ref (ad 9), .ref (ad 10), .ref (ad 12), .ref (ad 17), .ref (ad 18), .int v_wasChanged, .int v_evaluated, .int v_moved, .int v_tornBy])), (ad 6, .inr (1, [.ref (ad 7)])), (ad 7, .inl (eI X, 120, .inl v_formulas_parts)), (rkA v_now 0, .inr (3, [.ref (rkA v_now 1), .ref (rkA v_now 2), .ref (rkA v_now 3), .ref (rkA v_now 4), .int (rkK v_now), .int (rkC v_now), .int (rkN v_now)])), (rkA v_now 1, .inl (eI X, 30, .inl (rkV v_now))), (rkA v_now 2, .inl (eI X, 30, .inl (rkH v_now))), (rkA v_now 3, .inl (eI X, 30, .inl (rkR v_now))), (rkA v_now 4, .inl (eI X, 30, .inl (rkW v_now))), (rkA v_next 0, .inr (3, [.ref (rkA v_next 1), .ref (rkA v_next 2), .ref (rkA v_next 3), .ref (rkA v_next 4), .int (rkK v_next), .int (rkC v_next), .int (rkN v_next)])), (rkA v_next 1, .inl (eI X, 30, .inl (rkV v_next))), (rkA v_next 2, .inl (eI X, 30, .inl (rkH v_next))), (rkA v_next 3, .inl (eI X, 30, .inl (rkR v_next))), (rkA v_next 4, .inl (eI X, 30, .inl (rkW v_next))), (ad 8, .inr (0, [.int v_asked_cell, .int v_asked_kind, .int v_asked_p, .int v_asked_q, .int v_asked_r])), (ad 9, .inr (0, [.int v_former_cell, .int v_former_kind, .int v_former_p, .int v_former_q, .int v_former_r])), (ad 10, .inr (2, [.ref (ad 11), .int v_history_size])), (ad 11, .inl (eI X, 100, .inl v_history_entries)), (ad 12, .inl (eF X, 2, .inr (.inr (.inr (.inr (va_up (va_up (fun _ => none) 0 (some (ad 13))) 1 (some (ad 15)))))))), (ad 13, .inr (1, [.ref (ad 14)])), (ad 14, .inl (eI X, 120, .inl v_images0_parts)), (ad 15, .inr (1, [.ref (ad 16)])), (ad 16, .inl (eI X, 120, .inl v_images1_parts)), (ad 17, .inl (eZ X, 2, .inl v_isKept)), (ad 18, .inl (eR X, 4, .inr (.inr (.inr (.inr (va_up (va_up (va_up (va_up (fun _ => none) 0 (some (ad 19))) 1 (some (ad 21))) 2 (some (ad 23))) 3 (some (ad 25)))))))), (ad 19, .inr (4, [.ref (ad 20), .int v_rows0_lane, .int v_rows0_size])), (ad 20, .inl (eI X, 40, .inl v_rows0_items)), (ad 21, .inr (4, [.ref (ad 22), .int v_rows1_lane, .int v_rows1_size])), (ad 22, .inl (eI X, 40, .inl v_rows1_items)), (ad 23, .inr (4, [.ref (ad 24), .int v_rows2_lane, .int v_rows2_size])), (ad 24, .inl (eI X, 40, .inl v_rows2_items)), (ad 25, .inr (4, [.ref (ad 26), .int v_rows3_lane, .int v_rows3_size])), (ad 26, .inl (eI X, 40, .inl v_rows3_items))]) (np := 1) C hl (mX6_takesAll X (fun i => ad (3 + i)) (fun i => ad (1 + i))  v_reading_draft_parts v_reading_lines v_reading_fault v_tape_bytes v_tape_size v_tape_at v_tape_start v_tape_token v_tape_number  (r8, c8_draft_parts, c8_lines, c8_fault, c8_at, c8_start, c8_token, c8_number) h8) hW [3, 4, 5, 1, 2] [0, 6, 7, 8, 9, 10, 11, 12, 13, 14, 15, 16, 17, 18, 19, 20, 21, 22, 23, 24, 25, 26, 27, 28, 29, 30, 31, 32, 33, 34, 35, 36] rfl rfl rfl rfl (by decide) 0 rfl rfl w_cd_X6_takesAll w_im_X6_takesAll w_sel_X6_takesAll w_in_HeightSheet_TextReader 13 rfl (by decide +kernel) rfl ⟨Nat.le_of_ble_eq_true rfl, Nat.le_of_ble_eq_true rfl⟩ ⟨Nat.zero_le _, Nat.zero_le _⟩ (Nat.le_of_ble_eq_true rfl) dX7_text_8 (fun rv w1 H L hp hW => ?_) rfl
  obtain ⟨rfl, rfl⟩ := hp
  replace hW : Wd X k A [(ad 0, .inr (7, [.ref (ad 1), .ref (ad 3), .ref (ad 6), .ref (rkA v_now 0), .ref (rkA v_next 0), .ref (ad 8), .ref (ad 9), .ref (ad 10), .ref (ad 12), .ref (ad 17), .ref (ad 18), .int v_wasChanged, .int v_evaluated, .int v_moved, .int v_tornBy])), (ad 1, .inr (5, [.ref (ad 2), .int v_tape_size, .int c8_at, .int c8_start, .int c8_token, .int c8_number])), (ad 2, .inl (eB X, 320, .inl v_tape_bytes)), (ad 3, .inr (6, [.ref (ad 4), .int c8_lines, .int c8_fault])), (ad 4, .inr (1, [.ref (ad 5)])), (ad 5, .inl (eI X, 120, .inl c8_draft_parts)), (ad 6, .inr (1, [.ref (ad 7)])), (ad 7, .inl (eI X, 120, .inl v_formulas_parts)), (rkA v_now 0, .inr (3, [.ref (rkA v_now 1), .ref (rkA v_now 2), .ref (rkA v_now 3), .ref (rkA v_now 4), .int (rkK v_now), .int (rkC v_now), .int (rkN v_now)])), (rkA v_now 1, .inl (eI X, 30, .inl (rkV v_now))), (rkA v_now 2, .inl (eI X, 30, .inl (rkH v_now))), (rkA v_now 3, .inl (eI X, 30, .inl (rkR v_now))), (rkA v_now 4, .inl (eI X, 30, .inl (rkW v_now))), (rkA v_next 0, .inr (3, [.ref (rkA v_next 1), .ref (rkA v_next 2), .ref (rkA v_next 3), .ref (rkA v_next 4), .int (rkK v_next), .int (rkC v_next), .int (rkN v_next)])), (rkA v_next 1, .inl (eI X, 30, .inl (rkV v_next))), (rkA v_next 2, .inl (eI X, 30, .inl (rkH v_next))), (rkA v_next 3, .inl (eI X, 30, .inl (rkR v_next))), (rkA v_next 4, .inl (eI X, 30, .inl (rkW v_next))), (ad 8, .inr (0, [.int v_asked_cell, .int v_asked_kind, .int v_asked_p, .int v_asked_q, .int v_asked_r])), (ad 9, .inr (0, [.int v_former_cell, .int v_former_kind, .int v_former_p, .int v_former_q, .int v_former_r])), (ad 10, .inr (2, [.ref (ad 11), .int v_history_size])), (ad 11, .inl (eI X, 100, .inl v_history_entries)), (ad 12, .inl (eF X, 2, .inr (.inr (.inr (.inr (va_up (va_up (fun _ => none) 0 (some (ad 13))) 1 (some (ad 15)))))))), (ad 13, .inr (1, [.ref (ad 14)])), (ad 14, .inl (eI X, 120, .inl v_images0_parts)), (ad 15, .inr (1, [.ref (ad 16)])), (ad 16, .inl (eI X, 120, .inl v_images1_parts)), (ad 17, .inl (eZ X, 2, .inl v_isKept)), (ad 18, .inl (eR X, 4, .inr (.inr (.inr (.inr (va_up (va_up (va_up (va_up (fun _ => none) 0 (some (ad 19))) 1 (some (ad 21))) 2 (some (ad 23))) 3 (some (ad 25)))))))), (ad 19, .inr (4, [.ref (ad 20), .int v_rows0_lane, .int v_rows0_size])), (ad 20, .inl (eI X, 40, .inl v_rows0_items)), (ad 21, .inr (4, [.ref (ad 22), .int v_rows1_lane, .int v_rows1_size])), (ad 22, .inl (eI X, 40, .inl v_rows1_items)), (ad 23, .inr (4, [.ref (ad 24), .int v_rows2_lane, .int v_rows2_size])), (ad 24, .inl (eI X, 40, .inl v_rows2_items)), (ad 25, .inr (4, [.ref (ad 26), .int v_rows3_lane, .int v_rows3_size])), (ad 26, .inl (eI X, 40, .inl v_rows3_items))] H L := hW.sub [0, 35, 36, 32, 33, 34, 1, 2, 3, 4, 5, 6, 7, 8, 9, 10, 11, 12, 13, 14, 15, 16, 17, 18, 19, 20, 21, 22, 23, 24, 25, 26, 27, 28, 29, 30, 31] rfl rfl
  show Wx X k 0 0 H L 11 ls [.int r8]
  refine r_istore_n (lv' := [(1, .int r8), (0, .ref (ad 0))]) C hl dX7_text_11 rfl (by decide) rfl (fun ls hl => ?_)
  refine r_aload_n C hl 1 dX7_text_12 rfl rfl ?_
  refine r_get C hW 0 rfl rfl iwX7 0 (by decide) w_fl_X7_10 rfl dX7_text_13 ?_
  refine r_iconst (v := 0) C dX7_text_16 (by decide) ?_
  refine r_putN (ws' := [(ad 0, .inr (7, [.ref (ad 1), .ref (ad 3), .ref (ad 6), .ref (rkA v_now 0), .ref (rkA v_next 0), .ref (ad 8), .ref (ad 9), .ref (ad 10), .ref (ad 12), .ref (ad 17), .ref (ad 18), .int v_wasChanged, .int v_evaluated, .int v_moved, .int v_tornBy])), (ad 1, .inr (5, [.ref (ad 2), .int (0 : Int32), .int c8_at, .int c8_start, .int c8_token, .int c8_number])), (ad 2, .inl (eB X, 320, .inl v_tape_bytes)), (ad 3, .inr (6, [.ref (ad 4), .int c8_lines, .int c8_fault])), (ad 4, .inr (1, [.ref (ad 5)])), (ad 5, .inl (eI X, 120, .inl c8_draft_parts)), (ad 6, .inr (1, [.ref (ad 7)])), (ad 7, .inl (eI X, 120, .inl v_formulas_parts)), (rkA v_now 0, .inr (3, [.ref (rkA v_now 1), .ref (rkA v_now 2), .ref (rkA v_now 3), .ref (rkA v_now 4), .int (rkK v_now), .int (rkC v_now), .int (rkN v_now)])), (rkA v_now 1, .inl (eI X, 30, .inl (rkV v_now))), (rkA v_now 2, .inl (eI X, 30, .inl (rkH v_now))), (rkA v_now 3, .inl (eI X, 30, .inl (rkR v_now))), (rkA v_now 4, .inl (eI X, 30, .inl (rkW v_now))), (rkA v_next 0, .inr (3, [.ref (rkA v_next 1), .ref (rkA v_next 2), .ref (rkA v_next 3), .ref (rkA v_next 4), .int (rkK v_next), .int (rkC v_next), .int (rkN v_next)])), (rkA v_next 1, .inl (eI X, 30, .inl (rkV v_next))), (rkA v_next 2, .inl (eI X, 30, .inl (rkH v_next))), (rkA v_next 3, .inl (eI X, 30, .inl (rkR v_next))), (rkA v_next 4, .inl (eI X, 30, .inl (rkW v_next))), (ad 8, .inr (0, [.int v_asked_cell, .int v_asked_kind, .int v_asked_p, .int v_asked_q, .int v_asked_r])), (ad 9, .inr (0, [.int v_former_cell, .int v_former_kind, .int v_former_p, .int v_former_q, .int v_former_r])), (ad 10, .inr (2, [.ref (ad 11), .int v_history_size])), (ad 11, .inl (eI X, 100, .inl v_history_entries)), (ad 12, .inl (eF X, 2, .inr (.inr (.inr (.inr (va_up (va_up (fun _ => none) 0 (some (ad 13))) 1 (some (ad 15)))))))), (ad 13, .inr (1, [.ref (ad 14)])), (ad 14, .inl (eI X, 120, .inl v_images0_parts)), (ad 15, .inr (1, [.ref (ad 16)])), (ad 16, .inl (eI X, 120, .inl v_images1_parts)), (ad 17, .inl (eZ X, 2, .inl v_isKept)), (ad 18, .inl (eR X, 4, .inr (.inr (.inr (.inr (va_up (va_up (va_up (va_up (fun _ => none) 0 (some (ad 19))) 1 (some (ad 21))) 2 (some (ad 23))) 3 (some (ad 25)))))))), (ad 19, .inr (4, [.ref (ad 20), .int v_rows0_lane, .int v_rows0_size])), (ad 20, .inl (eI X, 40, .inl v_rows0_items)), (ad 21, .inr (4, [.ref (ad 22), .int v_rows1_lane, .int v_rows1_size])), (ad 22, .inl (eI X, 40, .inl v_rows1_items)), (ad 23, .inr (4, [.ref (ad 24), .int v_rows2_lane, .int v_rows2_size])), (ad 24, .inl (eI X, 40, .inl v_rows2_items)), (ad 25, .inr (4, [.ref (ad 26), .int v_rows3_lane, .int v_rows3_size])), (ad 26, .inl (eI X, 40, .inl v_rows3_items))]) C hW 1 rfl rfl iwX5 tyX5_ok nmX5 1 (by decide) 0 rfl rfl (tyX5_ok 1 (by decide)) rfl rfl (Nat.le_of_ble_eq_true rfl) rfl dX7_text_17 (fun H L hW => ?_)
  refine r_iload_n C hl 0 dX7_text_20 rfl rfl ?_
  refine r_if_ne (tgt := 35) C dX7_text_21 (by decide) (fun c21 => ?_) (fun c21 => ?_)
  · replace h := iF c21 h
    refine r_iconst (v := 0) C dX7_text_35 (by decide) ?_
    refine r_istore_n (lv' := [(2, .int (0 : Int32)), (1, .int r8), (0, .ref (ad 0))]) C hl dX7_text_36 rfl (by decide) rfl (fun ls hl => ?_)
    exact K37 (0 : Int32) c8_at c8_start c8_token c8_number c8_draft_parts c8_lines c8_fault v_formulas_parts v_now v_history_size v_wasChanged fu v_isKept (0 : Int32) H L ls hW (lv_sub hl [2, 0] rfl) h
  · replace h := iT c21 h
    refine r_bipush (v := -10) C dX7_text_24 (by decide) ?_
    refine r_aload_n C hl 1 dX7_text_26 rfl rfl ?_
    refine r_get C hW 0 rfl rfl iwX7 0 (by decide) w_fl_X7_10 rfl dX7_text_27 ?_
    refine r_getN C hW 1 rfl rfl iwX5 3 (by decide) 1 rfl rfl dX7_text_30 ?_
    refine r_isub C dX7_text_33 ?_
    exact r_iret C hq hW (by obtain rfl := Option.some.inj h; exact ⟨rfl, rfl⟩) dX7_text_34
