set_option maxRecDepth 100000 in
set_option maxHeartbeats 8000000 in
theorem mX0_init (X : Ev) (a : Nat) : Ctr X yX0_init cX0_init 1 none 1 20 0 0 [.ref a] [(a, .inr (0, [.int (0 : Int32), .int (0 : Int32), .int (0 : Int32), .int (0 : Int32), .int (0 : Int32)]))] (fun rv w => rv = none ∧ ∃ (ad : Nat → Nat), ad 0 = a ∧ w = [(ad 0, .inr (0, [.int (0 : Int32), .int (0 : Int32), .int (0 : Int32), .int (0 : Int32), .int (0 : Int32)]))]) := by
  refine Ctr.start (by decide) (Nat.le_of_ble_eq_true rfl) (fun k A ls C hq hin hW hl => ?_)
  replace C : Cx X k cX0_init 1 none RX0 A 1 20 0 0 := C
  replace hl : lv_has ls 1 [(0, .ref (a))] := hl
  suffices hh : ∀ (H : Heap) (L : List Loc), Wd X k A [(a, .inr (0, [.int (0 : Int32), .int (0 : Int32), .int (0 : Int32), .int (0 : Int32), .int (0 : Int32)]))] H L → Wx X k 0 0 H L 0 ls [] from hh _ _ hW
  clear hW
  intro H L hW
  refine r_aload_n C hl 0 dX0_init_0 rfl rfl ?_
  refine r_objInit C hl w_ml_X0_3 (Nat.le_of_ble_eq_true rfl) (Nat.le_of_ble_eq_true rfl) dX0_init_1 ?_
  replace hW : Wd X k A [(a, .inr (0, [.int (0 : Int32), .int (0 : Int32), .int (0 : Int32), .int (0 : Int32), .int (0 : Int32)]))] H L := hW.sub [0] rfl rfl
  exact r_vret C hq hW ⟨rfl, fun i => [a].getD i 0, rfl, rfl⟩ dX0_init_4
set_option maxRecDepth 100000 in
set_option maxHeartbeats 8000000 in
theorem mX1_init (X : Ev) (a : Nat) : Ctr X yX1_init cX1_init 1 none 1 20 1 120 [.ref a] [(a, .inr (1, [.null]))] (fun rv w => rv = none ∧ ∃ (ad : Nat → Nat), ad 0 = a ∧ w = [(ad 0, .inr (1, [.ref (ad 1)])), (ad 1, .inl (eI X, 120, .inl (fun _ => (0 : Int32))))]) := by
  refine Ctr.start (by decide) (Nat.le_of_ble_eq_true rfl) (fun k A ls C hq hin hW hl => ?_)
  replace C : Cx X k cX1_init 1 none RX1 A 1 20 1 120 := C
  replace hl : lv_has ls 1 [(0, .ref (a))] := hl
  suffices hh : ∀ (H : Heap) (L : List Loc), Wd X k A [(a, .inr (1, [.null]))] H L → Wx X k 0 0 H L 0 ls [] from hh _ _ hW
  clear hW
  intro H L hW
  refine r_aload_n C hl 0 dX1_init_0 rfl rfl ?_
  refine r_objInit C hl w_ml_X1_3 (Nat.le_of_ble_eq_true rfl) (Nat.le_of_ble_eq_true rfl) dX1_init_1 ?_
  refine r_aload_n C hl 0 dX1_init_4 rfl rfl ?_
  refine r_bipush (v := 120) C dX1_init_5 (by decide) ?_
  refine r_newi C hW (N := 120) (by decide) (by decide) (Nat.le_of_ble_eq_true rfl) (Nat.le_of_ble_eq_true rfl) (Nat.le_of_ble_eq_true rfl) dX1_init_7 (fun q7_1 H hW => ?_)
  replace hW : Wd X k A [(a, .inr (1, [.null])), (q7_1, .inl (eI X, 120, .inl (fun _ => (0 : Int32))))] H L := hW
  show Wx X k 1 120 H L 9 ls [.ref (q7_1), .ref (a)]
  refine r_putF (ws' := [(a, .inr (1, [.ref (q7_1)])), (q7_1, .inl (eI X, 120, .inl (fun _ => (0 : Int32))))]) C (hin rfl) hW 0 rfl rfl iwX1 tyX1_ok nmX1 0 (by decide) w_fl_X1_9 rfl rfl (tyX1_ok 0 (by decide)) rfl rfl (Nat.le_of_ble_eq_true rfl) rfl dX1_init_9 (fun H L hW => ?_)
  replace hW : Wd X k A [(a, .inr (1, [.ref (q7_1)])), (q7_1, .inl (eI X, 120, .inl (fun _ => (0 : Int32))))] H L := hW.sub [0, 1] rfl rfl
  exact r_vret C hq hW ⟨rfl, fun i => [a, q7_1].getD i 0, rfl, rfl⟩ dX1_init_12
set_option maxRecDepth 100000 in
set_option maxHeartbeats 8000000 in
theorem mX2_init (X : Ev) (a : Nat) : Ctr X yX2_init cX2_init 1 none 1 20 1 100 [.ref a] [(a, .inr (2, [.null, .int (0 : Int32)]))] (fun rv w => rv = none ∧ ∃ (ad : Nat → Nat), ad 0 = a ∧ w = [(ad 0, .inr (2, [.ref (ad 1), .int (0 : Int32)])), (ad 1, .inl (eI X, 100, .inl (fun _ => (0 : Int32))))]) := by
  refine Ctr.start (by decide) (Nat.le_of_ble_eq_true rfl) (fun k A ls C hq hin hW hl => ?_)
  replace C : Cx X k cX2_init 1 none RX2 A 1 20 1 100 := C
  replace hl : lv_has ls 1 [(0, .ref (a))] := hl
  suffices hh : ∀ (H : Heap) (L : List Loc), Wd X k A [(a, .inr (2, [.null, .int (0 : Int32)]))] H L → Wx X k 0 0 H L 0 ls [] from hh _ _ hW
  clear hW
  intro H L hW
  refine r_aload_n C hl 0 dX2_init_0 rfl rfl ?_
  refine r_objInit C hl w_ml_X2_3 (Nat.le_of_ble_eq_true rfl) (Nat.le_of_ble_eq_true rfl) dX2_init_1 ?_
  refine r_aload_n C hl 0 dX2_init_4 rfl rfl ?_
  refine r_bipush (v := 100) C dX2_init_5 (by decide) ?_
  refine r_newi C hW (N := 100) (by decide) (by decide) (Nat.le_of_ble_eq_true rfl) (Nat.le_of_ble_eq_true rfl) (Nat.le_of_ble_eq_true rfl) dX2_init_7 (fun q7_1 H hW => ?_)
  replace hW : Wd X k A [(a, .inr (2, [.null, .int (0 : Int32)])), (q7_1, .inl (eI X, 100, .inl (fun _ => (0 : Int32))))] H L := hW
  show Wx X k 1 100 H L 9 ls [.ref (q7_1), .ref (a)]
  refine r_putF (ws' := [(a, .inr (2, [.ref (q7_1), .int (0 : Int32)])), (q7_1, .inl (eI X, 100, .inl (fun _ => (0 : Int32))))]) C (hin rfl) hW 0 rfl rfl iwX2 tyX2_ok nmX2 0 (by decide) w_fl_X2_9 rfl rfl (tyX2_ok 0 (by decide)) rfl rfl (Nat.le_of_ble_eq_true rfl) rfl dX2_init_9 (fun H L hW => ?_)
  replace hW : Wd X k A [(a, .inr (2, [.ref (q7_1), .int (0 : Int32)])), (q7_1, .inl (eI X, 100, .inl (fun _ => (0 : Int32))))] H L := hW.sub [0, 1] rfl rfl
  exact r_vret C hq hW ⟨rfl, fun i => [a, q7_1].getD i 0, rfl, rfl⟩ dX2_init_12
set_option maxRecDepth 100000 in
set_option maxHeartbeats 8000000 in
theorem mX3_init (X : Ev) (a : Nat) : Ctr X yX3_init cX3_init 1 none 1 20 4 120 [.ref a] [(a, .inr (3, [.null, .null, .null, .null, .int (0 : Int32), .int (0 : Int32), .int (0 : Int32)]))] (fun rv w => rv = none ∧ ∃ (ad : Nat → Nat), ad 0 = a ∧ w = [(ad 0, .inr (3, [.ref (ad 1), .ref (ad 2), .ref (ad 3), .ref (ad 4), .int (0 : Int32), .int (0 : Int32), .int (0 : Int32)])), (ad 1, .inl (eI X, 30, .inl (fun _ => (0 : Int32)))), (ad 2, .inl (eI X, 30, .inl (fun _ => (0 : Int32)))), (ad 3, .inl (eI X, 30, .inl (fun _ => (0 : Int32)))), (ad 4, .inl (eI X, 30, .inl (fun _ => (0 : Int32))))]) := by
  refine Ctr.start (by decide) (Nat.le_of_ble_eq_true rfl) (fun k A ls C hq hin hW hl => ?_)
  replace C : Cx X k cX3_init 1 none RX3 A 1 20 4 120 := C
  replace hl : lv_has ls 1 [(0, .ref (a))] := hl
  suffices hh : ∀ (H : Heap) (L : List Loc), Wd X k A [(a, .inr (3, [.null, .null, .null, .null, .int (0 : Int32), .int (0 : Int32), .int (0 : Int32)]))] H L → Wx X k 0 0 H L 0 ls [] from hh _ _ hW
  clear hW
  intro H L hW
  refine r_aload_n C hl 0 dX3_init_0 rfl rfl ?_
  refine r_objInit C hl w_ml_X3_3 (Nat.le_of_ble_eq_true rfl) (Nat.le_of_ble_eq_true rfl) dX3_init_1 ?_
  refine r_aload_n C hl 0 dX3_init_4 rfl rfl ?_
  refine r_bipush (v := 30) C dX3_init_5 (by decide) ?_
  refine r_newi C hW (N := 30) (by decide) (by decide) (Nat.le_of_ble_eq_true rfl) (Nat.le_of_ble_eq_true rfl) (Nat.le_of_ble_eq_true rfl) dX3_init_7 (fun q7_1 H hW => ?_)
  replace hW : Wd X k A [(a, .inr (3, [.null, .null, .null, .null, .int (0 : Int32), .int (0 : Int32), .int (0 : Int32)])), (q7_1, .inl (eI X, 30, .inl (fun _ => (0 : Int32))))] H L := hW
  show Wx X k 1 30 H L 9 ls [.ref (q7_1), .ref (a)]
  refine r_putF (ws' := [(a, .inr (3, [.ref (q7_1), .null, .null, .null, .int (0 : Int32), .int (0 : Int32), .int (0 : Int32)])), (q7_1, .inl (eI X, 30, .inl (fun _ => (0 : Int32))))]) C (hin rfl) hW 0 rfl rfl iwX3 tyX3_ok nmX3 0 (by decide) w_fl_X3_9 rfl rfl (tyX3_ok 0 (by decide)) rfl rfl (Nat.le_of_ble_eq_true rfl) rfl dX3_init_9 (fun H L hW => ?_)
  refine r_aload_n C hl 0 dX3_init_12 rfl rfl ?_
  refine r_bipush (v := 30) C dX3_init_13 (by decide) ?_
  refine r_newi C hW (N := 30) (by decide) (by decide) (Nat.le_of_ble_eq_true rfl) (Nat.le_of_ble_eq_true rfl) (Nat.le_of_ble_eq_true rfl) dX3_init_15 (fun q15_1 H hW => ?_)
  replace hW : Wd X k A [(a, .inr (3, [.ref (q7_1), .null, .null, .null, .int (0 : Int32), .int (0 : Int32), .int (0 : Int32)])), (q7_1, .inl (eI X, 30, .inl (fun _ => (0 : Int32)))), (q15_1, .inl (eI X, 30, .inl (fun _ => (0 : Int32))))] H L := hW
  show Wx X k 2 60 H L 17 ls [.ref (q15_1), .ref (a)]
  refine r_putF (ws' := [(a, .inr (3, [.ref (q7_1), .ref (q15_1), .null, .null, .int (0 : Int32), .int (0 : Int32), .int (0 : Int32)])), (q7_1, .inl (eI X, 30, .inl (fun _ => (0 : Int32)))), (q15_1, .inl (eI X, 30, .inl (fun _ => (0 : Int32))))]) C (hin rfl) hW 0 rfl rfl iwX3 tyX3_ok nmX3 1 (by decide) w_fl_X3_15 rfl rfl (tyX3_ok 1 (by decide)) rfl rfl (Nat.le_of_ble_eq_true rfl) rfl dX3_init_17 (fun H L hW => ?_)
  refine r_aload_n C hl 0 dX3_init_20 rfl rfl ?_
  refine r_bipush (v := 30) C dX3_init_21 (by decide) ?_
  refine r_newi C hW (N := 30) (by decide) (by decide) (Nat.le_of_ble_eq_true rfl) (Nat.le_of_ble_eq_true rfl) (Nat.le_of_ble_eq_true rfl) dX3_init_23 (fun q23_1 H hW => ?_)
  replace hW : Wd X k A [(a, .inr (3, [.ref (q7_1), .ref (q15_1), .null, .null, .int (0 : Int32), .int (0 : Int32), .int (0 : Int32)])), (q7_1, .inl (eI X, 30, .inl (fun _ => (0 : Int32)))), (q15_1, .inl (eI X, 30, .inl (fun _ => (0 : Int32)))), (q23_1, .inl (eI X, 30, .inl (fun _ => (0 : Int32))))] H L := hW
  show Wx X k 3 90 H L 25 ls [.ref (q23_1), .ref (a)]
  refine r_putF (ws' := [(a, .inr (3, [.ref (q7_1), .ref (q15_1), .ref (q23_1), .null, .int (0 : Int32), .int (0 : Int32), .int (0 : Int32)])), (q7_1, .inl (eI X, 30, .inl (fun _ => (0 : Int32)))), (q15_1, .inl (eI X, 30, .inl (fun _ => (0 : Int32)))), (q23_1, .inl (eI X, 30, .inl (fun _ => (0 : Int32))))]) C (hin rfl) hW 0 rfl rfl iwX3 tyX3_ok nmX3 2 (by decide) w_fl_X3_18 rfl rfl (tyX3_ok 2 (by decide)) rfl rfl (Nat.le_of_ble_eq_true rfl) rfl dX3_init_25 (fun H L hW => ?_)
  refine r_aload_n C hl 0 dX3_init_28 rfl rfl ?_
  refine r_bipush (v := 30) C dX3_init_29 (by decide) ?_
  refine r_newi C hW (N := 30) (by decide) (by decide) (Nat.le_of_ble_eq_true rfl) (Nat.le_of_ble_eq_true rfl) (Nat.le_of_ble_eq_true rfl) dX3_init_31 (fun q31_1 H hW => ?_)
  replace hW : Wd X k A [(a, .inr (3, [.ref (q7_1), .ref (q15_1), .ref (q23_1), .null, .int (0 : Int32), .int (0 : Int32), .int (0 : Int32)])), (q7_1, .inl (eI X, 30, .inl (fun _ => (0 : Int32)))), (q15_1, .inl (eI X, 30, .inl (fun _ => (0 : Int32)))), (q23_1, .inl (eI X, 30, .inl (fun _ => (0 : Int32)))), (q31_1, .inl (eI X, 30, .inl (fun _ => (0 : Int32))))] H L := hW
  show Wx X k 4 120 H L 33 ls [.ref (q31_1), .ref (a)]
  refine r_putF (ws' := [(a, .inr (3, [.ref (q7_1), .ref (q15_1), .ref (q23_1), .ref (q31_1), .int (0 : Int32), .int (0 : Int32), .int (0 : Int32)])), (q7_1, .inl (eI X, 30, .inl (fun _ => (0 : Int32)))), (q15_1, .inl (eI X, 30, .inl (fun _ => (0 : Int32)))), (q23_1, .inl (eI X, 30, .inl (fun _ => (0 : Int32)))), (q31_1, .inl (eI X, 30, .inl (fun _ => (0 : Int32))))]) C (hin rfl) hW 0 rfl rfl iwX3 tyX3_ok nmX3 3 (by decide) w_fl_X3_21 rfl rfl (tyX3_ok 3 (by decide)) rfl rfl (Nat.le_of_ble_eq_true rfl) rfl dX3_init_33 (fun H L hW => ?_)
  replace hW : Wd X k A [(a, .inr (3, [.ref (q7_1), .ref (q15_1), .ref (q23_1), .ref (q31_1), .int (0 : Int32), .int (0 : Int32), .int (0 : Int32)])), (q7_1, .inl (eI X, 30, .inl (fun _ => (0 : Int32)))), (q15_1, .inl (eI X, 30, .inl (fun _ => (0 : Int32)))), (q23_1, .inl (eI X, 30, .inl (fun _ => (0 : Int32)))), (q31_1, .inl (eI X, 30, .inl (fun _ => (0 : Int32))))] H L := hW.sub [0, 1, 2, 3, 4] rfl rfl
  exact r_vret C hq hW ⟨rfl, fun i => [a, q7_1, q15_1, q23_1, q31_1].getD i 0, rfl, rfl⟩ dX3_init_36
set_option maxRecDepth 100000 in
set_option maxHeartbeats 8000000 in
theorem mX4_init (X : Ev) (a : Nat) : Ctr X yX4_init cX4_init 1 none 1 20 1 40 [.ref a] [(a, .inr (4, [.null, .int (0 : Int32), .int (0 : Int32)]))] (fun rv w => rv = none ∧ ∃ (ad : Nat → Nat), ad 0 = a ∧ w = [(ad 0, .inr (4, [.ref (ad 1), .int (-1 : Int32), .int (0 : Int32)])), (ad 1, .inl (eI X, 40, .inl (fun _ => (0 : Int32))))]) := by
  refine Ctr.start (by decide) (Nat.le_of_ble_eq_true rfl) (fun k A ls C hq hin hW hl => ?_)
  replace C : Cx X k cX4_init 1 none RX4 A 1 20 1 40 := C
  replace hl : lv_has ls 1 [(0, .ref (a))] := hl
  suffices hh : ∀ (H : Heap) (L : List Loc), Wd X k A [(a, .inr (4, [.null, .int (0 : Int32), .int (0 : Int32)]))] H L → Wx X k 0 0 H L 0 ls [] from hh _ _ hW
  clear hW
  intro H L hW
  refine r_aload_n C hl 0 dX4_init_0 rfl rfl ?_
  refine r_objInit C hl w_ml_X4_3 (Nat.le_of_ble_eq_true rfl) (Nat.le_of_ble_eq_true rfl) dX4_init_1 ?_
  refine r_aload_n C hl 0 dX4_init_4 rfl rfl ?_
  refine r_bipush (v := 40) C dX4_init_5 (by decide) ?_
  refine r_newi C hW (N := 40) (by decide) (by decide) (Nat.le_of_ble_eq_true rfl) (Nat.le_of_ble_eq_true rfl) (Nat.le_of_ble_eq_true rfl) dX4_init_7 (fun q7_1 H hW => ?_)
  replace hW : Wd X k A [(a, .inr (4, [.null, .int (0 : Int32), .int (0 : Int32)])), (q7_1, .inl (eI X, 40, .inl (fun _ => (0 : Int32))))] H L := hW
  show Wx X k 1 40 H L 9 ls [.ref (q7_1), .ref (a)]
  refine r_putF (ws' := [(a, .inr (4, [.ref (q7_1), .int (0 : Int32), .int (0 : Int32)])), (q7_1, .inl (eI X, 40, .inl (fun _ => (0 : Int32))))]) C (hin rfl) hW 0 rfl rfl iwX4 tyX4_ok nmX4 0 (by decide) w_fl_X4_9 rfl rfl (tyX4_ok 0 (by decide)) rfl rfl (Nat.le_of_ble_eq_true rfl) rfl dX4_init_9 (fun H L hW => ?_)
  refine r_aload_n C hl 0 dX4_init_12 rfl rfl ?_
  refine r_iconst (v := -1) C dX4_init_13 (by decide) ?_
  refine r_put (ws' := [(a, .inr (4, [.ref (q7_1), .int (-1 : Int32), .int (0 : Int32)])), (q7_1, .inl (eI X, 40, .inl (fun _ => (0 : Int32))))]) C hW 0 rfl rfl iwX4 tyX4_ok nmX4 1 (by decide) w_fl_X4_15 rfl (tyX4_ok 1 (by decide)) rfl rfl (Nat.le_of_ble_eq_true rfl) rfl dX4_init_14 (fun H L hW => ?_)
  replace hW : Wd X k A [(a, .inr (4, [.ref (q7_1), .int (-1 : Int32), .int (0 : Int32)])), (q7_1, .inl (eI X, 40, .inl (fun _ => (0 : Int32))))] H L := hW.sub [0, 1] rfl rfl
  exact r_vret C hq hW ⟨rfl, fun i => [a, q7_1].getD i 0, rfl, rfl⟩ dX4_init_17
set_option maxRecDepth 100000 in
set_option maxHeartbeats 8000000 in
theorem mX5_init (X : Ev) (a : Nat) : Ctr X yX5_init cX5_init 1 none 1 20 1 320 [.ref a] [(a, .inr (5, [.null, .int (0 : Int32), .int (0 : Int32), .int (0 : Int32), .int (0 : Int32), .int (0 : Int32)]))] (fun rv w => rv = none ∧ ∃ (ad : Nat → Nat), ad 0 = a ∧ w = [(ad 0, .inr (5, [.ref (ad 1), .int (0 : Int32), .int (0 : Int32), .int (0 : Int32), .int (0 : Int32), .int (0 : Int32)])), (ad 1, .inl (eB X, 320, .inl (fun _ => (0 : Int32))))]) := by
  refine Ctr.start (by decide) (Nat.le_of_ble_eq_true rfl) (fun k A ls C hq hin hW hl => ?_)
  replace C : Cx X k cX5_init 1 none RX5 A 1 20 1 320 := C
  replace hl : lv_has ls 1 [(0, .ref (a))] := hl
  suffices hh : ∀ (H : Heap) (L : List Loc), Wd X k A [(a, .inr (5, [.null, .int (0 : Int32), .int (0 : Int32), .int (0 : Int32), .int (0 : Int32), .int (0 : Int32)]))] H L → Wx X k 0 0 H L 0 ls [] from hh _ _ hW
  clear hW
  intro H L hW
  refine r_aload_n C hl 0 dX5_init_0 rfl rfl ?_
  refine r_objInit C hl w_ml_X5_3 (Nat.le_of_ble_eq_true rfl) (Nat.le_of_ble_eq_true rfl) dX5_init_1 ?_
  refine r_aload_n C hl 0 dX5_init_4 rfl rfl ?_
  refine r_sipush (v := 320) C dX5_init_5 (by decide) ?_
  refine r_newb C hW (N := 320) (by decide) (by decide) (Nat.le_of_ble_eq_true rfl) (Nat.le_of_ble_eq_true rfl) (Nat.le_of_ble_eq_true rfl) dX5_init_8 (fun q8_1 H hW => ?_)
  replace hW : Wd X k A [(a, .inr (5, [.null, .int (0 : Int32), .int (0 : Int32), .int (0 : Int32), .int (0 : Int32), .int (0 : Int32)])), (q8_1, .inl (eB X, 320, .inl (fun _ => (0 : Int32))))] H L := hW
  show Wx X k 1 320 H L 10 ls [.ref (q8_1), .ref (a)]
  refine r_putF (ws' := [(a, .inr (5, [.ref (q8_1), .int (0 : Int32), .int (0 : Int32), .int (0 : Int32), .int (0 : Int32), .int (0 : Int32)])), (q8_1, .inl (eB X, 320, .inl (fun _ => (0 : Int32))))]) C (hin rfl) hW 0 rfl rfl iwX5 tyX5_ok nmX5 0 (by decide) w_fl_X5_9 rfl rfl (tyX5_ok 0 (by decide)) rfl rfl (Nat.le_of_ble_eq_true rfl) rfl dX5_init_10 (fun H L hW => ?_)
  replace hW : Wd X k A [(a, .inr (5, [.ref (q8_1), .int (0 : Int32), .int (0 : Int32), .int (0 : Int32), .int (0 : Int32), .int (0 : Int32)])), (q8_1, .inl (eB X, 320, .inl (fun _ => (0 : Int32))))] H L := hW.sub [0, 1] rfl rfl
  exact r_vret C hq hW ⟨rfl, fun i => [a, q8_1].getD i 0, rfl, rfl⟩ dX5_init_13
set_option maxRecDepth 100000 in
set_option maxHeartbeats 8000000 in
theorem mX6_init (X : Ev) (a : Nat) : Ctr X yX6_init cX6_init 1 none 2 40 2 121 [.ref a] [(a, .inr (6, [.null, .int (0 : Int32), .int (0 : Int32)]))] (fun rv w => rv = none ∧ ∃ (ad : Nat → Nat), ad 0 = a ∧ w = [(ad 0, .inr (6, [.ref (ad 1), .int (0 : Int32), .int (0 : Int32)])), (ad 1, .inr (1, [.ref (ad 2)])), (ad 2, .inl (eI X, 120, .inl (fun _ => (0 : Int32))))]) := by
  refine Ctr.start (by decide) (Nat.le_of_ble_eq_true rfl) (fun k A ls C hq hin hW hl => ?_)
  replace C : Cx X k cX6_init 1 none RX6 A 2 40 2 121 := C
  replace hl : lv_has ls 1 [(0, .ref (a))] := hl
  suffices hh : ∀ (H : Heap) (L : List Loc), Wd X k A [(a, .inr (6, [.null, .int (0 : Int32), .int (0 : Int32)]))] H L → Wx X k 0 0 H L 0 ls [] from hh _ _ hW
  clear hW
  intro H L hW
  refine r_aload_n C hl 0 dX6_init_0 rfl rfl ?_
  refine r_objInit C hl w_ml_X6_3 (Nat.le_of_ble_eq_true rfl) (Nat.le_of_ble_eq_true rfl) dX6_init_1 ?_
  refine r_aload_n C hl 0 dX6_init_4 rfl rfl ?_
  refine r_new (ci := 1) (fs := [.null]) C hW rfl iwX1 tyX1_ok w_cl_X6_9 w_is_HeightSheet_Formulas w_in_HeightSheet_Formulas (fun j hj => by rcases (show j = 0 by omega) with rfl <;> rfl) (Nat.le_of_ble_eq_true rfl) (Nat.le_of_ble_eq_true rfl) dX6_init_5 (fun q5_1 H hW => ?_)
  replace hW : Wd X k A [(a, .inr (6, [.null, .int (0 : Int32), .int (0 : Int32)])), (q5_1, .inr (1, [.null]))] H L := hW
  show Wx X k 1 1 H L 8 ls [.ref (q5_1), .ref (a)]
  refine r_dup C rfl dX6_init_8 ?_
  refine r_IN (wr := [(a, .inr (6, [.null, .int (0 : Int32), .int (0 : Int32)]))]) (np := 0) (As := []) C hl (mX1_init X q5_1) hW [1] [0] rfl rfl rfl rfl (by decide) w_cd_X1_init w_im_X1_init w_in_HeightSheet_Formulas 2 rfl rfl (by decide +kernel) rfl ⟨Nat.le_of_ble_eq_true rfl, Nat.le_of_ble_eq_true rfl⟩ ⟨Nat.le_of_ble_eq_true rfl, Nat.le_of_ble_eq_true rfl⟩ (Nat.le_of_ble_eq_true rfl) dX6_init_9 (fun rv w1 H L hp hW => ?_) rfl
  obtain ⟨rfl, ad9_1, rfl, rfl⟩ := hp
  replace hW : Wd X k A [(a, .inr (6, [.null, .int (0 : Int32), .int (0 : Int32)])), (ad9_1 0, .inr (1, [.ref (ad9_1 1)])), (ad9_1 1, .inl (eI X, 120, .inl (fun _ => (0 : Int32))))] H L := hW
  replace hl : lv_has ls 1 [(0, .ref (a))] := hl
  show Wx X k 2 121 H L 12 ls [.ref (ad9_1 0), .ref (a)]
  refine r_putF (ws' := [(a, .inr (6, [.ref (ad9_1 0), .int (0 : Int32), .int (0 : Int32)])), (ad9_1 0, .inr (1, [.ref (ad9_1 1)])), (ad9_1 1, .inl (eI X, 120, .inl (fun _ => (0 : Int32))))]) C (hin rfl) hW 0 rfl rfl iwX6 tyX6_ok nmX6 0 (by decide) w_fl_X6_12 rfl rfl (tyX6_ok 0 (by decide)) rfl rfl (Nat.le_of_ble_eq_true rfl) rfl dX6_init_12 (fun H L hW => ?_)
  replace hW : Wd X k A [(a, .inr (6, [.ref (ad9_1 0), .int (0 : Int32), .int (0 : Int32)])), (ad9_1 0, .inr (1, [.ref (ad9_1 1)])), (ad9_1 1, .inl (eI X, 120, .inl (fun _ => (0 : Int32))))] H L := hW.sub [0, 1, 2] rfl rfl
  exact r_vret C hq hW ⟨rfl, fun i => [a, ad9_1 0, ad9_1 1].getD i 0, rfl, rfl⟩ dX6_init_15
