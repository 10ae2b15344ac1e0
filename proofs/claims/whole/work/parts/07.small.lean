def fJ6_bitCount_0f7a4 (p0 : Int32) : Option (Int32) :=
  some ((((((((p0 - (((p0.toUInt32 >>> ((1 : Int32).toUInt32 &&& Int32.toUInt32 31)).toInt32) &&& (1431655765 : Int32))) &&& (858993459 : Int32)) + ((((p0 - (((p0.toUInt32 >>> ((1 : Int32).toUInt32 &&& Int32.toUInt32 31)).toInt32) &&& (1431655765 : Int32))).toUInt32 >>> ((2 : Int32).toUInt32 &&& Int32.toUInt32 31)).toInt32) &&& (858993459 : Int32))) + (((((p0 - (((p0.toUInt32 >>> ((1 : Int32).toUInt32 &&& Int32.toUInt32 31)).toInt32) &&& (1431655765 : Int32))) &&& (858993459 : Int32)) + ((((p0 - (((p0.toUInt32 >>> ((1 : Int32).toUInt32 &&& Int32.toUInt32 31)).toInt32) &&& (1431655765 : Int32))).toUInt32 >>> ((2 : Int32).toUInt32 &&& Int32.toUInt32 31)).toInt32) &&& (858993459 : Int32))).toUInt32 >>> ((4 : Int32).toUInt32 &&& Int32.toUInt32 31)).toInt32)) &&& (252645135 : Int32)) + (((((((p0 - (((p0.toUInt32 >>> ((1 : Int32).toUInt32 &&& Int32.toUInt32 31)).toInt32) &&& (1431655765 : Int32))) &&& (858993459 : Int32)) + ((((p0 - (((p0.toUInt32 >>> ((1 : Int32).toUInt32 &&& Int32.toUInt32 31)).toInt32) &&& (1431655765 : Int32))).toUInt32 >>> ((2 : Int32).toUInt32 &&& Int32.toUInt32 31)).toInt32) &&& (858993459 : Int32))) + (((((p0 - (((p0.toUInt32 >>> ((1 : Int32).toUInt32 &&& Int32.toUInt32 31)).toInt32) &&& (1431655765 : Int32))) &&& (858993459 : Int32)) + ((((p0 - (((p0.toUInt32 >>> ((1 : Int32).toUInt32 &&& Int32.toUInt32 31)).toInt32) &&& (1431655765 : Int32))).toUInt32 >>> ((2 : Int32).toUInt32 &&& Int32.toUInt32 31)).toInt32) &&& (858993459 : Int32))).toUInt32 >>> ((4 : Int32).toUInt32 &&& Int32.toUInt32 31)).toInt32)) &&& (252645135 : Int32)).toUInt32 >>> ((8 : Int32).toUInt32 &&& Int32.toUInt32 31)).toInt32)) + ((((((((p0 - (((p0.toUInt32 >>> ((1 : Int32).toUInt32 &&& Int32.toUInt32 31)).toInt32) &&& (1431655765 : Int32))) &&& (858993459 : Int32)) + ((((p0 - (((p0.toUInt32 >>> ((1 : Int32).toUInt32 &&& Int32.toUInt32 31)).toInt32) &&& (1431655765 : Int32))).toUInt32 >>> ((2 : Int32).toUInt32 &&& Int32.toUInt32 31)).toInt32) &&& (858993459 : Int32))) + (((((p0 - (((p0.toUInt32 >>> ((1 : Int32).toUInt32 &&& Int32.toUInt32 31)).toInt32) &&& (1431655765 : Int32))) &&& (858993459 : Int32)) + ((((p0 - (((p0.toUInt32 >>> ((1 : Int32).toUInt32 &&& Int32.toUInt32 31)).toInt32) &&& (1431655765 : Int32))).toUInt32 >>> ((2 : Int32).toUInt32 &&& Int32.toUInt32 31)).toInt32) &&& (858993459 : Int32))).toUInt32 >>> ((4 : Int32).toUInt32 &&& Int32.toUInt32 31)).toInt32)) &&& (252645135 : Int32)) + (((((((p0 - (((p0.toUInt32 >>> ((1 : Int32).toUInt32 &&& Int32.toUInt32 31)).toInt32) &&& (1431655765 : Int32))) &&& (858993459 : Int32)) + ((((p0 - (((p0.toUInt32 >>> ((1 : Int32).toUInt32 &&& Int32.toUInt32 31)).toInt32) &&& (1431655765 : Int32))).toUInt32 >>> ((2 : Int32).toUInt32 &&& Int32.toUInt32 31)).toInt32) &&& (858993459 : Int32))) + (((((p0 - (((p0.toUInt32 >>> ((1 : Int32).toUInt32 &&& Int32.toUInt32 31)).toInt32) &&& (1431655765 : Int32))) &&& (858993459 : Int32)) + ((((p0 - (((p0.toUInt32 >>> ((1 : Int32).toUInt32 &&& Int32.toUInt32 31)).toInt32) &&& (1431655765 : Int32))).toUInt32 >>> ((2 : Int32).toUInt32 &&& Int32.toUInt32 31)).toInt32) &&& (858993459 : Int32))).toUInt32 >>> ((4 : Int32).toUInt32 &&& Int32.toUInt32 31)).toInt32)) &&& (252645135 : Int32)).toUInt32 >>> ((8 : Int32).toUInt32 &&& Int32.toUInt32 31)).toInt32)).toUInt32 >>> ((16 : Int32).toUInt32 &&& Int32.toUInt32 31)).toInt32)) &&& (63 : Int32))
set_option maxRecDepth 100000 in
set_option maxHeartbeats 8000000 in
theorem mJ6_bitCount_0f7a4 (X : Ev)   (p0 : Int32) (o : Int32) (h : fJ6_bitCount_0f7a4 p0 = some o) : Ctr X yJ6_bitCount_0f7a4 cJ6_bitCount_0f7a4 1 (some .int) 0 0 0 0 [.int p0] [] (De (some (.int o)) []) := by
  refine Ctr.start (by decide) (Nat.le_of_ble_eq_true rfl) (fun k A ls C hq hin hW hl => ?_)
  replace C : Cx X k cJ6_bitCount_0f7a4 1 (some .int) RJ6 A 0 0 0 0 := C
  replace hl : lv_has ls 1 [(0, .int p0)] := hl
  suffices hh : ∀ (H : Heap) (L : List Loc), Wd X k A [] H L → Wx X k 0 0 H L 0 ls [] from hh _ _ hW
  clear hW
  intro H L hW
  unfold fJ6_bitCount_0f7a4 at h
  refine r_iload_n C hl 0 dJ6_bitCount_0f7a4_0 rfl rfl ?_
  refine r_iload_n C hl 0 dJ6_bitCount_0f7a4_1 rfl rfl ?_
  refine r_iconst (v := 1) C dJ6_bitCount_0f7a4_2 (by decide) ?_
  refine r_iushr C dJ6_bitCount_0f7a4_3 ?_
  refine r_ldcw C w_co_J6_265 dJ6_bitCount_0f7a4_4 ?_
  refine r_iand C dJ6_bitCount_0f7a4_7 ?_
  refine r_isub C dJ6_bitCount_0f7a4_8 ?_
  refine r_istore_n (lv' := [(0, .int (p0 - (((p0.toUInt32 >>> ((1 : Int32).toUInt32 &&& Int32.toUInt32 31)).toInt32) &&& (1431655765 : Int32))))]) C hl dJ6_bitCount_0f7a4_9 rfl (by decide) rfl (fun ls hl => ?_)
  refine r_iload_n C hl 0 dJ6_bitCount_0f7a4_10 rfl rfl ?_
  refine r_ldcw C w_co_J6_266 dJ6_bitCount_0f7a4_11 ?_
  refine r_iand C dJ6_bitCount_0f7a4_14 ?_
  refine r_iload_n C hl 0 dJ6_bitCount_0f7a4_15 rfl rfl ?_
  refine r_iconst (v := 2) C dJ6_bitCount_0f7a4_16 (by decide) ?_
  refine r_iushr C dJ6_bitCount_0f7a4_17 ?_
  refine r_ldcw C w_co_J6_266 dJ6_bitCount_0f7a4_18 ?_
  refine r_iand C dJ6_bitCount_0f7a4_21 ?_
  refine r_iadd C dJ6_bitCount_0f7a4_22 ?_
  refine r_istore_n (lv' := [(0, .int (((p0 - (((p0.toUInt32 >>> ((1 : Int32).toUInt32 &&& Int32.toUInt32 31)).toInt32) &&& (1431655765 : Int32))) &&& (858993459 : Int32)) + ((((p0 - (((p0.toUInt32 >>> ((1 : Int32).toUInt32 &&& Int32.toUInt32 31)).toInt32) &&& (1431655765 : Int32))).toUInt32 >>> ((2 : Int32).toUInt32 &&& Int32.toUInt32 31)).toInt32) &&& (858993459 : Int32))))]) C hl dJ6_bitCount_0f7a4_23 rfl (by decide) rfl (fun ls hl => ?_)
  refine r_iload_n C hl 0 dJ6_bitCount_0f7a4_24 rfl rfl ?_
  refine r_iload_n C hl 0 dJ6_bitCount_0f7a4_25 rfl rfl ?_
  refine r_iconst (v := 4) C dJ6_bitCount_0f7a4_26 (by decide) ?_
  refine r_iushr C dJ6_bitCount_0f7a4_27 ?_
  refine r_iadd C dJ6_bitCount_0f7a4_28 ?_
  refine r_ldcw C w_co_J6_267 dJ6_bitCount_0f7a4_29 ?_
  refine r_iand C dJ6_bitCount_0f7a4_32 ?_
  refine r_istore_n (lv' := [(0, .int (((((p0 - (((p0.toUInt32 >>> ((1 : Int32).toUInt32 &&& Int32.toUInt32 31)).toInt32) &&& (1431655765 : Int32))) &&& (858993459 : Int32)) + ((((p0 - (((p0.toUInt32 >>> ((1 : Int32).toUInt32 &&& Int32.toUInt32 31)).toInt32) &&& (1431655765 : Int32))).toUInt32 >>> ((2 : Int32).toUInt32 &&& Int32.toUInt32 31)).toInt32) &&& (858993459 : Int32))) + (((((p0 - (((p0.toUInt32 >>> ((1 : Int32).toUInt32 &&& Int32.toUInt32 31)).toInt32) &&& (1431655765 : Int32))) &&& (858993459 : Int32)) + ((((p0 - (((p0.toUInt32 >>> ((1 : Int32).toUInt32 &&& Int32.toUInt32 31)).toInt32) &&& (1431655765 : Int32))).toUInt32 >>> ((2 : Int32).toUInt32 &&& Int32.toUInt32 31)).toInt32) &&& (858993459 : Int32))).toUInt32 >>> ((4 : Int32).toUInt32 &&& Int32.toUInt32 31)).toInt32)) &&& (252645135 : Int32)))]) C hl dJ6_bitCount_0f7a4_33 rfl (by decide) rfl (fun ls hl => ?_)
  refine r_iload_n C hl 0 dJ6_bitCount_0f7a4_34 rfl rfl ?_
  refine r_iload_n C hl 0 dJ6_bitCount_0f7a4_35 rfl rfl ?_
  refine r_bipush (v := 8) C dJ6_bitCount_0f7a4_36 (by decide) ?_
  refine r_iushr C dJ6_bitCount_0f7a4_38 ?_
  refine r_iadd C dJ6_bitCount_0f7a4_39 ?_
  refine r_istore_n (lv' := [(0, .int ((((((p0 - (((p0.toUInt32 >>> ((1 : Int32).toUInt32 &&& Int32.toUInt32 31)).toInt32) &&& (1431655765 : Int32))) &&& (858993459 : Int32)) + ((((p0 - (((p0.toUInt32 >>> ((1 : Int32).toUInt32 &&& Int32.toUInt32 31)).toInt32) &&& (1431655765 : Int32))).toUInt32 >>> ((2 : Int32).toUInt32 &&& Int32.toUInt32 31)).toInt32) &&& (858993459 : Int32))) + (((((p0 - (((p0.toUInt32 >>> ((1 : Int32).toUInt32 &&& Int32.toUInt32 31)).toInt32) &&& (1431655765 : Int32))) &&& (858993459 : Int32)) + ((((p0 - (((p0.toUInt32 >>> ((1 : Int32).toUInt32 &&& Int32.toUInt32 31)).toInt32) &&& (1431655765 : Int32))).toUInt32 >>> ((2 : Int32).toUInt32 &&& Int32.toUInt32 31)).toInt32) &&& (858993459 : Int32))).toUInt32 >>> ((4 : Int32).toUInt32 &&& Int32.toUInt32 31)).toInt32)) &&& (252645135 : Int32)) + (((((((p0 - (((p0.toUInt32 >>> ((1 : Int32).toUInt32 &&& Int32.toUInt32 31)).toInt32) &&& (1431655765 : Int32))) &&& (858993459 : Int32)) + ((((p0 - (((p0.toUInt32 >>> ((1 : Int32).toUInt32 &&& Int32.toUInt32 31)).toInt32) &&& (1431655765 : Int32))).toUInt32 >>> ((2 : Int32).toUInt32 &&& Int32.toUInt32 31)).toInt32) &&& (858993459 : Int32))) + (((((p0 - (((p0.toUInt32 >>> ((1 : Int32).toUInt32 &&& Int32.toUInt32 31)).toInt32) &&& (1431655765 : Int32))) &&& (858993459 : Int32)) + ((((p0 - (((p0.toUInt32 >>> ((1 : Int32).toUInt32 &&& Int32.toUInt32 31)).toInt32) &&& (1431655765 : Int32))).toUInt32 >>> ((2 : Int32).toUInt32 &&& Int32.toUInt32 31)).toInt32) &&& (858993459 : Int32))).toUInt32 >>> ((4 : Int32).toUInt32 &&& Int32.toUInt32 31)).toInt32)) &&& (252645135 : Int32)).toUInt32 >>> ((8 : Int32).toUInt32 &&& Int32.toUInt32 31)).toInt32)))]) C hl dJ6_bitCount_0f7a4_40 rfl (by decide) rfl (fun ls hl => ?_)
  refine r_iload_n C hl 0 dJ6_bitCount_0f7a4_41 rfl rfl ?_
  refine r_iload_n C hl 0 dJ6_bitCount_0f7a4_42 rfl rfl ?_
  refine r_bipush (v := 16) C dJ6_bitCount_0f7a4_43 (by decide) ?_
  refine r_iushr C dJ6_bitCount_0f7a4_45 ?_
  refine r_iadd C dJ6_bitCount_0f7a4_46 ?_
  refine r_istore_n (lv' := [(0, .int (((((((p0 - (((p0.toUInt32 >>> ((1 : Int32).toUInt32 &&& Int32.toUInt32 31)).toInt32) &&& (1431655765 : Int32))) &&& (858993459 : Int32)) + ((((p0 - (((p0.toUInt32 >>> ((1 : Int32).toUInt32 &&& Int32.toUInt32 31)).toInt32) &&& (1431655765 : Int32))).toUInt32 >>> ((2 : Int32).toUInt32 &&& Int32.toUInt32 31)).toInt32) &&& (858993459 : Int32))) + (((((p0 - (((p0.toUInt32 >>> ((1 : Int32).toUInt32 &&& Int32.toUInt32 31)).toInt32) &&& (1431655765 : Int32))) &&& (858993459 : Int32)) + ((((p0 - (((p0.toUInt32 >>> ((1 : Int32).toUInt32 &&& Int32.toUInt32 31)).toInt32) &&& (1431655765 : Int32))).toUInt32 >>> ((2 : Int32).toUInt32 &&& Int32.toUInt32 31)).toInt32) &&& (858993459 : Int32))).toUInt32 >>> ((4 : Int32).toUInt32 &&& Int32.toUInt32 31)).toInt32)) &&& (252645135 : Int32)) + (((((((p0 - (((p0.toUInt32 >>> ((1 : Int32).toUInt32 &&& Int32.toUInt32 31)).toInt32) &&& (1431655765 : Int32))) &&& (858993459 : Int32)) + ((((p0 - (((p0.toUInt32 >>> ((1 : Int32).toUInt32 &&& Int32.toUInt32 31)).toInt32) &&& (1431655765 : Int32))).toUInt32 >>> ((2 : Int32).toUInt32 &&& Int32.toUInt32 31)).toInt32) &&& (858993459 : Int32))) + (((((p0 - (((p0.toUInt32 >>> ((1 : Int32).toUInt32 &&& Int32.toUInt32 31)).toInt32) &&& (1431655765 : Int32))) &&& (858993459 : Int32)) + ((((p0 - (((p0.toUInt32 >>> ((1 : Int32).toUInt32 &&& Int32.toUInt32 31)).toInt32) &&& (1431655765 : Int32))).toUInt32 >>> ((2 : Int32).toUInt32 &&& Int32.toUInt32 31)).toInt32) &&& (858993459 : Int32))).toUInt32 >>> ((4 : Int32).toUInt32 &&& Int32.toUInt32 31)).toInt32)) &&& (252645135 : Int32)).toUInt32 >>> ((8 : Int32).toUInt32 &&& Int32.toUInt32 31)).toInt32)) + ((((((((p0 - (((p0.toUInt32 >>> ((1 : Int32).toUInt32 &&& Int32.toUInt32 31)).toInt32) &&& (1431655765 : Int32))) &&& (858993459 : Int32)) + ((((p0 - (((p0.toUInt32 >>> ((1 : Int32).toUInt32 &&& Int32.toUInt32 31)).toInt32) &&& (1431655765 : Int32))).toUInt32 >>> ((2 : Int32).toUInt32 &&& Int32.toUInt32 31)).toInt32) &&& (858993459 : Int32))) + (((((p0 - (((p0.toUInt32 >>> ((1 : Int32).toUInt32 &&& Int32.toUInt32 31)).toInt32) &&& (1431655765 : Int32))) &&& (858993459 : Int32)) + ((((p0 - (((p0.toUInt32 >>> ((1 : Int32).toUInt32 &&& Int32.toUInt32 31)).toInt32) &&& (1431655765 : Int32))).toUInt32 >>> ((2 : Int32).toUInt32 &&& Int32.toUInt32 31)).toInt32) &&& (858993459 : Int32))).toUInt32 >>> ((4 : Int32).toUInt32 &&& Int32.toUInt32 31)).toInt32)) &&& (252645135 : Int32)) + (((((((p0 - (((p0.toUInt32 >>> ((1 : Int32).toUInt32 &&& Int32.toUInt32 31)).toInt32) &&& (1431655765 : Int32))) &&& (858993459 : Int32)) + ((((p0 - (((p0.toUInt32 >>> ((1 : Int32).toUInt32 &&& Int32.toUInt32 31)).toInt32) &&& (1431655765 : Int32))).toUInt32 >>> ((2 : Int32).toUInt32 &&& Int32.toUInt32 31)).toInt32) &&& (858993459 : Int32))) + (((((p0 - (((p0.toUInt32 >>> ((1 : Int32).toUInt32 &&& Int32.toUInt32 31)).toInt32) &&& (1431655765 : Int32))) &&& (858993459 : Int32)) + ((((p0 - (((p0.toUInt32 >>> ((1 : Int32).toUInt32 &&& Int32.toUInt32 31)).toInt32) &&& (1431655765 : Int32))).toUInt32 >>> ((2 : Int32).toUInt32 &&& Int32.toUInt32 31)).toInt32) &&& (858993459 : Int32))).toUInt32 >>> ((4 : Int32).toUInt32 &&& Int32.toUInt32 31)).toInt32)) &&& (252645135 : Int32)).toUInt32 >>> ((8 : Int32).toUInt32 &&& Int32.toUInt32 31)).toInt32)).toUInt32 >>> ((16 : Int32).toUInt32 &&& Int32.toUInt32 31)).toInt32)))]) C hl dJ6_bitCount_0f7a4_47 rfl (by decide) rfl (fun ls hl => ?_)
  refine r_iload_n C hl 0 dJ6_bitCount_0f7a4_48 rfl rfl ?_
  refine r_bipush (v := 63) C dJ6_bitCount_0f7a4_49 (by decide) ?_
  refine r_iand C dJ6_bitCount_0f7a4_51 ?_
  exact r_iret C hq hW (by obtain rfl := Option.some.inj h; exact ⟨rfl, rfl⟩) dJ6_bitCount_0f7a4_52
def fJ9_floorMod_7cf53 (p0 : Int32) (p1 : Int32) : Option (Int32) :=
  ck (¬ p1 = 0) <|
  if (0 : Int32) ≤ (p0 ^^^ p1) then
    some (p0 - p0 / p1 * p1)
  else
    if (p0 - p0 / p1 * p1) = (0 : Int32) then
      some (p0 - p0 / p1 * p1)
    else
      some ((p0 - p0 / p1 * p1) + p1)
set_option maxRecDepth 100000 in
set_option maxHeartbeats 8000000 in
theorem mJ9_floorMod_7cf53 (X : Ev)   (p0 : Int32) (p1 : Int32) (o : Int32) (h : fJ9_floorMod_7cf53 p0 p1 = some o) : Ctr X yJ9_floorMod_7cf53 cJ9_floorMod_7cf53 3 (some .int) 0 0 0 0 [.int p0, .int p1] [] (De (some (.int o)) []) := by
  refine Ctr.startF (by decide +kernel) (Nat.le_of_ble_eq_true rfl) (fun k A ls C hq hin hW hl => ?_)
  replace C : Cx X k cJ9_floorMod_7cf53 3 (some .int) RJ9 A 0 0 0 0 := C
  replace hl : lv_has ls 3 [(0, .int p0), (1, .int p1)] := hl
  suffices hh : ∀ (H : Heap) (L : List Loc), Wd X k A [] H L → Wx X k 0 0 H L 0 ls [] from hh _ _ hW
  clear hW
  intro H L hW
  unfold fJ9_floorMod_7cf53 at h
  refine r_iload_n C hl 0 dJ9_floorMod_7cf53_0 rfl rfl ?_
  refine r_iload_n C hl 1 dJ9_floorMod_7cf53_1 rfl rfl ?_
  obtain ⟨z2, h⟩ := ck_some h
  refine r_irem C dJ9_floorMod_7cf53_2 z2 ?_
  refine r_istore_n (lv' := [(2, .int (p0 - p0 / p1 * p1)), (0, .int p0), (1, .int p1)]) C hl dJ9_floorMod_7cf53_3 rfl (by decide) rfl (fun ls hl => ?_)
  refine r_iload_n C hl 1 dJ9_floorMod_7cf53_4 rfl rfl ?_
  refine r_iload_n C hl 2 dJ9_floorMod_7cf53_5 rfl rfl ?_
  refine r_ixor C dJ9_floorMod_7cf53_6 ?_
  refine r_if_ge (tgt := 18) C dJ9_floorMod_7cf53_7 (by decide) (fun c7 => ?_) (fun c7 => ?_)
  · replace h := iT c7 h
    refine r_iload_n C hl 0 dJ9_floorMod_7cf53_18 rfl rfl ?_
    exact r_iret C hq hW (by obtain rfl := Option.some.inj h; exact ⟨rfl, rfl⟩) dJ9_floorMod_7cf53_19
  · replace h := iF c7 h
    refine r_iload_n C hl 0 dJ9_floorMod_7cf53_10 rfl rfl ?_
    refine r_if_eq (tgt := 18) C dJ9_floorMod_7cf53_11 (by decide) (fun c11 => ?_) (fun c11 => ?_)
    · replace h := iT c11 h
      refine r_iload_n C hl 0 dJ9_floorMod_7cf53_18 rfl rfl ?_
      exact r_iret C hq hW (by obtain rfl := Option.some.inj h; exact ⟨rfl, rfl⟩) dJ9_floorMod_7cf53_19
    · replace h := iF c11 h
      refine r_iload_n C hl 0 dJ9_floorMod_7cf53_14 rfl rfl ?_
      refine r_iload_n C hl 2 dJ9_floorMod_7cf53_15 rfl rfl ?_
      refine r_iadd C dJ9_floorMod_7cf53_16 ?_
      exact r_iret C hq hW (by obtain rfl := Option.some.inj h; exact ⟨rfl, rfl⟩) dJ9_floorMod_7cf53_17
def fJ7_fill_53178_b5 (N_ : Nat) (p1 : Int32)  (l3 : Int32) (self5 : (Nat → Int32) → Int32 → Option ((Nat → Int32))) (u_a : (Nat → Int32)) (l2 : Int32) : Option ((Nat → Int32)) :=
  if l3 ≤ l2 then
    some u_a
  else
    wr u_a N_ l2 p1 fun w13 =>
    self5 w13 (l2 + (1 : Int32))
def fJ7_fill_53178 (N_ : Nat) (u_a : (Nat → Int32)) (p1 : Int32) : Option ((Nat → Int32)) :=
  lq2 (fJ7_fill_53178_b5 N_ p1  (Int32.ofNat N_)) fu u_a (0 : Int32)
set_option maxRecDepth 100000 in
set_option maxHeartbeats 8000000 in
theorem mJ7_fill_53178 (X : Ev) (ad : Nat → Nat) (N_ : Nat) (u_a : (Nat → Int32)) (p1 : Int32) (o : (Nat → Int32)) (h : fJ7_fill_53178 N_ u_a p1 = some o) : Ctr X yJ7_fill_53178 cJ7_fill_53178 4 none 0 0 0 0 [.ref (ad 0), .int p1] [(ad 0, .inl (eI X, N_, .inl u_a))] (De none [(ad 0, .inl (eI X, N_, .inl o))]) := by
  refine Ctr.start (by decide) (Nat.le_of_ble_eq_true rfl) (fun k A ls C hq hin hW hl => ?_)
  replace C : Cx X k cJ7_fill_53178 4 none RJ7 A 0 0 0 0 := C
  replace hl : lv_has ls 4 [(0, .ref (ad 0)), (1, .int p1)] := hl
  suffices hh : ∀ (H : Heap) (L : List Loc), Wd X k A [(ad 0, .inl (eI X, N_, .inl u_a))] H L → Wx X k 0 0 H L 0 ls [] from hh _ _ hW
  clear hW
  intro H L hW
  have K5 : ∀ (l3 : Int32), ∀ (n5 : Nat), ∀ (u_a : (Nat → Int32)), ∀ (l2 : Int32), ∀ (H : Heap) (L : List Loc) (ls : Array Slot), Wd X k A [(ad 0, .inl (eI X, N_, .inl u_a))] H L → lv_has ls 4 [(0, .ref (ad 0)), (1, .int p1), (2, .int l2), (3, .int l3)] → lq2 (fJ7_fill_53178_b5 N_ p1  l3) n5 u_a l2 = some o → Wx X k 0 0 H L 5 ls [] := by
    intro l3
    intro n5
    induction n5 with
    | zero => intro u_a l2 H L ls hW hl h; exact lq2_0 h
    | succ n5 ih5 =>
      intro u_a l2 H L ls hW hl h
      rw [lq2_s] at h
      unfold fJ7_fill_53178_b5 at h
      refine r_iload_n C hl 2 dJ7_fill_53178_5 rfl rfl ?_
      refine r_iload_n C hl 3 dJ7_fill_53178_6 rfl rfl ?_
      refine r_icmp_ge (tgt := 20) C dJ7_fill_53178_7 (by decide) (fun c7 => ?_) (fun c7 => ?_)
      · replace h := iT c7 h
        exact r_vret C hq hW (by obtain rfl := Option.some.inj h; exact ⟨rfl, rfl⟩) dJ7_fill_53178_20
      · replace h := iF c7 h
        refine r_aload_n C hl 0 dJ7_fill_53178_10 rfl rfl ?_
        refine r_iload_n C hl 2 dJ7_fill_53178_11 rfl rfl ?_
        refine r_iload_n C hl 1 dJ7_fill_53178_12 rfl rfl ?_
        obtain ⟨w13, e13, g13, h⟩ := wr_some h
        refine r_iast (ws' := [(ad 0, .inl (eI X, N_, .inl w13))]) C hW 0 rfl g13 e13 rfl dJ7_fill_53178_13 (fun H L hW => ?_)
        refine r_iinc (j := 2) (v := l2 + (1 : Int32)) (lv' := [(2, .int (l2 + (1 : Int32))), (0, .ref (ad 0)), (1, .int p1), (3, .int l3)]) C hl dJ7_fill_53178_14 rfl rfl (by decide) rfl (fun ls hl => ?_)
        refine r_goto (tgt := 5) C dJ7_fill_53178_17 (by decide) ?_
        exact ih5 w13 (l2 + (1 : Int32)) H L ls hW (lv_sub hl [1, 2, 0, 3] rfl) h
  unfold fJ7_fill_53178 at h
  refine r_iconst (v := 0) C dJ7_fill_53178_0 (by decide) ?_
  refine r_istore_n (lv' := [(2, .int (0 : Int32)), (0, .ref (ad 0)), (1, .int p1)]) C hl dJ7_fill_53178_1 rfl (by decide) rfl (fun ls hl => ?_)
  refine r_aload_n C hl 1 dJ7_fill_53178_2 rfl rfl ?_
  refine r_ilen (v := Int32.ofNat N_) C hW 0 rfl rfl dJ7_fill_53178_3 ?_
  refine r_istore_n (lv' := [(3, .int (Int32.ofNat N_)), (2, .int (0 : Int32)), (0, .ref (ad 0)), (1, .int p1)]) C hl dJ7_fill_53178_4 rfl (by decide) rfl (fun ls hl => ?_)
  exact K5 (Int32.ofNat N_) fu u_a (0 : Int32) H L ls hW (lv_sub hl [2, 3, 1, 0] rfl) h
def fX7_isCell (p0 : Int32) : Option (Int32) :=
  if p0 < (0 : Int32) then
    some (0 : Int32)
  else
    if (30 : Int32) ≤ p0 then
      some (0 : Int32)
    else
      some (1 : Int32)
set_option maxRecDepth 100000 in
set_option maxHeartbeats 8000000 in
theorem mX7_isCell (X : Ev)   (p0 : Int32) (o : Int32) (h : fX7_isCell p0 = some o) : Ctr X yX7_isCell cX7_isCell 1 (some .boolean) 0 0 0 0 [.int p0] [] (De (some (.int o)) []) := by
  refine Ctr.start (by decide) (Nat.le_of_ble_eq_true rfl) (fun k A ls C hq hin hW hl => ?_)
  replace C : Cx X k cX7_isCell 1 (some .boolean) RX7 A 0 0 0 0 := C
  replace hl : lv_has ls 1 [(0, .int p0)] := hl
  suffices hh : ∀ (H : Heap) (L : List Loc), Wd X k A [] H L → Wx X k 0 0 H L 0 ls [] from hh _ _ hW
  clear hW
  intro H L hW
  unfold fX7_isCell at h
  refine r_iload_n C hl 0 dX7_isCell_0 rfl rfl ?_
  refine r_if_lt (tgt := 14) C dX7_isCell_1 (by decide) (fun c1 => ?_) (fun c1 => ?_)
  · replace h := iT c1 h
    refine r_iconst (v := 0) C dX7_isCell_14 (by decide) ?_
    exact r_zret C hq hW (by decide) (by obtain rfl := Option.some.inj h; exact ⟨rfl, rfl⟩) dX7_isCell_15
  · replace h := iF c1 h
    refine r_iload_n C hl 0 dX7_isCell_4 rfl rfl ?_
    refine r_bipush (v := 30) C dX7_isCell_5 (by decide) ?_
    refine r_icmp_ge (tgt := 14) C dX7_isCell_7 (by decide) (fun c7 => ?_) (fun c7 => ?_)
    · replace h := iT c7 h
      refine r_iconst (v := 0) C dX7_isCell_14 (by decide) ?_
      exact r_zret C hq hW (by decide) (by obtain rfl := Option.some.inj h; exact ⟨rfl, rfl⟩) dX7_isCell_15
    · replace h := iF c7 h
      refine r_iconst (v := 1) C dX7_isCell_10 (by decide) ?_
      refine r_goto (tgt := 15) C dX7_isCell_11 (by decide) ?_
      exact r_zret C hq hW (by decide) (by obtain rfl := Option.some.inj h; exact ⟨rfl, rfl⟩) dX7_isCell_15
def fX7_isSpan (p0 : Int32) : Option (Int32) :=
  if p0 = (6 : Int32) then
    some (1 : Int32)
  else
    if p0 = (7 : Int32) then
      some (1 : Int32)
    else
      some (0 : Int32)
set_option maxRecDepth 100000 in
set_option maxHeartbeats 8000000 in
theorem mX7_isSpan (X : Ev)   (p0 : Int32) (o : Int32) (h : fX7_isSpan p0 = some o) : Ctr X yX7_isSpan cX7_isSpan 1 (some .boolean) 0 0 0 0 [.int p0] [] (De (some (.int o)) []) := by
  refine Ctr.start (by decide) (Nat.le_of_ble_eq_true rfl) (fun k A ls C hq hin hW hl => ?_)
  replace C : Cx X k cX7_isSpan 1 (some .boolean) RX7 A 0 0 0 0 := C
  replace hl : lv_has ls 1 [(0, .int p0)] := hl
  suffices hh : ∀ (H : Heap) (L : List Loc), Wd X k A [] H L → Wx X k 0 0 H L 0 ls [] from hh _ _ hW
  clear hW
  intro H L hW
  unfold fX7_isSpan at h
  refine r_iload_n C hl 0 dX7_isSpan_0 rfl rfl ?_
  refine r_bipush (v := 6) C dX7_isSpan_1 (by decide) ?_
  refine r_icmp_eq (tgt := 12) C dX7_isSpan_3 (by decide) (fun c3 => ?_) (fun c3 => ?_)
  · replace h := iT c3 h
    refine r_iconst (v := 1) C dX7_isSpan_12 (by decide) ?_
    refine r_goto (tgt := 17) C dX7_isSpan_13 (by decide) ?_
    exact r_zret C hq hW (by decide) (by obtain rfl := Option.some.inj h; exact ⟨rfl, rfl⟩) dX7_isSpan_17
  · replace h := iF c3 h
    refine r_iload_n C hl 0 dX7_isSpan_6 rfl rfl ?_
    refine r_bipush (v := 7) C dX7_isSpan_7 (by decide) ?_
    refine r_icmp_ne (tgt := 16) C dX7_isSpan_9 (by decide) (fun c9 => ?_) (fun c9 => ?_)
    · replace h := iF c9 h
      refine r_iconst (v := 0) C dX7_isSpan_16 (by decide) ?_
      exact r_zret C hq hW (by decide) (by obtain rfl := Option.some.inj h; exact ⟨rfl, rfl⟩) dX7_isSpan_17
    · replace h := iT c9 h
      refine r_iconst (v := 1) C dX7_isSpan_12 (by decide) ?_
      refine r_goto (tgt := 17) C dX7_isSpan_13 (by decide) ?_
      exact r_zret C hq hW (by decide) (by obtain rfl := Option.some.inj h; exact ⟨rfl, rfl⟩) dX7_isSpan_17
def fX7_bit (p0 : Int32) : Option (Int32) :=
  some ((1 : Int32) <<< (p0 &&& 31))
set_option maxRecDepth 100000 in
set_option maxHeartbeats 8000000 in
theorem mX7_bit (X : Ev)   (p0 : Int32) (o : Int32) (h : fX7_bit p0 = some o) : Ctr X yX7_bit cX7_bit 1 (some .int) 0 0 0 0 [.int p0] [] (De (some (.int o)) []) := by
  refine Ctr.start (by decide) (Nat.le_of_ble_eq_true rfl) (fun k A ls C hq hin hW hl => ?_)
  replace C : Cx X k cX7_bit 1 (some .int) RX7 A 0 0 0 0 := C
  replace hl : lv_has ls 1 [(0, .int p0)] := hl
  suffices hh : ∀ (H : Heap) (L : List Loc), Wd X k A [] H L → Wx X k 0 0 H L 0 ls [] from hh _ _ hW
  clear hW
  intro H L hW
  unfold fX7_bit at h
  refine r_iconst (v := 1) C dX7_bit_0 (by decide) ?_
  refine r_iload_n C hl 0 dX7_bit_1 rfl rfl ?_
  refine r_ishl C dX7_bit_2 ?_
  exact r_iret C hq hW (by obtain rfl := Option.some.inj h; exact ⟨rfl, rfl⟩) dX7_bit_3
def fX7_has (p0 : Int32) (p1 : Int32) : Option (Int32) :=
  if (((p0.toUInt32 >>> (p1.toUInt32 &&& Int32.toUInt32 31)).toInt32) &&& (1 : Int32)) = (0 : Int32) then
    some (0 : Int32)
  else
    some (1 : Int32)
set_option maxRecDepth 100000 in
set_option maxHeartbeats 8000000 in
theorem mX7_has (X : Ev)   (p0 : Int32) (p1 : Int32) (o : Int32) (h : fX7_has p0 p1 = some o) : Ctr X yX7_has cX7_has 2 (some .boolean) 0 0 0 0 [.int p0, .int p1] [] (De (some (.int o)) []) := by
  refine Ctr.start (by decide) (Nat.le_of_ble_eq_true rfl) (fun k A ls C hq hin hW hl => ?_)
  replace C : Cx X k cX7_has 2 (some .boolean) RX7 A 0 0 0 0 := C
  replace hl : lv_has ls 2 [(0, .int p0), (1, .int p1)] := hl
  suffices hh : ∀ (H : Heap) (L : List Loc), Wd X k A [] H L → Wx X k 0 0 H L 0 ls [] from hh _ _ hW
  clear hW
  intro H L hW
  unfold fX7_has at h
  refine r_iload_n C hl 0 dX7_has_0 rfl rfl ?_
  refine r_iload_n C hl 1 dX7_has_1 rfl rfl ?_
  refine r_iushr C dX7_has_2 ?_
  refine r_iconst (v := 1) C dX7_has_3 (by decide) ?_
  refine r_iand C dX7_has_4 ?_
  refine r_if_eq (tgt := 12) C dX7_has_5 (by decide) (fun c5 => ?_) (fun c5 => ?_)
  · replace h := iT c5 h
    refine r_iconst (v := 0) C dX7_has_12 (by decide) ?_
    exact r_zret C hq hW (by decide) (by obtain rfl := Option.some.inj h; exact ⟨rfl, rfl⟩) dX7_has_13
  · replace h := iF c5 h
    refine r_iconst (v := 1) C dX7_has_8 (by decide) ?_
    refine r_goto (tgt := 13) C dX7_has_9 (by decide) ?_
    exact r_zret C hq hW (by decide) (by obtain rfl := Option.some.inj h; exact ⟨rfl, rfl⟩) dX7_has_13
def fX7_operandsOf (p0 : Int32) : Option (Int32) :=
  if p0 < (0 : Int32) then
    some (0 : Int32)
  else
    if (9 : Int32) ≤ p0 then
      some (0 : Int32)
    else
      rd opT 9 p0 fun x14 =>
      some x14
set_option maxRecDepth 100000 in
set_option maxHeartbeats 8000000 in
theorem mX7_operandsOf (X : Ev)   (p0 : Int32) (o : Int32) (h : fX7_operandsOf p0 = some o) : Ctr X yX7_operandsOf cX7_operandsOf 1 (some .int) 0 0 0 0 [.int p0] [] (De (some (.int o)) []) := by
  refine Ctr.start (by decide) (Nat.le_of_ble_eq_true rfl) (fun k A ls C hq hin hW hl => ?_)
  replace C : Cx X k cX7_operandsOf 1 (some .int) RX7 A 0 0 0 0 := C
  replace hl : lv_has ls 1 [(0, .int p0)] := hl
  suffices hh : ∀ (H : Heap) (L : List Loc), Wd X k A [] H L → Wx X k 0 0 H L 0 ls [] from hh _ _ hW
  clear hW
  intro H L hW
  unfold fX7_operandsOf at h
  refine r_iload_n C hl 0 dX7_operandsOf_0 rfl rfl ?_
  refine r_if_lt (tgt := 18) C dX7_operandsOf_1 (by decide) (fun c1 => ?_) (fun c1 => ?_)
  · replace h := iT c1 h
    refine r_iconst (v := 0) C dX7_operandsOf_18 (by decide) ?_
    exact r_iret C hq hW (by obtain rfl := Option.some.inj h; exact ⟨rfl, rfl⟩) dX7_operandsOf_19
  · replace h := iF c1 h
    refine r_iload_n C hl 0 dX7_operandsOf_4 rfl rfl ?_
    refine r_bipush (v := 9) C dX7_operandsOf_5 (by decide) ?_
    refine r_icmp_ge (tgt := 18) C dX7_operandsOf_7 (by decide) (fun c7 => ?_) (fun c7 => ?_)
    · replace h := iT c7 h
      refine r_iconst (v := 0) C dX7_operandsOf_18 (by decide) ?_
      exact r_iret C hq hW (by obtain rfl := Option.some.inj h; exact ⟨rfl, rfl⟩) dX7_operandsOf_19
    · replace h := iF c7 h
      refine r_gops C hW w_fl_X7_287 dX7_operandsOf_10 ?_
      refine r_iload_n C hl 0 dX7_operandsOf_13 rfl rfl ?_
      obtain ⟨x14, e14, g14, h⟩ := rd_some h
      refine r_ald0 C hW g14 e14 dX7_operandsOf_14 ?_
      refine r_goto (tgt := 19) C dX7_operandsOf_15 (by decide) ?_
      exact r_iret C hq hW (by obtain rfl := Option.some.inj h; exact ⟨rfl, rfl⟩) dX7_operandsOf_19
def fX7_nthOf_j28 (p0 : Int32) (p1 : Int32) (self4 : Int32 → Int32 → Option (Int32)) (l2 : Int32) (l3 : Int32) : Option (Int32) :=
  self4 l2 (l3 + (1 : Int32))
def fX7_nthOf_b4 (p0 : Int32) (p1 : Int32)   (self4 : Int32 → Int32 → Option (Int32)) (l2 : Int32) (l3 : Int32) : Option (Int32) :=
  if (30 : Int32) ≤ l3 then
    some (-4 : Int32)
  else
    bd1 (fX7_has p0 l3) fun r12 =>
    if r12 = (0 : Int32) then
      fX7_nthOf_j28 p0 p1 self4 l2 l3
    else
      if l2 = p1 then
        some l3
      else
        fX7_nthOf_j28 p0 p1 self4 (l2 + (1 : Int32)) l3
def fX7_nthOf (p0 : Int32) (p1 : Int32) : Option (Int32) :=
  lq2 (fX7_nthOf_b4 p0 p1  ) fu (0 : Int32) (0 : Int32)
set_option maxRecDepth 100000 in
set_option maxHeartbeats 8000000 in
theorem mX7_nthOf (X : Ev)   (p0 : Int32) (p1 : Int32) (o : Int32) (h : fX7_nthOf p0 p1 = some o) : Ctr X yX7_nthOf cX7_nthOf 4 (some .int) 1 21 0 0 [.int p0, .int p1] [] (De (some (.int o)) []) := by
  refine Ctr.start (by decide) (Nat.le_of_ble_eq_true rfl) (fun k A ls C hq hin hW hl => ?_)
  replace C : Cx X k cX7_nthOf 4 (some .int) RX7 A 1 21 0 0 := C
  replace hl : lv_has ls 4 [(0, .int p0), (1, .int p1)] := hl
  suffices hh : ∀ (H : Heap) (L : List Loc), Wd X k A [] H L → Wx X k 0 0 H L 0 ls [] from hh _ _ hW
  clear hW
  intro H L hW
  have K4 : ∀ (n4 : Nat), ∀ (l2 : Int32), ∀ (l3 : Int32), ∀ (H : Heap) (L : List Loc) (ls : Array Slot), Wd X k A [] H L → lv_has ls 4 [(0, .int p0), (1, .int p1), (2, .int l2), (3, .int l3)] → lq2 (fX7_nthOf_b4 p0 p1  ) n4 l2 l3 = some o → Wx X k 0 0 H L 4 ls [] := by
    intro n4
    induction n4 with
    | zero => intro l2 l3 H L ls hW hl h; exact lq2_0 h
    | succ n4 ih4 =>
      have K28 : ∀ (l2 : Int32), ∀ (l3 : Int32), ∀ (H : Heap) (L : List Loc) (ls : Array Slot), Wd X k A [] H L → lv_has ls 4 [(0, .int p0), (1, .int p1), (2, .int l2), (3, .int l3)] → fX7_nthOf_j28 p0 p1 (lq2 (fX7_nthOf_b4 p0 p1  ) n4) l2 l3 = some o → Wx X k 0 0 H L 28 ls [] := by
        intro l2 l3 H L ls hW hl h
        unfold fX7_nthOf_j28 at h
        refine r_iinc (j := 3) (v := l3 + (1 : Int32)) (lv' := [(3, .int (l3 + (1 : Int32))), (0, .int p0), (1, .int p1), (2, .int l2)]) C hl dX7_nthOf_28 rfl rfl (by decide) rfl (fun ls hl => ?_)
        refine r_goto (tgt := 4) C dX7_nthOf_31 (by decide) ?_
        exact ih4 l2 (l3 + (1 : Int32)) H L ls hW (lv_sub hl [1, 2, 3, 0] rfl) h
      intro l2 l3 H L ls hW hl h
      rw [lq2_s] at h
      unfold fX7_nthOf_b4 at h
      refine r_iload_n C hl 3 dX7_nthOf_4 rfl rfl ?_
      refine r_bipush (v := 30) C dX7_nthOf_5 (by decide) ?_
      refine r_icmp_ge (tgt := 34) C dX7_nthOf_7 (by decide) (fun c7 => ?_) (fun c7 => ?_)
      · replace h := iT c7 h
        refine r_bipush (v := -4) C dX7_nthOf_34 (by decide) ?_
        exact r_iret C hq hW (by obtain rfl := Option.some.inj h; exact ⟨rfl, rfl⟩) dX7_nthOf_36
      · replace h := iF c7 h
        refine r_iload_n C hl 0 dX7_nthOf_10 rfl rfl ?_
        refine r_iload_n C hl 3 dX7_nthOf_11 rfl rfl ?_
        obtain ⟨r12, h12, h⟩ := bd1_some h
        refine r_S (wr := []) (np := 2) C hl (mX7_has X    p0 l3 r12 h12) hW [] [] rfl rfl rfl rfl (by decide) w_cd_X7_has w_ml_X7_140 w_st_X7_has w_in_HeightSheet (by decide +kernel) rfl ⟨Nat.le_of_ble_eq_true rfl, Nat.le_of_ble_eq_true rfl⟩ ⟨Nat.zero_le _, Nat.zero_le _⟩ (Nat.le_of_ble_eq_true rfl) dX7_nthOf_12 (fun rv w1 H L hp hW => ?_) rfl
        obtain ⟨rfl, rfl⟩ := hp
        replace hW : Wd X k A [] H L := hW.sub [] rfl rfl
        show Wx X k 0 0 H L 15 ls [.int r12]
        refine r_if_eq (tgt := 28) C dX7_nthOf_15 (by decide) (fun c15 => ?_) (fun c15 => ?_)
        · replace h := iT c15 h
          exact K28 l2 l3 H L ls hW hl h
        · replace h := iF c15 h
          refine r_iload_n C hl 2 dX7_nthOf_18 rfl rfl ?_
          refine r_iload_n C hl 1 dX7_nthOf_19 rfl rfl ?_
          refine r_icmp_ne (tgt := 25) C dX7_nthOf_20 (by decide) (fun c20 => ?_) (fun c20 => ?_)
          · replace h := iF c20 h
            refine r_iinc (j := 2) (v := l2 + (1 : Int32)) (lv' := [(2, .int (l2 + (1 : Int32))), (0, .int p0), (1, .int p1), (3, .int l3)]) C hl dX7_nthOf_25 rfl rfl (by decide) rfl (fun ls hl => ?_)
            exact K28 (l2 + (1 : Int32)) l3 H L ls hW (lv_sub hl [1, 2, 0, 3] rfl) h
          · replace h := iT c20 h
            refine r_iload_n C hl 3 dX7_nthOf_23 rfl rfl ?_
            exact r_iret C hq hW (by obtain rfl := Option.some.inj h; exact ⟨rfl, rfl⟩) dX7_nthOf_24
  unfold fX7_nthOf at h
  refine r_iconst (v := 0) C dX7_nthOf_0 (by decide) ?_
  refine r_istore_n (lv' := [(2, .int (0 : Int32)), (0, .int p0), (1, .int p1)]) C hl dX7_nthOf_1 rfl (by decide) rfl (fun ls hl => ?_)
  refine r_iconst (v := 0) C dX7_nthOf_2 (by decide) ?_
  refine r_istore_n (lv' := [(3, .int (0 : Int32)), (2, .int (0 : Int32)), (0, .int p0), (1, .int p1)]) C hl dX7_nthOf_3 rfl (by decide) rfl (fun ls hl => ?_)
  exact K4  fu (0 : Int32) (0 : Int32) H L ls hW (lv_sub hl [2, 3, 1, 0] rfl) h
def fX7_stir (p0 : Int32) : Option (Int32) :=
  some ((p0 * (1103515245 : Int32)) + (12345 : Int32))
set_option maxRecDepth 100000 in
set_option maxHeartbeats 8000000 in
theorem mX7_stir (X : Ev)   (p0 : Int32) (o : Int32) (h : fX7_stir p0 = some o) : Ctr X yX7_stir cX7_stir 1 (some .int) 0 0 0 0 [.int p0] [] (De (some (.int o)) []) := by
  refine Ctr.start (by decide) (Nat.le_of_ble_eq_true rfl) (fun k A ls C hq hin hW hl => ?_)
  replace C : Cx X k cX7_stir 1 (some .int) RX7 A 0 0 0 0 := C
  replace hl : lv_has ls 1 [(0, .int p0)] := hl
  suffices hh : ∀ (H : Heap) (L : List Loc), Wd X k A [] H L → Wx X k 0 0 H L 0 ls [] from hh _ _ hW
  clear hW
  intro H L hW
  unfold fX7_stir at h
  refine r_iload_n C hl 0 dX7_stir_0 rfl rfl ?_
  refine r_ldcw C w_co_X7_286 dX7_stir_1 ?_
  refine r_imul C dX7_stir_4 ?_
  refine r_sipush (v := 12345) C dX7_stir_5 (by decide) ?_
  refine r_iadd C dX7_stir_8 ?_
  exact r_iret C hq hW (by obtain rfl := Option.some.inj h; exact ⟨rfl, rfl⟩) dX7_stir_9
def fX7_drawn (p0 : Int32) : Option (Int32) :=
  some (((p0.toUInt32 >>> ((16 : Int32).toUInt32 &&& Int32.toUInt32 31)).toInt32) &&& (32767 : Int32))
set_option maxRecDepth 100000 in
set_option maxHeartbeats 8000000 in
theorem mX7_drawn (X : Ev)   (p0 : Int32) (o : Int32) (h : fX7_drawn p0 = some o) : Ctr X yX7_drawn cX7_drawn 1 (some .int) 0 0 0 0 [.int p0] [] (De (some (.int o)) []) := by
  refine Ctr.start (by decide) (Nat.le_of_ble_eq_true rfl) (fun k A ls C hq hin hW hl => ?_)
  replace C : Cx X k cX7_drawn 1 (some .int) RX7 A 0 0 0 0 := C
  replace hl : lv_has ls 1 [(0, .int p0)] := hl
  suffices hh : ∀ (H : Heap) (L : List Loc), Wd X k A [] H L → Wx X k 0 0 H L 0 ls [] from hh _ _ hW
  clear hW
  intro H L hW
  unfold fX7_drawn at h
  refine r_iload_n C hl 0 dX7_drawn_0 rfl rfl ?_
  refine r_bipush (v := 16) C dX7_drawn_1 (by decide) ?_
  refine r_iushr C dX7_drawn_3 ?_
  refine r_sipush (v := 32767) C dX7_drawn_4 (by decide) ?_
  refine r_iand C dX7_drawn_7 ?_
  exact r_iret C hq hW (by obtain rfl := Option.some.inj h; exact ⟨rfl, rfl⟩) dX7_drawn_8
def fX0_tell (v_cell : Int32) (v_kind : Int32) (v_p : Int32) (v_q : Int32) (v_r : Int32) (p1 : Int32) (p2 : Int32) (p3 : Int32) (p4 : Int32) (p5 : Int32) : Option (Int32 × Int32 × Int32 × Int32 × Int32) :=
  some (p1, p2, p3, p4, p5)
set_option maxRecDepth 100000 in
set_option maxHeartbeats 8000000 in
theorem mX0_tell (X : Ev) (ad : Nat → Nat) (v_cell : Int32) (v_kind : Int32) (v_p : Int32) (v_q : Int32) (v_r : Int32) (p1 : Int32) (p2 : Int32) (p3 : Int32) (p4 : Int32) (p5 : Int32) (o : Int32 × Int32 × Int32 × Int32 × Int32) (h : fX0_tell v_cell v_kind v_p v_q v_r p1 p2 p3 p4 p5 = some o) : Ctr X yX0_tell cX0_tell 6 none 0 0 0 0 [.ref (ad 0), .int p1, .int p2, .int p3, .int p4, .int p5] [(ad 0, .inr (0, [.int v_cell, .int v_kind, .int v_p, .int v_q, .int v_r]))] (De none [(ad 0, .inr (0, [.int (o.1), .int (o.2.1), .int (o.2.2.1), .int (o.2.2.2.1), .int (o.2.2.2.2)]))]) := by
  refine Ctr.start (by decide) (Nat.le_of_ble_eq_true rfl) (fun k A ls C hq hin hW hl => ?_)
  replace C : Cx X k cX0_tell 6 none RX0 A 0 0 0 0 := C
  replace hl : lv_has ls 6 [(0, .ref (ad 0)), (1, .int p1), (2, .int p2), (3, .int p3), (4, .int p4), (5, .int p5)] := hl
  suffices hh : ∀ (H : Heap) (L : List Loc), Wd X k A [(ad 0, .inr (0, [.int v_cell, .int v_kind, .int v_p, .int v_q, .int v_r]))] H L → Wx X k 0 0 H L 0 ls [] from hh _ _ hW
  clear hW
  intro H L hW
  unfold fX0_tell at h
  refine r_aload_n C hl 0 dX0_tell_0 rfl rfl ?_
  refine r_iload_n C hl 1 dX0_tell_1 rfl rfl ?_
  refine r_put (ws' := [(ad 0, .inr (0, [.int p1, .int v_kind, .int v_p, .int v_q, .int v_r]))]) C hW 0 rfl rfl iwX0 tyX0_ok nmX0 0 (by decide) w_fl_X0_9 rfl (tyX0_ok 0 (by decide)) rfl rfl (Nat.le_of_ble_eq_true rfl) rfl dX0_tell_2 (fun H L hW => ?_)
  refine r_aload_n C hl 0 dX0_tell_5 rfl rfl ?_
  refine r_iload_n C hl 2 dX0_tell_6 rfl rfl ?_
  refine r_put (ws' := [(ad 0, .inr (0, [.int p1, .int p2, .int v_p, .int v_q, .int v_r]))]) C hW 0 rfl rfl iwX0 tyX0_ok nmX0 1 (by decide) w_fl_X0_15 rfl (tyX0_ok 1 (by decide)) rfl rfl (Nat.le_of_ble_eq_true rfl) rfl dX0_tell_7 (fun H L hW => ?_)
  refine r_aload_n C hl 0 dX0_tell_10 rfl rfl ?_
  refine r_iload_n C hl 3 dX0_tell_11 rfl rfl ?_
  refine r_put (ws' := [(ad 0, .inr (0, [.int p1, .int p2, .int p3, .int v_q, .int v_r]))]) C hW 0 rfl rfl iwX0 tyX0_ok nmX0 2 (by decide) w_fl_X0_18 rfl (tyX0_ok 2 (by decide)) rfl rfl (Nat.le_of_ble_eq_true rfl) rfl dX0_tell_12 (fun H L hW => ?_)
  refine r_aload_n C hl 0 dX0_tell_15 rfl rfl ?_
  refine r_iload C hl 4 dX0_tell_16 rfl ?_
  refine r_put (ws' := [(ad 0, .inr (0, [.int p1, .int p2, .int p3, .int p4, .int v_r]))]) C hW 0 rfl rfl iwX0 tyX0_ok nmX0 3 (by decide) w_fl_X0_21 rfl (tyX0_ok 3 (by decide)) rfl rfl (Nat.le_of_ble_eq_true rfl) rfl dX0_tell_18 (fun H L hW => ?_)
  refine r_aload_n C hl 0 dX0_tell_21 rfl rfl ?_
  refine r_iload C hl 5 dX0_tell_22 rfl ?_
  refine r_put (ws' := [(ad 0, .inr (0, [.int p1, .int p2, .int p3, .int p4, .int p5]))]) C hW 0 rfl rfl iwX0 tyX0_ok nmX0 4 (by decide) w_fl_X0_24 rfl (tyX0_ok 4 (by decide)) rfl rfl (Nat.le_of_ble_eq_true rfl) rfl dX0_tell_24 (fun H L hW => ?_)
  exact r_vret C hq hW (by obtain rfl := Option.some.inj h; exact ⟨rfl, rfl⟩) dX0_tell_27
def fX1_part (v_parts : (Nat → Int32)) (p1 : Int32) (p2 : Int32) : Option (Int32) :=
  rd v_parts 120 ((p1 * (4 : Int32)) + p2) fun x9 =>
  some x9
set_option maxRecDepth 100000 in
set_option maxHeartbeats 8000000 in
theorem mX1_part (X : Ev) (ad : Nat → Nat) (v_parts : (Nat → Int32)) (p1 : Int32) (p2 : Int32) (o : Int32) (h : fX1_part v_parts p1 p2 = some o) : Ctr X yX1_part cX1_part 3 (some .int) 0 0 0 0 [.ref (ad 0), .int p1, .int p2] [(ad 0, .inr (1, [.ref (ad 1)])), (ad 1, .inl (eI X, 120, .inl v_parts))] (De (some (.int o)) [(ad 0, .inr (1, [.ref (ad 1)])), (ad 1, .inl (eI X, 120, .inl v_parts))]) := by
  refine Ctr.start (by decide) (Nat.le_of_ble_eq_true rfl) (fun k A ls C hq hin hW hl => ?_)
  replace C : Cx X k cX1_part 3 (some .int) RX1 A 0 0 0 0 := C
  replace hl : lv_has ls 3 [(0, .ref (ad 0)), (1, .int p1), (2, .int p2)] := hl
  suffices hh : ∀ (H : Heap) (L : List Loc), Wd X k A [(ad 0, .inr (1, [.ref (ad 1)])), (ad 1, .inl (eI X, 120, .inl v_parts))] H L → Wx X k 0 0 H L 0 ls [] from hh _ _ hW
  clear hW
  intro H L hW
  unfold fX1_part at h
  refine r_aload_n C hl 0 dX1_part_0 rfl rfl ?_
  refine r_get C hW 0 rfl rfl iwX1 0 (by decide) w_fl_X1_9 rfl dX1_part_1 ?_
  refine r_iload_n C hl 1 dX1_part_4 rfl rfl ?_
  refine r_iconst (v := 4) C dX1_part_5 (by decide) ?_
  refine r_imul C dX1_part_6 ?_
  refine r_iload_n C hl 2 dX1_part_7 rfl rfl ?_
  refine r_iadd C dX1_part_8 ?_
  obtain ⟨x9, e9, g9, h⟩ := rd_some h
  refine r_iald C hW 1 rfl g9 e9 dX1_part_9 ?_
  exact r_iret C hq hW (by obtain rfl := Option.some.inj h; exact ⟨rfl, rfl⟩) dX1_part_10
def fX0_tellAsIn (v_cell : Int32) (v_kind : Int32) (v_p : Int32) (v_q : Int32) (v_r : Int32) (u_parts : (Nat → Int32)) (p2 : Int32) : Option (Int32 × Int32 × Int32 × Int32 × Int32) :=
  bd1 (fX1_part u_parts p2 (0 : Int32)) fun r5 =>
  bd1 (fX1_part u_parts p2 (1 : Int32)) fun r11 =>
  bd1 (fX1_part u_parts p2 (2 : Int32)) fun r17 =>
  bd1 (fX1_part u_parts p2 (3 : Int32)) fun r23 =>
  bd5 (fX0_tell v_cell v_kind v_p v_q v_r p2 r5 r11 r17 r23) fun c26_cell c26_kind c26_p c26_q c26_r =>
  some (c26_cell, c26_kind, c26_p, c26_q, c26_r)
set_option maxRecDepth 100000 in
set_option maxHeartbeats 8000000 in
theorem mX0_tellAsIn (X : Ev) (ad : Nat → Nat) (be : Nat → Nat) (v_cell : Int32) (v_kind : Int32) (v_p : Int32) (v_q : Int32) (v_r : Int32) (u_parts : (Nat → Int32)) (p2 : Int32) (o : Int32 × Int32 × Int32 × Int32 × Int32) (h : fX0_tellAsIn v_cell v_kind v_p v_q v_r u_parts p2 = some o) : Ctr X yX0_tellAsIn cX0_tellAsIn 3 none 1 25 0 0 [.ref (ad 0), .ref (be 0), .int p2] [(ad 0, .inr (0, [.int v_cell, .int v_kind, .int v_p, .int v_q, .int v_r])), (be 0, .inr (1, [.ref (be 1)])), (be 1, .inl (eI X, 120, .inl u_parts))] (De none [(ad 0, .inr (0, [.int (o.1), .int (o.2.1), .int (o.2.2.1), .int (o.2.2.2.1), .int (o.2.2.2.2)])), (be 0, .inr (1, [.ref (be 1)])), (be 1, .inl (eI X, 120, .inl u_parts))]) := by
  refine Ctr.start (by decide) (Nat.le_of_ble_eq_true rfl) (fun k A ls C hq hin hW hl => ?_)
  replace C : Cx X k cX0_tellAsIn 3 none RX0 A 1 25 0 0 := C
  replace hl : lv_has ls 3 [(0, .ref (ad 0)), (1, .ref (be 0)), (2, .int p2)] := hl
  suffices hh : ∀ (H : Heap) (L : List Loc), Wd X k A [(ad 0, .inr (0, [.int v_cell, .int v_kind, .int v_p, .int v_q, .int v_r])), (be 0, .inr (1, [.ref (be 1)])), (be 1, .inl (eI X, 120, .inl u_parts))] H L → Wx X k 0 0 H L 0 ls [] from hh _ _ hW
  clear hW
  intro H L hW
  unfold fX0_tellAsIn at h
  refine r_aload_n C hl 0 dX0_tellAsIn_0 rfl rfl ?_
  refine r_iload_n C hl 2 dX0_tellAsIn_1 rfl rfl ?_
  refine r_aload_n C hl 1 dX0_tellAsIn_2 rfl rfl ?_
  refine r_iload_n C hl 2 dX0_tellAsIn_3 rfl rfl ?_
  refine r_iconst (v := 0) C dX0_tellAsIn_4 (by decide) ?_
  obtain ⟨r5, h5, h⟩ := bd1_some h
  refine r_VN (wr := [(ad 0, .inr (0, [.int v_cell, .int v_kind, .int v_p, .int v_q, .int v_r]))]) (np := 2) C hl (mX1_part X be  u_parts p2 (0 : Int32) r5 h5) hW [1, 2] [0] rfl rfl rfl rfl (by decide) 0 rfl rfl w_cd_X1_part w_im_X1_part w_sel_X1_part w_in_HeightSheet_Formulas 41 rfl (by decide +kernel) rfl ⟨Nat.le_of_ble_eq_true rfl, Nat.le_of_ble_eq_true rfl⟩ ⟨Nat.zero_le _, Nat.zero_le _⟩ (Nat.le_of_ble_eq_true rfl) dX0_tellAsIn_5 (fun rv w1 H L hp hW => ?_) rfl
  obtain ⟨rfl, rfl⟩ := hp
  replace hW : Wd X k A [(ad 0, .inr (0, [.int v_cell, .int v_kind, .int v_p, .int v_q, .int v_r])), (be 0, .inr (1, [.ref (be 1)])), (be 1, .inl (eI X, 120, .inl u_parts))] H L := hW.sub [0, 1, 2] rfl rfl
  show Wx X k 0 0 H L 8 ls [.int r5, .int p2, .ref (ad 0)]
  refine r_aload_n C hl 1 dX0_tellAsIn_8 rfl rfl ?_
  refine r_iload_n C hl 2 dX0_tellAsIn_9 rfl rfl ?_
  refine r_iconst (v := 1) C dX0_tellAsIn_10 (by decide) ?_
  obtain ⟨r11, h11, h⟩ := bd1_some h
  refine r_VN (wr := [(ad 0, .inr (0, [.int v_cell, .int v_kind, .int v_p, .int v_q, .int v_r]))]) (np := 2) C hl (mX1_part X be  u_parts p2 (1 : Int32) r11 h11) hW [1, 2] [0] rfl rfl rfl rfl (by decide) 0 rfl rfl w_cd_X1_part w_im_X1_part w_sel_X1_part w_in_HeightSheet_Formulas 41 rfl (by decide +kernel) rfl ⟨Nat.le_of_ble_eq_true rfl, Nat.le_of_ble_eq_true rfl⟩ ⟨Nat.zero_le _, Nat.zero_le _⟩ (Nat.le_of_ble_eq_true rfl) dX0_tellAsIn_11 (fun rv w1 H L hp hW => ?_) rfl
  obtain ⟨rfl, rfl⟩ := hp
  replace hW : Wd X k A [(ad 0, .inr (0, [.int v_cell, .int v_kind, .int v_p, .int v_q, .int v_r])), (be 0, .inr (1, [.ref (be 1)])), (be 1, .inl (eI X, 120, .inl u_parts))] H L := hW.sub [0, 1, 2] rfl rfl
  show Wx X k 0 0 H L 14 ls [.int r11, .int r5, .int p2, .ref (ad 0)]
  refine r_aload_n C hl 1 dX0_tellAsIn_14 rfl rfl ?_
  refine r_iload_n C hl 2 dX0_tellAsIn_15 rfl rfl ?_
  refine r_iconst (v := 2) C dX0_tellAsIn_16 (by decide) ?_
  obtain ⟨r17, h17, h⟩ := bd1_some h
  refine r_VN (wr := [(ad 0, .inr (0, [.int v_cell, .int v_kind, .int v_p, .int v_q, .int v_r]))]) (np := 2) C hl (mX1_part X be  u_parts p2 (2 : Int32) r17 h17) hW [1, 2] [0] rfl rfl rfl rfl (by decide) 0 rfl rfl w_cd_X1_part w_im_X1_part w_sel_X1_part w_in_HeightSheet_Formulas 41 rfl (by decide +kernel) rfl ⟨Nat.le_of_ble_eq_true rfl, Nat.le_of_ble_eq_true rfl⟩ ⟨Nat.zero_le _, Nat.zero_le _⟩ (Nat.le_of_ble_eq_true rfl) dX0_tellAsIn_17 (fun rv w1 H L hp hW => ?_) rfl
  obtain ⟨rfl, rfl⟩ := hp
  replace hW : Wd X k A [(ad 0, .inr (0, [.int v_cell, .int v_kind, .int v_p, .int v_q, .int v_r])), (be 0, .inr (1, [.ref (be 1)])), (be 1, .inl (eI X, 120, .inl u_parts))] H L := hW.sub [0, 1, 2] rfl rfl
  show Wx X k 0 0 H L 20 ls [.int r17, .int r11, .int r5, .int p2, .ref (ad 0)]
  refine r_aload_n C hl 1 dX0_tellAsIn_20 rfl rfl ?_
  refine r_iload_n C hl 2 dX0_tellAsIn_21 rfl rfl ?_
  refine r_iconst (v := 3) C dX0_tellAsIn_22 (by decide) ?_
  obtain ⟨r23, h23, h⟩ := bd1_some h
  refine r_VN (wr := [(ad 0, .inr (0, [.int v_cell, .int v_kind, .int v_p, .int v_q, .int v_r]))]) (np := 2) C hl (mX1_part X be  u_parts p2 (3 : Int32) r23 h23) hW [1, 2] [0] rfl rfl rfl rfl (by decide) 0 rfl rfl w_cd_X1_part w_im_X1_part w_sel_X1_part w_in_HeightSheet_Formulas 41 rfl (by decide +kernel) rfl ⟨Nat.le_of_ble_eq_true rfl, Nat.le_of_ble_eq_true rfl⟩ ⟨Nat.zero_le _, Nat.zero_le _⟩ (Nat.le_of_ble_eq_true rfl) dX0_tellAsIn_23 (fun rv w1 H L hp hW => ?_) rfl
  obtain ⟨rfl, rfl⟩ := hp
  replace hW : Wd X k A [(ad 0, .inr (0, [.int v_cell, .int v_kind, .int v_p, .int v_q, .int v_r])), (be 0, .inr (1, [.ref (be 1)])), (be 1, .inl (eI X, 120, .inl u_parts))] H L := hW.sub [0, 1, 2] rfl rfl
  show Wx X k 0 0 H L 26 ls [.int r23, .int r17, .int r11, .int r5, .int p2, .ref (ad 0)]
  obtain ⟨c26_cell, c26_kind, c26_p, c26_q, c26_r, h26, h⟩ := bd5_some h
  refine r_V (wr := [(be 0, .inr (1, [.ref (be 1)])), (be 1, .inl (eI X, 120, .inl u_parts))]) (np := 5) C hl (mX0_tell X ad  v_cell v_kind v_p v_q v_r p2 r5 r11 r17 r23 (c26_cell, c26_kind, c26_p, c26_q, c26_r) h26) hW [0] [1, 2] rfl rfl rfl rfl (by decide) 0 rfl rfl w_cd_X0_tell w_ml_X0_33 w_im_X0_tell w_sel_X0_tell w_in_HeightSheet_Change (by decide +kernel) rfl ⟨Nat.le_of_ble_eq_true rfl, Nat.le_of_ble_eq_true rfl⟩ ⟨Nat.zero_le _, Nat.zero_le _⟩ (Nat.le_of_ble_eq_true rfl) dX0_tellAsIn_26 (fun rv w1 H L hp hW => ?_) rfl
  obtain ⟨rfl, rfl⟩ := hp
  replace hW : Wd X k A [(ad 0, .inr (0, [.int c26_cell, .int c26_kind, .int c26_p, .int c26_q, .int c26_r])), (be 0, .inr (1, [.ref (be 1)])), (be 1, .inl (eI X, 120, .inl u_parts))] H L := hW.sub [2, 0, 1] rfl rfl
  show Wx X k 0 0 H L 29 ls []
  exact r_vret C hq hW (by obtain rfl := Option.some.inj h; exact ⟨rfl, rfl⟩) dX0_tellAsIn_29
def fX0_operandsFit_j89 (v_kind : Int32) (v_p : Int32) (v_q : Int32) (v_r : Int32)  (s0 : Int32) : Option (Int32) :=
  if s0 = (0 : Int32) then
    some (0 : Int32)
  else
    bd1 (fX7_isSpan v_kind) fun r98 =>
    if r98 = (0 : Int32) then
      some (1 : Int32)
    else
      if v_q < v_p then
        some (0 : Int32)
      else
        some (1 : Int32)
def fX0_operandsFit_j88 (v_kind : Int32) (v_p : Int32) (v_q : Int32) (v_r : Int32)   : Option (Int32) :=
  fX0_operandsFit_j89 v_kind v_p v_q v_r  (0 : Int32)
def fX0_operandsFit_j84 (v_kind : Int32) (v_p : Int32) (v_q : Int32) (v_r : Int32)   : Option (Int32) :=
  fX0_operandsFit_j89 v_kind v_p v_q v_r  (1 : Int32)
def fX0_operandsFit_j69 (v_kind : Int32) (v_p : Int32) (v_q : Int32) (v_r : Int32)  (l1 : Int32) : Option (Int32) :=
  if l1 < (3 : Int32) then
    fX0_operandsFit_j84 v_kind v_p v_q v_r  
  else
    bd1 (fX7_isCell v_r) fun r78 =>
    if r78 = (0 : Int32) then
      fX0_operandsFit_j88 v_kind v_p v_q v_r  
    else
      fX0_operandsFit_j84 v_kind v_p v_q v_r  
def fX0_operandsFit_j54 (v_kind : Int32) (v_p : Int32) (v_q : Int32) (v_r : Int32)  (l1 : Int32) : Option (Int32) :=
  if l1 < (2 : Int32) then
    fX0_operandsFit_j69 v_kind v_p v_q v_r  l1
  else
    bd1 (fX7_isCell v_q) fun r63 =>
    if r63 = (0 : Int32) then
      fX0_operandsFit_j88 v_kind v_p v_q v_r  
    else
      fX0_operandsFit_j69 v_kind v_p v_q v_r  l1
def fX0_operandsFit (v_kind : Int32) (v_p : Int32) (v_q : Int32) (v_r : Int32) : Option (Int32) :=
  if v_kind = (1 : Int32) then
    if v_p < (0 : Int32) then
      some (0 : Int32)
    else
      if (999 : Int32) < v_p then
        some (0 : Int32)
      else
        some (1 : Int32)
  else
    bd1 (fX7_operandsOf v_kind) fun r35 =>
    if r35 < (1 : Int32) then
      fX0_operandsFit_j54 v_kind v_p v_q v_r  r35
    else
      bd1 (fX7_isCell v_p) fun r48 =>
      if r48 = (0 : Int32) then
        fX0_operandsFit_j88 v_kind v_p v_q v_r  
      else
        fX0_operandsFit_j54 v_kind v_p v_q v_r  r35
set_option maxRecDepth 100000 in
set_option maxHeartbeats 8000000 in
theorem mX0_operandsFit (X : Ev) (ad : Nat → Nat) (v_cell : Int32) (v_kind : Int32) (v_p : Int32) (v_q : Int32) (v_r : Int32)  (o : Int32) (h : fX0_operandsFit v_kind v_p v_q v_r = some o) : Ctr X yX0_operandsFit cX0_operandsFit 3 (some .boolean) 1 20 0 0 [.ref (ad 0)] [(ad 0, .inr (0, [.int v_cell, .int v_kind, .int v_p, .int v_q, .int v_r]))] (De (some (.int o)) [(ad 0, .inr (0, [.int v_cell, .int v_kind, .int v_p, .int v_q, .int v_r]))]) := by
  refine Ctr.start (by decide) (Nat.le_of_ble_eq_true rfl) (fun k A ls C hq hin hW hl => ?_)
  replace C : Cx X k cX0_operandsFit 3 (some .boolean) RX0 A 1 20 0 0 := C
  replace hl : lv_has ls 3 [(0, .ref (ad 0))] := hl
  suffices hh : ∀ (H : Heap) (L : List Loc), Wd X k A [(ad 0, .inr (0, [.int v_cell, .int v_kind, .int v_p, .int v_q, .int v_r]))] H L → Wx X k 0 0 H L 0 ls [] from hh _ _ hW
  clear hW
  intro H L hW
  have K89 : ∀ (s0 : Int32), ∀ (H : Heap) (L : List Loc) (ls : Array Slot), Wd X k A [(ad 0, .inr (0, [.int v_cell, .int v_kind, .int v_p, .int v_q, .int v_r]))] H L → lv_has ls 3 [(0, .ref (ad 0))] → fX0_operandsFit_j89 v_kind v_p v_q v_r  s0 = some o → Wx X k 0 0 H L 89 ls [.int s0] := by
    intro s0 H L ls hW hl h
    unfold fX0_operandsFit_j89 at h
    refine r_istore_n (lv' := [(2, .int s0), (0, .ref (ad 0))]) C hl dX0_operandsFit_89 rfl (by decide) rfl (fun ls hl => ?_)
    refine r_iload_n C hl 0 dX0_operandsFit_90 rfl rfl ?_
    refine r_if_eq (tgt := 119) C dX0_operandsFit_91 (by decide) (fun c91 => ?_) (fun c91 => ?_)
    · replace h := iT c91 h
      refine r_iconst (v := 0) C dX0_operandsFit_119 (by decide) ?_
      exact r_zret C hq hW (by decide) (by obtain rfl := Option.some.inj h; exact ⟨rfl, rfl⟩) dX0_operandsFit_120
    · replace h := iF c91 h
      refine r_aload_n C hl 1 dX0_operandsFit_94 rfl rfl ?_
      refine r_get C hW 0 rfl rfl iwX0 1 (by decide) w_fl_X0_15 rfl dX0_operandsFit_95 ?_
      obtain ⟨r98, h98, h⟩ := bd1_some h
      refine r_SN (wr := [(ad 0, .inr (0, [.int v_cell, .int v_kind, .int v_p, .int v_q, .int v_r]))]) (np := 1) C hl (mX7_isSpan X    v_kind r98 h98) hW [] [0] rfl rfl rfl rfl (by decide) w_cd_X7_isSpan w_st_X7_isSpan w_in_HeightSheet 39 rfl (by decide +kernel) rfl ⟨Nat.le_of_ble_eq_true rfl, Nat.le_of_ble_eq_true rfl⟩ ⟨Nat.zero_le _, Nat.zero_le _⟩ (Nat.le_of_ble_eq_true rfl) dX0_operandsFit_98 (fun rv w1 H L hp hW => ?_) rfl
      obtain ⟨rfl, rfl⟩ := hp
      replace hW : Wd X k A [(ad 0, .inr (0, [.int v_cell, .int v_kind, .int v_p, .int v_q, .int v_r]))] H L := hW.sub [0] rfl rfl
      show Wx X k 0 0 H L 101 ls [.int r98]
      refine r_if_eq (tgt := 115) C dX0_operandsFit_101 (by decide) (fun c101 => ?_) (fun c101 => ?_)
      · replace h := iT c101 h
        refine r_iconst (v := 1) C dX0_operandsFit_115 (by decide) ?_
        refine r_goto (tgt := 120) C dX0_operandsFit_116 (by decide) ?_
        exact r_zret C hq hW (by decide) (by obtain rfl := Option.some.inj h; exact ⟨rfl, rfl⟩) dX0_operandsFit_120
      · replace h := iF c101 h
        refine r_aload_n C hl 1 dX0_operandsFit_104 rfl rfl ?_
        refine r_get C hW 0 rfl rfl iwX0 2 (by decide) w_fl_X0_18 rfl dX0_operandsFit_105 ?_
        refine r_aload_n C hl 1 dX0_operandsFit_108 rfl rfl ?_
        refine r_get C hW 0 rfl rfl iwX0 3 (by decide) w_fl_X0_21 rfl dX0_operandsFit_109 ?_
        refine r_icmp_gt (tgt := 119) C dX0_operandsFit_112 (by decide) (fun c112 => ?_) (fun c112 => ?_)
        · replace h := iT c112 h
          refine r_iconst (v := 0) C dX0_operandsFit_119 (by decide) ?_
          exact r_zret C hq hW (by decide) (by obtain rfl := Option.some.inj h; exact ⟨rfl, rfl⟩) dX0_operandsFit_120
        · replace h := iF c112 h
          refine r_iconst (v := 1) C dX0_operandsFit_115 (by decide) ?_
          refine r_goto (tgt := 120) C dX0_operandsFit_116 (by decide) ?_
          exact r_zret C hq hW (by decide) (by obtain rfl := Option.some.inj h; exact ⟨rfl, rfl⟩) dX0_operandsFit_120
  have K88 : ∀ (H : Heap) (L : List Loc) (ls : Array Slot), Wd X k A [(ad 0, .inr (0, [.int v_cell, .int v_kind, .int v_p, .int v_q, .int v_r]))] H L → lv_has ls 3 [(0, .ref (ad 0))] → fX0_operandsFit_j88 v_kind v_p v_q v_r   = some o → Wx X k 0 0 H L 88 ls [] := by
    intro  H L ls hW hl h
    unfold fX0_operandsFit_j88 at h
    refine r_iconst (v := 0) C dX0_operandsFit_88 (by decide) ?_
    exact K89 (0 : Int32) H L ls hW hl h
  have K84 : ∀ (H : Heap) (L : List Loc) (ls : Array Slot), Wd X k A [(ad 0, .inr (0, [.int v_cell, .int v_kind, .int v_p, .int v_q, .int v_r]))] H L → lv_has ls 3 [(0, .ref (ad 0))] → fX0_operandsFit_j84 v_kind v_p v_q v_r   = some o → Wx X k 0 0 H L 84 ls [] := by
    intro  H L ls hW hl h
    unfold fX0_operandsFit_j84 at h
    refine r_iconst (v := 1) C dX0_operandsFit_84 (by decide) ?_
    refine r_goto (tgt := 89) C dX0_operandsFit_85 (by decide) ?_
    exact K89 (1 : Int32) H L ls hW hl h
  have K69 : ∀ (l1 : Int32), ∀ (H : Heap) (L : List Loc) (ls : Array Slot), Wd X k A [(ad 0, .inr (0, [.int v_cell, .int v_kind, .int v_p, .int v_q, .int v_r]))] H L → lv_has ls 3 [(0, .ref (ad 0)), (1, .int l1)] → fX0_operandsFit_j69 v_kind v_p v_q v_r  l1 = some o → Wx X k 0 0 H L 69 ls [] := by
    intro l1 H L ls hW hl h
    unfold fX0_operandsFit_j69 at h
    refine r_iload_n C hl 1 dX0_operandsFit_69 rfl rfl ?_
    refine r_iconst (v := 3) C dX0_operandsFit_70 (by decide) ?_
    refine r_icmp_lt (tgt := 84) C dX0_operandsFit_71 (by decide) (fun c71 => ?_) (fun c71 => ?_)
    · replace h := iT c71 h
      exact K84  H L ls hW (lv_sub hl [0] rfl) h
    · replace h := iF c71 h
      refine r_aload_n C hl 0 dX0_operandsFit_74 rfl rfl ?_
      refine r_get C hW 0 rfl rfl iwX0 4 (by decide) w_fl_X0_24 rfl dX0_operandsFit_75 ?_
      obtain ⟨r78, h78, h⟩ := bd1_some h
      refine r_SN (wr := [(ad 0, .inr (0, [.int v_cell, .int v_kind, .int v_p, .int v_q, .int v_r]))]) (np := 1) C hl (mX7_isCell X    v_r r78 h78) hW [] [0] rfl rfl rfl rfl (by decide) w_cd_X7_isCell w_st_X7_isCell w_in_HeightSheet 37 rfl (by decide +kernel) rfl ⟨Nat.le_of_ble_eq_true rfl, Nat.le_of_ble_eq_true rfl⟩ ⟨Nat.zero_le _, Nat.zero_le _⟩ (Nat.le_of_ble_eq_true rfl) dX0_operandsFit_78 (fun rv w1 H L hp hW => ?_) rfl
      obtain ⟨rfl, rfl⟩ := hp
      replace hW : Wd X k A [(ad 0, .inr (0, [.int v_cell, .int v_kind, .int v_p, .int v_q, .int v_r]))] H L := hW.sub [0] rfl rfl
      show Wx X k 0 0 H L 81 ls [.int r78]
      refine r_if_eq (tgt := 88) C dX0_operandsFit_81 (by decide) (fun c81 => ?_) (fun c81 => ?_)
      · replace h := iT c81 h
        exact K88  H L ls hW (lv_sub hl [0] rfl) h
      · replace h := iF c81 h
        exact K84  H L ls hW (lv_sub hl [0] rfl) h
  have K54 : ∀ (l1 : Int32), ∀ (H : Heap) (L : List Loc) (ls : Array Slot), Wd X k A [(ad 0, .inr (0, [.int v_cell, .int v_kind, .int v_p, .int v_q, .int v_r]))] H L → lv_has ls 3 [(0, .ref (ad 0)), (1, .int l1)] → fX0_operandsFit_j54 v_kind v_p v_q v_r  l1 = some o → Wx X k 0 0 H L 54 ls [] := by
    intro l1 H L ls hW hl h
    unfold fX0_operandsFit_j54 at h
    refine r_iload_n C hl 1 dX0_operandsFit_54 rfl rfl ?_
    refine r_iconst (v := 2) C dX0_operandsFit_55 (by decide) ?_
    refine r_icmp_lt (tgt := 69) C dX0_operandsFit_56 (by decide) (fun c56 => ?_) (fun c56 => ?_)
    · replace h := iT c56 h
      exact K69 l1 H L ls hW hl h
    · replace h := iF c56 h
      refine r_aload_n C hl 0 dX0_operandsFit_59 rfl rfl ?_
      refine r_get C hW 0 rfl rfl iwX0 3 (by decide) w_fl_X0_21 rfl dX0_operandsFit_60 ?_
      obtain ⟨r63, h63, h⟩ := bd1_some h
      refine r_SN (wr := [(ad 0, .inr (0, [.int v_cell, .int v_kind, .int v_p, .int v_q, .int v_r]))]) (np := 1) C hl (mX7_isCell X    v_q r63 h63) hW [] [0] rfl rfl rfl rfl (by decide) w_cd_X7_isCell w_st_X7_isCell w_in_HeightSheet 37 rfl (by decide +kernel) rfl ⟨Nat.le_of_ble_eq_true rfl, Nat.le_of_ble_eq_true rfl⟩ ⟨Nat.zero_le _, Nat.zero_le _⟩ (Nat.le_of_ble_eq_true rfl) dX0_operandsFit_63 (fun rv w1 H L hp hW => ?_) rfl
      obtain ⟨rfl, rfl⟩ := hp
      replace hW : Wd X k A [(ad 0, .inr (0, [.int v_cell, .int v_kind, .int v_p, .int v_q, .int v_r]))] H L := hW.sub [0] rfl rfl
      show Wx X k 0 0 H L 66 ls [.int r63]
      refine r_if_eq (tgt := 88) C dX0_operandsFit_66 (by decide) (fun c66 => ?_) (fun c66 => ?_)
      · replace h := iT c66 h
        exact K88  H L ls hW (lv_sub hl [0] rfl) h
      · replace h := iF c66 h
        exact K69 l1 H L ls hW hl h
  unfold fX0_operandsFit at h
  refine r_aload_n C hl 0 dX0_operandsFit_0 rfl rfl ?_
  refine r_get C hW 0 rfl rfl iwX0 1 (by decide) w_fl_X0_15 rfl dX0_operandsFit_1 ?_
  refine r_iconst (v := 1) C dX0_operandsFit_4 (by decide) ?_
  refine r_icmp_ne (tgt := 31) C dX0_operandsFit_5 (by decide) (fun c5 => ?_) (fun c5 => ?_)
  · replace h := iF c5 h
    refine r_aload_n C hl 0 dX0_operandsFit_31 rfl rfl ?_
    refine r_get C hW 0 rfl rfl iwX0 1 (by decide) w_fl_X0_15 rfl dX0_operandsFit_32 ?_
    obtain ⟨r35, h35, h⟩ := bd1_some h
    refine r_SN (wr := [(ad 0, .inr (0, [.int v_cell, .int v_kind, .int v_p, .int v_q, .int v_r]))]) (np := 1) C hl (mX7_operandsOf X    v_kind r35 h35) hW [] [0] rfl rfl rfl rfl (by decide) w_cd_X7_operandsOf w_st_X7_operandsOf w_in_HeightSheet 38 rfl (by decide +kernel) rfl ⟨Nat.le_of_ble_eq_true rfl, Nat.le_of_ble_eq_true rfl⟩ ⟨Nat.zero_le _, Nat.zero_le _⟩ (Nat.le_of_ble_eq_true rfl) dX0_operandsFit_35 (fun rv w1 H L hp hW => ?_) rfl
    obtain ⟨rfl, rfl⟩ := hp
    replace hW : Wd X k A [(ad 0, .inr (0, [.int v_cell, .int v_kind, .int v_p, .int v_q, .int v_r]))] H L := hW.sub [0] rfl rfl
    show Wx X k 0 0 H L 38 ls [.int r35]
    refine r_istore_n (lv' := [(1, .int r35), (0, .ref (ad 0))]) C hl dX0_operandsFit_38 rfl (by decide) rfl (fun ls hl => ?_)
    refine r_iload_n C hl 0 dX0_operandsFit_39 rfl rfl ?_
    refine r_iconst (v := 1) C dX0_operandsFit_40 (by decide) ?_
    refine r_icmp_lt (tgt := 54) C dX0_operandsFit_41 (by decide) (fun c41 => ?_) (fun c41 => ?_)
    · replace h := iT c41 h
      exact K54 r35 H L ls hW (lv_sub hl [1, 0] rfl) h
    · replace h := iF c41 h
      refine r_aload_n C hl 1 dX0_operandsFit_44 rfl rfl ?_
      refine r_get C hW 0 rfl rfl iwX0 2 (by decide) w_fl_X0_18 rfl dX0_operandsFit_45 ?_
      obtain ⟨r48, h48, h⟩ := bd1_some h
      refine r_SN (wr := [(ad 0, .inr (0, [.int v_cell, .int v_kind, .int v_p, .int v_q, .int v_r]))]) (np := 1) C hl (mX7_isCell X    v_p r48 h48) hW [] [0] rfl rfl rfl rfl (by decide) w_cd_X7_isCell w_st_X7_isCell w_in_HeightSheet 37 rfl (by decide +kernel) rfl ⟨Nat.le_of_ble_eq_true rfl, Nat.le_of_ble_eq_true rfl⟩ ⟨Nat.zero_le _, Nat.zero_le _⟩ (Nat.le_of_ble_eq_true rfl) dX0_operandsFit_48 (fun rv w1 H L hp hW => ?_) rfl
      obtain ⟨rfl, rfl⟩ := hp
      replace hW : Wd X k A [(ad 0, .inr (0, [.int v_cell, .int v_kind, .int v_p, .int v_q, .int v_r]))] H L := hW.sub [0] rfl rfl
      show Wx X k 0 0 H L 51 ls [.int r48]
      refine r_if_eq (tgt := 88) C dX0_operandsFit_51 (by decide) (fun c51 => ?_) (fun c51 => ?_)
      · replace h := iT c51 h
        exact K88  H L ls hW (lv_sub hl [1] rfl) h
      · replace h := iF c51 h
        exact K54 r35 H L ls hW (lv_sub hl [1, 0] rfl) h
  · replace h := iT c5 h
    refine r_aload_n C hl 0 dX0_operandsFit_8 rfl rfl ?_
    refine r_get C hW 0 rfl rfl iwX0 2 (by decide) w_fl_X0_18 rfl dX0_operandsFit_9 ?_
    refine r_if_lt (tgt := 29) C dX0_operandsFit_12 (by decide) (fun c12 => ?_) (fun c12 => ?_)
    · replace h := iT c12 h
      refine r_iconst (v := 0) C dX0_operandsFit_29 (by decide) ?_
      exact r_zret C hq hW (by decide) (by obtain rfl := Option.some.inj h; exact ⟨rfl, rfl⟩) dX0_operandsFit_30
    · replace h := iF c12 h
      refine r_aload_n C hl 0 dX0_operandsFit_15 rfl rfl ?_
      refine r_get C hW 0 rfl rfl iwX0 2 (by decide) w_fl_X0_18 rfl dX0_operandsFit_16 ?_
      refine r_sipush (v := 999) C dX0_operandsFit_19 (by decide) ?_
      refine r_icmp_gt (tgt := 29) C dX0_operandsFit_22 (by decide) (fun c22 => ?_) (fun c22 => ?_)
      · replace h := iT c22 h
        refine r_iconst (v := 0) C dX0_operandsFit_29 (by decide) ?_
        exact r_zret C hq hW (by decide) (by obtain rfl := Option.some.inj h; exact ⟨rfl, rfl⟩) dX0_operandsFit_30
      · replace h := iF c22 h
        refine r_iconst (v := 1) C dX0_operandsFit_25 (by decide) ?_
        refine r_goto (tgt := 30) C dX0_operandsFit_26 (by decide) ?_
        exact r_zret C hq hW (by decide) (by obtain rfl := Option.some.inj h; exact ⟨rfl, rfl⟩) dX0_operandsFit_30
def fX0_isAllowed (v_cell : Int32) (v_kind : Int32) (v_p : Int32) (v_q : Int32) (v_r : Int32) : Option (Int32) :=
  bd1 (fX7_isCell v_cell) fun r4 =>
  if r4 = (0 : Int32) then
    some (0 : Int32)
  else
    if v_kind < (0 : Int32) then
      some (0 : Int32)
    else
      if (9 : Int32) ≤ v_kind then
        some (0 : Int32)
      else
        bd1 (fX0_operandsFit v_kind v_p v_q v_r) fun r27 =>
        if r27 = (0 : Int32) then
          some (0 : Int32)
        else
          some (1 : Int32)
set_option maxRecDepth 100000 in
set_option maxHeartbeats 8000000 in
theorem mX0_isAllowed (X : Ev) (ad : Nat → Nat) (v_cell : Int32) (v_kind : Int32) (v_p : Int32) (v_q : Int32) (v_r : Int32)  (o : Int32) (h : fX0_isAllowed v_cell v_kind v_p v_q v_r = some o) : Ctr X yX0_isAllowed cX0_isAllowed 1 (some .boolean) 2 42 0 0 [.ref (ad 0)] [(ad 0, .inr (0, [.int v_cell, .int v_kind, .int v_p, .int v_q, .int v_r]))] (De (some (.int o)) [(ad 0, .inr (0, [.int v_cell, .int v_kind, .int v_p, .int v_q, .int v_r]))]) := by
  refine Ctr.start (by decide) (Nat.le_of_ble_eq_true rfl) (fun k A ls C hq hin hW hl => ?_)
  replace C : Cx X k cX0_isAllowed 1 (some .boolean) RX0 A 2 42 0 0 := C
  replace hl : lv_has ls 1 [(0, .ref (ad 0))] := hl
  suffices hh : ∀ (H : Heap) (L : List Loc), Wd X k A [(ad 0, .inr (0, [.int v_cell, .int v_kind, .int v_p, .int v_q, .int v_r]))] H L → Wx X k 0 0 H L 0 ls [] from hh _ _ hW
  clear hW
  intro H L hW
  unfold fX0_isAllowed at h
  refine r_aload_n C hl 0 dX0_isAllowed_0 rfl rfl ?_
  refine r_get C hW 0 rfl rfl iwX0 0 (by decide) w_fl_X0_9 rfl dX0_isAllowed_1 ?_
  obtain ⟨r4, h4, h⟩ := bd1_some h
  refine r_SN (wr := [(ad 0, .inr (0, [.int v_cell, .int v_kind, .int v_p, .int v_q, .int v_r]))]) (np := 1) C hl (mX7_isCell X    v_cell r4 h4) hW [] [0] rfl rfl rfl rfl (by decide) w_cd_X7_isCell w_st_X7_isCell w_in_HeightSheet 37 rfl (by decide +kernel) rfl ⟨Nat.le_of_ble_eq_true rfl, Nat.le_of_ble_eq_true rfl⟩ ⟨Nat.zero_le _, Nat.zero_le _⟩ (Nat.le_of_ble_eq_true rfl) dX0_isAllowed_4 (fun rv w1 H L hp hW => ?_) rfl
  obtain ⟨rfl, rfl⟩ := hp
  replace hW : Wd X k A [(ad 0, .inr (0, [.int v_cell, .int v_kind, .int v_p, .int v_q, .int v_r]))] H L := hW.sub [0] rfl rfl
  show Wx X k 0 0 H L 7 ls [.int r4]
  refine r_if_eq (tgt := 37) C dX0_isAllowed_7 (by decide) (fun c7 => ?_) (fun c7 => ?_)
  · replace h := iT c7 h
    refine r_iconst (v := 0) C dX0_isAllowed_37 (by decide) ?_
    exact r_zret C hq hW (by decide) (by obtain rfl := Option.some.inj h; exact ⟨rfl, rfl⟩) dX0_isAllowed_38
  · replace h := iF c7 h
    refine r_aload_n C hl 0 dX0_isAllowed_10 rfl rfl ?_
    refine r_get C hW 0 rfl rfl iwX0 1 (by decide) w_fl_X0_15 rfl dX0_isAllowed_11 ?_
    refine r_if_lt (tgt := 37) C dX0_isAllowed_14 (by decide) (fun c14 => ?_) (fun c14 => ?_)
    · replace h := iT c14 h
      refine r_iconst (v := 0) C dX0_isAllowed_37 (by decide) ?_
      exact r_zret C hq hW (by decide) (by obtain rfl := Option.some.inj h; exact ⟨rfl, rfl⟩) dX0_isAllowed_38
    · replace h := iF c14 h
      refine r_aload_n C hl 0 dX0_isAllowed_17 rfl rfl ?_
      refine r_get C hW 0 rfl rfl iwX0 1 (by decide) w_fl_X0_15 rfl dX0_isAllowed_18 ?_
      refine r_bipush (v := 9) C dX0_isAllowed_21 (by decide) ?_
      refine r_icmp_ge (tgt := 37) C dX0_isAllowed_23 (by decide) (fun c23 => ?_) (fun c23 => ?_)
      · replace h := iT c23 h
        refine r_iconst (v := 0) C dX0_isAllowed_37 (by decide) ?_
        exact r_zret C hq hW (by decide) (by obtain rfl := Option.some.inj h; exact ⟨rfl, rfl⟩) dX0_isAllowed_38
      · replace h := iF c23 h
        refine r_aload_n C hl 0 dX0_isAllowed_26 rfl rfl ?_
        obtain ⟨r27, h27, h⟩ := bd1_some h
        refine r_V (wr := []) (np := 0) C hl (mX0_operandsFit X ad  v_cell v_kind v_p v_q v_r  r27 h27) hW [0] [] rfl rfl rfl rfl (by decide) 0 rfl rfl w_cd_X0_operandsFit w_ml_X0_41 w_im_X0_operandsFit w_sel_X0_operandsFit w_in_HeightSheet_Change (by decide +kernel) rfl ⟨Nat.le_of_ble_eq_true rfl, Nat.le_of_ble_eq_true rfl⟩ ⟨Nat.zero_le _, Nat.zero_le _⟩ (Nat.le_of_ble_eq_true rfl) dX0_isAllowed_27 (fun rv w1 H L hp hW => ?_) rfl
        obtain ⟨rfl, rfl⟩ := hp
        replace hW : Wd X k A [(ad 0, .inr (0, [.int v_cell, .int v_kind, .int v_p, .int v_q, .int v_r]))] H L := hW.sub [0] rfl rfl
        show Wx X k 0 0 H L 30 ls [.int r27]
        refine r_if_eq (tgt := 37) C dX0_isAllowed_30 (by decide) (fun c30 => ?_) (fun c30 => ?_)
        · replace h := iT c30 h
          refine r_iconst (v := 0) C dX0_isAllowed_37 (by decide) ?_
          exact r_zret C hq hW (by decide) (by obtain rfl := Option.some.inj h; exact ⟨rfl, rfl⟩) dX0_isAllowed_38
        · replace h := iF c30 h
          refine r_iconst (v := 1) C dX0_isAllowed_33 (by decide) ?_
          refine r_goto (tgt := 38) C dX0_isAllowed_34 (by decide) ?_
          exact r_zret C hq hW (by decide) (by obtain rfl := Option.some.inj h; exact ⟨rfl, rfl⟩) dX0_isAllowed_38
def fX1_clear (v_parts : (Nat → Int32)) : Option ((Nat → Int32)) :=
  bd1 (fJ7_fill_53178 120 v_parts (0 : Int32)) fun c5_a =>
  some c5_a
set_option maxRecDepth 100000 in
set_option maxHeartbeats 8000000 in
theorem mX1_clear (X : Ev) (ad : Nat → Nat) (v_parts : (Nat → Int32))  (o : (Nat → Int32)) (h : fX1_clear v_parts = some o) : Ctr X yX1_clear cX1_clear 1 none 1 23 0 0 [.ref (ad 0)] [(ad 0, .inr (1, [.ref (ad 1)])), (ad 1, .inl (eI X, 120, .inl v_parts))] (De none [(ad 0, .inr (1, [.ref (ad 1)])), (ad 1, .inl (eI X, 120, .inl o))]) := by
  refine Ctr.start (by decide) (Nat.le_of_ble_eq_true rfl) (fun k A ls C hq hin hW hl => ?_)
  replace C : Cx X k cX1_clear 1 none RX1 A 1 23 0 0 := C
  replace hl : lv_has ls 1 [(0, .ref (ad 0))] := hl
  suffices hh : ∀ (H : Heap) (L : List Loc), Wd X k A [(ad 0, .inr (1, [.ref (ad 1)])), (ad 1, .inl (eI X, 120, .inl v_parts))] H L → Wx X k 0 0 H L 0 ls [] from hh _ _ hW
  clear hW
  intro H L hW
  unfold fX1_clear at h
  refine r_aload_n C hl 0 dX1_clear_0 rfl rfl ?_
  refine r_get C hW 0 rfl rfl iwX1 0 (by decide) w_fl_X1_9 rfl dX1_clear_1 ?_
  refine r_iconst (v := 0) C dX1_clear_4 (by decide) ?_
  obtain ⟨c5_a, h5, h⟩ := bd1_some h
  refine r_S (wr := [(ad 0, .inr (1, [.ref (ad 1)]))]) (np := 2) C hl (mJ7_fill_53178 X (fun i => ad (1 + i)) 120 v_parts (0 : Int32) c5_a h5) hW [1] [0] rfl rfl rfl rfl (by decide) w_cd_J7_fill_53178 w_ml_X1_15 w_st_J7_fill_53178 w_in_java_util_Arrays (by decide +kernel) rfl ⟨Nat.le_of_ble_eq_true rfl, Nat.le_of_ble_eq_true rfl⟩ ⟨Nat.zero_le _, Nat.zero_le _⟩ (Nat.le_of_ble_eq_true rfl) dX1_clear_5 (fun rv w1 H L hp hW => ?_) rfl
  obtain ⟨rfl, rfl⟩ := hp
  replace hW : Wd X k A [(ad 0, .inr (1, [.ref (ad 1)])), (ad 1, .inl (eI X, 120, .inl c5_a))] H L := hW.sub [0, 1] rfl rfl
  show Wx X k 0 0 H L 8 ls []
  exact r_vret C hq hW (by obtain rfl := Option.some.inj h; exact ⟨rfl, rfl⟩) dX1_clear_8
def fX1_become (v_parts : (Nat → Int32)) (u_parts : (Nat → Int32)) : Option ((Nat → Int32)) :=
  cpy u_parts v_parts 120 120 (0 : Int32) (0 : Int32) (120 : Int32) fun w15 =>
  some w15
set_option maxRecDepth 100000 in
set_option maxHeartbeats 8000000 in
theorem mX1_become (X : Ev) (ad : Nat → Nat) (be : Nat → Nat) (v_parts : (Nat → Int32)) (u_parts : (Nat → Int32))  (o : (Nat → Int32)) (h : fX1_become v_parts u_parts = some o) : Ctr X yX1_become cX1_become 2 none 1 60 0 0 [.ref (ad 0), .ref (be 0)] [(ad 0, .inr (1, [.ref (ad 1)])), (ad 1, .inl (eI X, 120, .inl v_parts)), (be 0, .inr (1, [.ref (be 1)])), (be 1, .inl (eI X, 120, .inl u_parts))] (De none [(ad 0, .inr (1, [.ref (ad 1)])), (ad 1, .inl (eI X, 120, .inl o)), (be 0, .inr (1, [.ref (be 1)])), (be 1, .inl (eI X, 120, .inl u_parts))]) := by
  refine Ctr.start (by decide) (Nat.le_of_ble_eq_true rfl) (fun k A ls C hq hin hW hl => ?_)
  replace C : Cx X k cX1_become 2 none RX1 A 1 60 0 0 := C
  replace hl : lv_has ls 2 [(0, .ref (ad 0)), (1, .ref (be 0))] := hl
  suffices hh : ∀ (H : Heap) (L : List Loc), Wd X k A [(ad 0, .inr (1, [.ref (ad 1)])), (ad 1, .inl (eI X, 120, .inl v_parts)), (be 0, .inr (1, [.ref (be 1)])), (be 1, .inl (eI X, 120, .inl u_parts))] H L → Wx X k 0 0 H L 0 ls [] from hh _ _ hW
  clear hW
  intro H L hW
  unfold fX1_become at h
  refine r_aload_n C hl 1 dX1_become_0 rfl rfl ?_
  refine r_get C hW 2 rfl rfl iwX1 0 (by decide) w_fl_X1_9 rfl dX1_become_1 ?_
  refine r_iconst (v := 0) C dX1_become_4 (by decide) ?_
  refine r_aload_n C hl 0 dX1_become_5 rfl rfl ?_
  refine r_get C hW 0 rfl rfl iwX1 0 (by decide) w_fl_X1_9 rfl dX1_become_6 ?_
  refine r_iconst (v := 0) C dX1_become_9 (by decide) ?_
  refine r_aload_n C hl 0 dX1_become_10 rfl rfl ?_
  refine r_get C hW 0 rfl rfl iwX1 0 (by decide) w_fl_X1_9 rfl dX1_become_11 ?_
  refine r_ilen (v := (120 : Int32)) C hW 1 rfl rfl dX1_become_14 ?_
  obtain ⟨w15, e15, ⟨ga15, gb15, gc15, gd15, ge15⟩, h⟩ := cpy_some h
  refine r_copy (ws' := [(ad 0, .inr (1, [.ref (ad 1)])), (ad 1, .inl (eI X, 120, .inl w15)), (be 0, .inr (1, [.ref (be 1)])), (be 1, .inl (eI X, 120, .inl u_parts))]) C hl hW w_ml_X1_21 3 1 rfl rfl ga15 gb15 gc15 gd15 ge15 e15 rfl (Nat.le_of_ble_eq_true rfl) (Nat.le_of_ble_eq_true rfl) dX1_become_15 (fun H L hW => ?_)
  exact r_vret C hq hW (by obtain rfl := Option.some.inj h; exact ⟨rfl, rfl⟩) dX1_become_18
def fX1_begin (v_parts : (Nat → Int32)) (p1 : Int32) (p2 : Int32) : Option ((Nat → Int32)) :=
  wr v_parts 120 ((p1 * (4 : Int32)) + (0 : Int32)) p2 fun w10 =>
  wr w10 120 ((p1 * (4 : Int32)) + (1 : Int32)) (0 : Int32) fun w21 =>
  wr w21 120 ((p1 * (4 : Int32)) + (2 : Int32)) (0 : Int32) fun w32 =>
  wr w32 120 ((p1 * (4 : Int32)) + (3 : Int32)) (0 : Int32) fun w43 =>
  some w43
set_option maxRecDepth 100000 in
set_option maxHeartbeats 8000000 in
theorem mX1_begin (X : Ev) (ad : Nat → Nat) (v_parts : (Nat → Int32)) (p1 : Int32) (p2 : Int32) (o : (Nat → Int32)) (h : fX1_begin v_parts p1 p2 = some o) : Ctr X yX1_begin cX1_begin 3 none 0 0 0 0 [.ref (ad 0), .int p1, .int p2] [(ad 0, .inr (1, [.ref (ad 1)])), (ad 1, .inl (eI X, 120, .inl v_parts))] (De none [(ad 0, .inr (1, [.ref (ad 1)])), (ad 1, .inl (eI X, 120, .inl o))]) := by
  refine Ctr.start (by decide) (Nat.le_of_ble_eq_true rfl) (fun k A ls C hq hin hW hl => ?_)
  replace C : Cx X k cX1_begin 3 none RX1 A 0 0 0 0 := C
  replace hl : lv_has ls 3 [(0, .ref (ad 0)), (1, .int p1), (2, .int p2)] := hl
  suffices hh : ∀ (H : Heap) (L : List Loc), Wd X k A [(ad 0, .inr (1, [.ref (ad 1)])), (ad 1, .inl (eI X, 120, .inl v_parts))] H L → Wx X k 0 0 H L 0 ls [] from hh _ _ hW
  clear hW
  intro H L hW
  unfold fX1_begin at h
  refine r_aload_n C hl 0 dX1_begin_0 rfl rfl ?_
  refine r_get C hW 0 rfl rfl iwX1 0 (by decide) w_fl_X1_9 rfl dX1_begin_1 ?_
  refine r_iload_n C hl 1 dX1_begin_4 rfl rfl ?_
  refine r_iconst (v := 4) C dX1_begin_5 (by decide) ?_
  refine r_imul C dX1_begin_6 ?_
  refine r_iconst (v := 0) C dX1_begin_7 (by decide) ?_
  refine r_iadd C dX1_begin_8 ?_
  refine r_iload_n C hl 2 dX1_begin_9 rfl rfl ?_
  obtain ⟨w10, e10, g10, h⟩ := wr_some h
  refine r_iast (ws' := [(ad 0, .inr (1, [.ref (ad 1)])), (ad 1, .inl (eI X, 120, .inl w10))]) C hW 1 rfl g10 e10 rfl dX1_begin_10 (fun H L hW => ?_)
  refine r_aload_n C hl 0 dX1_begin_11 rfl rfl ?_
  refine r_get C hW 0 rfl rfl iwX1 0 (by decide) w_fl_X1_9 rfl dX1_begin_12 ?_
  refine r_iload_n C hl 1 dX1_begin_15 rfl rfl ?_
  refine r_iconst (v := 4) C dX1_begin_16 (by decide) ?_
  refine r_imul C dX1_begin_17 ?_
  refine r_iconst (v := 1) C dX1_begin_18 (by decide) ?_
  refine r_iadd C dX1_begin_19 ?_
  refine r_iconst (v := 0) C dX1_begin_20 (by decide) ?_
  obtain ⟨w21, e21, g21, h⟩ := wr_some h
  refine r_iast (ws' := [(ad 0, .inr (1, [.ref (ad 1)])), (ad 1, .inl (eI X, 120, .inl w21))]) C hW 1 rfl g21 e21 rfl dX1_begin_21 (fun H L hW => ?_)
  refine r_aload_n C hl 0 dX1_begin_22 rfl rfl ?_
  refine r_get C hW 0 rfl rfl iwX1 0 (by decide) w_fl_X1_9 rfl dX1_begin_23 ?_
  refine r_iload_n C hl 1 dX1_begin_26 rfl rfl ?_
  refine r_iconst (v := 4) C dX1_begin_27 (by decide) ?_
  refine r_imul C dX1_begin_28 ?_
  refine r_iconst (v := 2) C dX1_begin_29 (by decide) ?_
  refine r_iadd C dX1_begin_30 ?_
  refine r_iconst (v := 0) C dX1_begin_31 (by decide) ?_
  obtain ⟨w32, e32, g32, h⟩ := wr_some h
  refine r_iast (ws' := [(ad 0, .inr (1, [.ref (ad 1)])), (ad 1, .inl (eI X, 120, .inl w32))]) C hW 1 rfl g32 e32 rfl dX1_begin_32 (fun H L hW => ?_)
  refine r_aload_n C hl 0 dX1_begin_33 rfl rfl ?_
  refine r_get C hW 0 rfl rfl iwX1 0 (by decide) w_fl_X1_9 rfl dX1_begin_34 ?_
  refine r_iload_n C hl 1 dX1_begin_37 rfl rfl ?_
  refine r_iconst (v := 4) C dX1_begin_38 (by decide) ?_
  refine r_imul C dX1_begin_39 ?_
  refine r_iconst (v := 3) C dX1_begin_40 (by decide) ?_
  refine r_iadd C dX1_begin_41 ?_
  refine r_iconst (v := 0) C dX1_begin_42 (by decide) ?_
  obtain ⟨w43, e43, g43, h⟩ := wr_some h
  refine r_iast (ws' := [(ad 0, .inr (1, [.ref (ad 1)])), (ad 1, .inl (eI X, 120, .inl w43))]) C hW 1 rfl g43 e43 rfl dX1_begin_43 (fun H L hW => ?_)
  exact r_vret C hq hW (by obtain rfl := Option.some.inj h; exact ⟨rfl, rfl⟩) dX1_begin_44
def fX1_setOperand (v_parts : (Nat → Int32)) (p1 : Int32) (p2 : Int32) (p3 : Int32) : Option ((Nat → Int32)) :=
  wr v_parts 120 ((p1 * (4 : Int32)) + p2) p3 fun w10 =>
  some w10
set_option maxRecDepth 100000 in
set_option maxHeartbeats 8000000 in
theorem mX1_setOperand (X : Ev) (ad : Nat → Nat) (v_parts : (Nat → Int32)) (p1 : Int32) (p2 : Int32) (p3 : Int32) (o : (Nat → Int32)) (h : fX1_setOperand v_parts p1 p2 p3 = some o) : Ctr X yX1_setOperand cX1_setOperand 4 none 0 0 0 0 [.ref (ad 0), .int p1, .int p2, .int p3] [(ad 0, .inr (1, [.ref (ad 1)])), (ad 1, .inl (eI X, 120, .inl v_parts))] (De none [(ad 0, .inr (1, [.ref (ad 1)])), (ad 1, .inl (eI X, 120, .inl o))]) := by
  refine Ctr.start (by decide) (Nat.le_of_ble_eq_true rfl) (fun k A ls C hq hin hW hl => ?_)
  replace C : Cx X k cX1_setOperand 4 none RX1 A 0 0 0 0 := C
  replace hl : lv_has ls 4 [(0, .ref (ad 0)), (1, .int p1), (2, .int p2), (3, .int p3)] := hl
  suffices hh : ∀ (H : Heap) (L : List Loc), Wd X k A [(ad 0, .inr (1, [.ref (ad 1)])), (ad 1, .inl (eI X, 120, .inl v_parts))] H L → Wx X k 0 0 H L 0 ls [] from hh _ _ hW
  clear hW
  intro H L hW
  unfold fX1_setOperand at h
  refine r_aload_n C hl 0 dX1_setOperand_0 rfl rfl ?_
  refine r_get C hW 0 rfl rfl iwX1 0 (by decide) w_fl_X1_9 rfl dX1_setOperand_1 ?_
  refine r_iload_n C hl 1 dX1_setOperand_4 rfl rfl ?_
  refine r_iconst (v := 4) C dX1_setOperand_5 (by decide) ?_
  refine r_imul C dX1_setOperand_6 ?_
  refine r_iload_n C hl 2 dX1_setOperand_7 rfl rfl ?_
  refine r_iadd C dX1_setOperand_8 ?_
  refine r_iload_n C hl 3 dX1_setOperand_9 rfl rfl ?_
  obtain ⟨w10, e10, g10, h⟩ := wr_some h
  refine r_iast (ws' := [(ad 0, .inr (1, [.ref (ad 1)])), (ad 1, .inl (eI X, 120, .inl w10))]) C hW 1 rfl g10 e10 rfl dX1_setOperand_10 (fun H L hW => ?_)
  exact r_vret C hq hW (by obtain rfl := Option.some.inj h; exact ⟨rfl, rfl⟩) dX1_setOperand_11
def fX1_take_j56 (u_cell : Int32) (u_kind : Int32) (u_p : Int32) (u_q : Int32) (u_r : Int32)  (v_parts : (Nat → Int32)) (l2 : Int32) : Option ((Nat → Int32)) :=
  if l2 < (3 : Int32) then
    some v_parts
  else
    bd1 (fX1_setOperand v_parts u_cell (3 : Int32) u_r) fun c71_parts =>
    some c71_parts
def fX1_take_j38 (u_cell : Int32) (u_kind : Int32) (u_p : Int32) (u_q : Int32) (u_r : Int32)  (v_parts : (Nat → Int32)) (l2 : Int32) : Option ((Nat → Int32)) :=
  if l2 < (2 : Int32) then
    fX1_take_j56 u_cell u_kind u_p u_q u_r  v_parts l2
  else
    bd1 (fX1_setOperand v_parts u_cell (2 : Int32) u_q) fun c53_parts =>
    fX1_take_j56 u_cell u_kind u_p u_q u_r  c53_parts l2
def fX1_take (v_parts : (Nat → Int32)) (u_cell : Int32) (u_kind : Int32) (u_p : Int32) (u_q : Int32) (u_r : Int32) : Option ((Nat → Int32)) :=
  bd1 (fX7_operandsOf u_kind) fun r4 =>
  bd1 (fX1_begin v_parts u_cell u_kind) fun c17_parts =>
  if r4 < (1 : Int32) then
    fX1_take_j38 u_cell u_kind u_p u_q u_r  c17_parts r4
  else
    bd1 (fX1_setOperand c17_parts u_cell (1 : Int32) u_p) fun c35_parts =>
    fX1_take_j38 u_cell u_kind u_p u_q u_r  c35_parts r4
set_option maxRecDepth 100000 in
set_option maxHeartbeats 8000000 in
theorem mX1_take (X : Ev) (ad : Nat → Nat) (be : Nat → Nat) (v_parts : (Nat → Int32)) (u_cell : Int32) (u_kind : Int32) (u_p : Int32) (u_q : Int32) (u_r : Int32)  (o : (Nat → Int32)) (h : fX1_take v_parts u_cell u_kind u_p u_q u_r = some o) : Ctr X yX1_take cX1_take 3 none 1 23 0 0 [.ref (ad 0), .ref (be 0)] [(ad 0, .inr (1, [.ref (ad 1)])), (ad 1, .inl (eI X, 120, .inl v_parts)), (be 0, .inr (0, [.int u_cell, .int u_kind, .int u_p, .int u_q, .int u_r]))] (De none [(ad 0, .inr (1, [.ref (ad 1)])), (ad 1, .inl (eI X, 120, .inl o)), (be 0, .inr (0, [.int u_cell, .int u_kind, .int u_p, .int u_q, .int u_r]))]) := by
  refine Ctr.start (by decide) (Nat.le_of_ble_eq_true rfl) (fun k A ls C hq hin hW hl => ?_)
  replace C : Cx X k cX1_take 3 none RX1 A 1 23 0 0 := C
  replace hl : lv_has ls 3 [(0, .ref (ad 0)), (1, .ref (be 0))] := hl
  suffices hh : ∀ (H : Heap) (L : List Loc), Wd X k A [(ad 0, .inr (1, [.ref (ad 1)])), (ad 1, .inl (eI X, 120, .inl v_parts)), (be 0, .inr (0, [.int u_cell, .int u_kind, .int u_p, .int u_q, .int u_r]))] H L → Wx X k 0 0 H L 0 ls [] from hh _ _ hW
  clear hW
  intro H L hW
  have K56 : ∀ (v_parts : (Nat → Int32)), ∀ (l2 : Int32), ∀ (H : Heap) (L : List Loc) (ls : Array Slot), Wd X k A [(ad 0, .inr (1, [.ref (ad 1)])), (ad 1, .inl (eI X, 120, .inl v_parts)), (be 0, .inr (0, [.int u_cell, .int u_kind, .int u_p, .int u_q, .int u_r]))] H L → lv_has ls 3 [(0, .ref (ad 0)), (1, .ref (be 0)), (2, .int l2)] → fX1_take_j56 u_cell u_kind u_p u_q u_r  v_parts l2 = some o → Wx X k 0 0 H L 56 ls [] := by
    intro v_parts l2 H L ls hW hl h
    unfold fX1_take_j56 at h
    refine r_iload_n C hl 2 dX1_take_56 rfl rfl ?_
    refine r_iconst (v := 3) C dX1_take_57 (by decide) ?_
    refine r_icmp_lt (tgt := 74) C dX1_take_58 (by decide) (fun c58 => ?_) (fun c58 => ?_)
    · replace h := iT c58 h
      exact r_vret C hq hW (by obtain rfl := Option.some.inj h; exact ⟨rfl, rfl⟩) dX1_take_74
    · replace h := iF c58 h
      refine r_aload_n C hl 0 dX1_take_61 rfl rfl ?_
      refine r_aload_n C hl 1 dX1_take_62 rfl rfl ?_
      refine r_getN C hW 2 rfl rfl iwX0 0 (by decide) 15 rfl rfl dX1_take_63 ?_
      refine r_iconst (v := 3) C dX1_take_66 (by decide) ?_
      refine r_aload_n C hl 1 dX1_take_67 rfl rfl ?_
      refine r_getN C hW 2 rfl rfl iwX0 4 (by decide) 24 rfl rfl dX1_take_68 ?_
      obtain ⟨c71_parts, h71, h⟩ := bd1_some h
      refine r_V (wr := [(be 0, .inr (0, [.int u_cell, .int u_kind, .int u_p, .int u_q, .int u_r]))]) (np := 3) C hl (mX1_setOperand X ad  v_parts u_cell (3 : Int32) u_r c71_parts h71) hW [0, 1] [2] rfl rfl rfl rfl (by decide) 0 rfl rfl w_cd_X1_setOperand w_ml_X1_47 w_im_X1_setOperand w_sel_X1_setOperand w_in_HeightSheet_Formulas (by decide +kernel) rfl ⟨Nat.le_of_ble_eq_true rfl, Nat.le_of_ble_eq_true rfl⟩ ⟨Nat.zero_le _, Nat.zero_le _⟩ (Nat.le_of_ble_eq_true rfl) dX1_take_71 (fun rv w1 H L hp hW => ?_) rfl
      obtain ⟨rfl, rfl⟩ := hp
      replace hW : Wd X k A [(ad 0, .inr (1, [.ref (ad 1)])), (ad 1, .inl (eI X, 120, .inl c71_parts)), (be 0, .inr (0, [.int u_cell, .int u_kind, .int u_p, .int u_q, .int u_r]))] H L := hW.sub [1, 2, 0] rfl rfl
      show Wx X k 0 0 H L 74 ls []
      exact r_vret C hq hW (by obtain rfl := Option.some.inj h; exact ⟨rfl, rfl⟩) dX1_take_74
  have K38 : ∀ (v_parts : (Nat → Int32)), ∀ (l2 : Int32), ∀ (H : Heap) (L : List Loc) (ls : Array Slot), Wd X k A [(ad 0, .inr (1, [.ref (ad 1)])), (ad 1, .inl (eI X, 120, .inl v_parts)), (be 0, .inr (0, [.int u_cell, .int u_kind, .int u_p, .int u_q, .int u_r]))] H L → lv_has ls 3 [(0, .ref (ad 0)), (1, .ref (be 0)), (2, .int l2)] → fX1_take_j38 u_cell u_kind u_p u_q u_r  v_parts l2 = some o → Wx X k 0 0 H L 38 ls [] := by
    intro v_parts l2 H L ls hW hl h
    unfold fX1_take_j38 at h
    refine r_iload_n C hl 2 dX1_take_38 rfl rfl ?_
    refine r_iconst (v := 2) C dX1_take_39 (by decide) ?_
    refine r_icmp_lt (tgt := 56) C dX1_take_40 (by decide) (fun c40 => ?_) (fun c40 => ?_)
    · replace h := iT c40 h
      exact K56 v_parts l2 H L ls hW hl h
    · replace h := iF c40 h
      refine r_aload_n C hl 0 dX1_take_43 rfl rfl ?_
      refine r_aload_n C hl 1 dX1_take_44 rfl rfl ?_
      refine r_getN C hW 2 rfl rfl iwX0 0 (by decide) 15 rfl rfl dX1_take_45 ?_
      refine r_iconst (v := 2) C dX1_take_48 (by decide) ?_
      refine r_aload_n C hl 1 dX1_take_49 rfl rfl ?_
      refine r_getN C hW 2 rfl rfl iwX0 3 (by decide) 22 rfl rfl dX1_take_50 ?_
      obtain ⟨c53_parts, h53, h⟩ := bd1_some h
      refine r_V (wr := [(be 0, .inr (0, [.int u_cell, .int u_kind, .int u_p, .int u_q, .int u_r]))]) (np := 3) C hl (mX1_setOperand X ad  v_parts u_cell (2 : Int32) u_q c53_parts h53) hW [0, 1] [2] rfl rfl rfl rfl (by decide) 0 rfl rfl w_cd_X1_setOperand w_ml_X1_47 w_im_X1_setOperand w_sel_X1_setOperand w_in_HeightSheet_Formulas (by decide +kernel) rfl ⟨Nat.le_of_ble_eq_true rfl, Nat.le_of_ble_eq_true rfl⟩ ⟨Nat.zero_le _, Nat.zero_le _⟩ (Nat.le_of_ble_eq_true rfl) dX1_take_53 (fun rv w1 H L hp hW => ?_) rfl
      obtain ⟨rfl, rfl⟩ := hp
      replace hW : Wd X k A [(ad 0, .inr (1, [.ref (ad 1)])), (ad 1, .inl (eI X, 120, .inl c53_parts)), (be 0, .inr (0, [.int u_cell, .int u_kind, .int u_p, .int u_q, .int u_r]))] H L := hW.sub [1, 2, 0] rfl rfl
      show Wx X k 0 0 H L 56 ls []
      exact K56 c53_parts l2 H L ls hW hl h
  unfold fX1_take at h
  refine r_aload_n C hl 1 dX1_take_0 rfl rfl ?_
  refine r_getN C hW 2 rfl rfl iwX0 1 (by decide) 18 rfl rfl dX1_take_1 ?_
  obtain ⟨r4, h4, h⟩ := bd1_some h
  refine r_SN (wr := [(ad 0, .inr (1, [.ref (ad 1)])), (ad 1, .inl (eI X, 120, .inl v_parts)), (be 0, .inr (0, [.int u_cell, .int u_kind, .int u_p, .int u_q, .int u_r]))]) (np := 1) C hl (mX7_operandsOf X    u_kind r4 h4) hW [] [0, 1, 2] rfl rfl rfl rfl (by decide) w_cd_X7_operandsOf w_st_X7_operandsOf w_in_HeightSheet 44 rfl (by decide +kernel) rfl ⟨Nat.le_of_ble_eq_true rfl, Nat.le_of_ble_eq_true rfl⟩ ⟨Nat.zero_le _, Nat.zero_le _⟩ (Nat.le_of_ble_eq_true rfl) dX1_take_4 (fun rv w1 H L hp hW => ?_) rfl
  obtain ⟨rfl, rfl⟩ := hp
  replace hW : Wd X k A [(ad 0, .inr (1, [.ref (ad 1)])), (ad 1, .inl (eI X, 120, .inl v_parts)), (be 0, .inr (0, [.int u_cell, .int u_kind, .int u_p, .int u_q, .int u_r]))] H L := hW.sub [0, 1, 2] rfl rfl
  show Wx X k 0 0 H L 7 ls [.int r4]
  refine r_istore_n (lv' := [(2, .int r4), (0, .ref (ad 0)), (1, .ref (be 0))]) C hl dX1_take_7 rfl (by decide) rfl (fun ls hl => ?_)
  refine r_aload_n C hl 1 dX1_take_8 rfl rfl ?_
  refine r_aload_n C hl 2 dX1_take_9 rfl rfl ?_
  refine r_getN C hW 2 rfl rfl iwX0 0 (by decide) 15 rfl rfl dX1_take_10 ?_
  refine r_aload_n C hl 2 dX1_take_13 rfl rfl ?_
  refine r_getN C hW 2 rfl rfl iwX0 1 (by decide) 18 rfl rfl dX1_take_14 ?_
  obtain ⟨c17_parts, h17, h⟩ := bd1_some h
  refine r_V (wr := [(be 0, .inr (0, [.int u_cell, .int u_kind, .int u_p, .int u_q, .int u_r]))]) (np := 2) C hl (mX1_begin X ad  v_parts u_cell u_kind c17_parts h17) hW [0, 1] [2] rfl rfl rfl rfl (by decide) 0 rfl rfl w_cd_X1_begin w_ml_X1_40 w_im_X1_begin w_sel_X1_begin w_in_HeightSheet_Formulas (by decide +kernel) rfl ⟨Nat.le_of_ble_eq_true rfl, Nat.le_of_ble_eq_true rfl⟩ ⟨Nat.zero_le _, Nat.zero_le _⟩ (Nat.le_of_ble_eq_true rfl) dX1_take_17 (fun rv w1 H L hp hW => ?_) rfl
  obtain ⟨rfl, rfl⟩ := hp
  replace hW : Wd X k A [(ad 0, .inr (1, [.ref (ad 1)])), (ad 1, .inl (eI X, 120, .inl c17_parts)), (be 0, .inr (0, [.int u_cell, .int u_kind, .int u_p, .int u_q, .int u_r]))] H L := hW.sub [1, 2, 0] rfl rfl
  show Wx X k 0 0 H L 20 ls []
  refine r_iload_n C hl 0 dX1_take_20 rfl rfl ?_
  refine r_iconst (v := 1) C dX1_take_21 (by decide) ?_
  refine r_icmp_lt (tgt := 38) C dX1_take_22 (by decide) (fun c22 => ?_) (fun c22 => ?_)
  · replace h := iT c22 h
    exact K38 c17_parts r4 H L ls hW (lv_sub hl [1, 2, 0] rfl) h
  · replace h := iF c22 h
    refine r_aload_n C hl 1 dX1_take_25 rfl rfl ?_
    refine r_aload_n C hl 2 dX1_take_26 rfl rfl ?_
    refine r_getN C hW 2 rfl rfl iwX0 0 (by decide) 15 rfl rfl dX1_take_27 ?_
    refine r_iconst (v := 1) C dX1_take_30 (by decide) ?_
    refine r_aload_n C hl 2 dX1_take_31 rfl rfl ?_
    refine r_getN C hW 2 rfl rfl iwX0 2 (by decide) 20 rfl rfl dX1_take_32 ?_
    obtain ⟨c35_parts, h35, h⟩ := bd1_some h
    refine r_V (wr := [(be 0, .inr (0, [.int u_cell, .int u_kind, .int u_p, .int u_q, .int u_r]))]) (np := 3) C hl (mX1_setOperand X ad  c17_parts u_cell (1 : Int32) u_p c35_parts h35) hW [0, 1] [2] rfl rfl rfl rfl (by decide) 0 rfl rfl w_cd_X1_setOperand w_ml_X1_47 w_im_X1_setOperand w_sel_X1_setOperand w_in_HeightSheet_Formulas (by decide +kernel) rfl ⟨Nat.le_of_ble_eq_true rfl, Nat.le_of_ble_eq_true rfl⟩ ⟨Nat.zero_le _, Nat.zero_le _⟩ (Nat.le_of_ble_eq_true rfl) dX1_take_35 (fun rv w1 H L hp hW => ?_) rfl
    obtain ⟨rfl, rfl⟩ := hp
    replace hW : Wd X k A [(ad 0, .inr (1, [.ref (ad 1)])), (ad 1, .inl (eI X, 120, .inl c35_parts)), (be 0, .inr (0, [.int u_cell, .int u_kind, .int u_p, .int u_q, .int u_r]))] H L := hW.sub [1, 2, 0] rfl rfl
    show Wx X k 0 0 H L 38 ls []
    exact K38 c35_parts r4 H L ls hW (lv_sub hl [1, 2, 0] rfl) h
def fX1_countTold_j25 (v_parts : (Nat → Int32)) (self4 : Int32 → Int32 → Option (Int32)) (l2 : Int32) (s0 : Int32) (s1 : Int32) : Option (Int32) :=
  self4 (s0 + s1) (l2 + (1 : Int32))
def fX1_countTold_b4 (v_parts : (Nat → Int32))   (self4 : Int32 → Int32 → Option (Int32)) (l1 : Int32) (l2 : Int32) : Option (Int32) :=
  if (30 : Int32) ≤ l2 then
    some l1
  else
    bd1 (fX1_part v_parts l2 (0 : Int32)) fun r14 =>
    if r14 = (0 : Int32) then
      fX1_countTold_j25 v_parts self4 l2 l1 (0 : Int32)
    else
      fX1_countTold_j25 v_parts self4 l2 l1 (1 : Int32)
def fX1_countTold (v_parts : (Nat → Int32)) : Option (Int32) :=
  lq2 (fX1_countTold_b4 v_parts  ) fu (0 : Int32) (0 : Int32)
set_option maxRecDepth 100000 in
set_option maxHeartbeats 8000000 in
theorem mX1_countTold (X : Ev) (ad : Nat → Nat) (v_parts : (Nat → Int32))  (o : Int32) (h : fX1_countTold v_parts = some o) : Ctr X yX1_countTold cX1_countTold 3 (some .int) 1 22 0 0 [.ref (ad 0)] [(ad 0, .inr (1, [.ref (ad 1)])), (ad 1, .inl (eI X, 120, .inl v_parts))] (De (some (.int o)) [(ad 0, .inr (1, [.ref (ad 1)])), (ad 1, .inl (eI X, 120, .inl v_parts))]) := by
  refine Ctr.start (by decide) (Nat.le_of_ble_eq_true rfl) (fun k A ls C hq hin hW hl => ?_)
  replace C : Cx X k cX1_countTold 3 (some .int) RX1 A 1 22 0 0 := C
  replace hl : lv_has ls 3 [(0, .ref (ad 0))] := hl
  suffices hh : ∀ (H : Heap) (L : List Loc), Wd X k A [(ad 0, .inr (1, [.ref (ad 1)])), (ad 1, .inl (eI X, 120, .inl v_parts))] H L → Wx X k 0 0 H L 0 ls [] from hh _ _ hW
  clear hW
  intro H L hW
  have K4 : ∀ (n4 : Nat), ∀ (l1 : Int32), ∀ (l2 : Int32), ∀ (H : Heap) (L : List Loc) (ls : Array Slot), Wd X k A [(ad 0, .inr (1, [.ref (ad 1)])), (ad 1, .inl (eI X, 120, .inl v_parts))] H L → lv_has ls 3 [(0, .ref (ad 0)), (1, .int l1), (2, .int l2)] → lq2 (fX1_countTold_b4 v_parts  ) n4 l1 l2 = some o → Wx X k 0 0 H L 4 ls [] := by
    intro n4
    induction n4 with
    | zero => intro l1 l2 H L ls hW hl h; exact lq2_0 h
    | succ n4 ih4 =>
      have K25 : ∀ (l2 : Int32), ∀ (s0 : Int32), ∀ (s1 : Int32), ∀ (H : Heap) (L : List Loc) (ls : Array Slot), Wd X k A [(ad 0, .inr (1, [.ref (ad 1)])), (ad 1, .inl (eI X, 120, .inl v_parts))] H L → lv_has ls 3 [(0, .ref (ad 0)), (2, .int l2)] → fX1_countTold_j25 v_parts (lq2 (fX1_countTold_b4 v_parts  ) n4) l2 s0 s1 = some o → Wx X k 0 0 H L 25 ls [.int s1, .int s0] := by
        intro l2 s0 s1 H L ls hW hl h
        unfold fX1_countTold_j25 at h
        refine r_iadd C dX1_countTold_25 ?_
        refine r_istore_n (lv' := [(1, .int (s0 + s1)), (0, .ref (ad 0)), (2, .int l2)]) C hl dX1_countTold_26 rfl (by decide) rfl (fun ls hl => ?_)
        refine r_iinc (j := 2) (v := l2 + (1 : Int32)) (lv' := [(2, .int (l2 + (1 : Int32))), (1, .int (s0 + s1)), (0, .ref (ad 0))]) C hl dX1_countTold_27 rfl rfl (by decide) rfl (fun ls hl => ?_)
        refine r_goto (tgt := 4) C dX1_countTold_30 (by decide) ?_
        exact ih4 (s0 + s1) (l2 + (1 : Int32)) H L ls hW (lv_sub hl [2, 1, 0] rfl) h
      intro l1 l2 H L ls hW hl h
      rw [lq2_s] at h
      unfold fX1_countTold_b4 at h
      refine r_iload_n C hl 2 dX1_countTold_4 rfl rfl ?_
      refine r_bipush (v := 30) C dX1_countTold_5 (by decide) ?_
      refine r_icmp_ge (tgt := 33) C dX1_countTold_7 (by decide) (fun c7 => ?_) (fun c7 => ?_)
      · replace h := iT c7 h
        refine r_iload_n C hl 1 dX1_countTold_33 rfl rfl ?_
        exact r_iret C hq hW (by obtain rfl := Option.some.inj h; exact ⟨rfl, rfl⟩) dX1_countTold_34
      · replace h := iF c7 h
        refine r_iload_n C hl 1 dX1_countTold_10 rfl rfl ?_
        refine r_aload_n C hl 0 dX1_countTold_11 rfl rfl ?_
        refine r_iload_n C hl 2 dX1_countTold_12 rfl rfl ?_
        refine r_iconst (v := 0) C dX1_countTold_13 (by decide) ?_
        obtain ⟨r14, h14, h⟩ := bd1_some h
        refine r_V (wr := []) (np := 2) C hl (mX1_part X ad  v_parts l2 (0 : Int32) r14 h14) hW [0, 1] [] rfl rfl rfl rfl (by decide) 0 rfl rfl w_cd_X1_part w_ml_X1_57 w_im_X1_part w_sel_X1_part w_in_HeightSheet_Formulas (by decide +kernel) rfl ⟨Nat.le_of_ble_eq_true rfl, Nat.le_of_ble_eq_true rfl⟩ ⟨Nat.zero_le _, Nat.zero_le _⟩ (Nat.le_of_ble_eq_true rfl) dX1_countTold_14 (fun rv w1 H L hp hW => ?_) rfl
        obtain ⟨rfl, rfl⟩ := hp
        replace hW : Wd X k A [(ad 0, .inr (1, [.ref (ad 1)])), (ad 1, .inl (eI X, 120, .inl v_parts))] H L := hW.sub [0, 1] rfl rfl
        show Wx X k 0 0 H L 17 ls [.int r14, .int l1]
        refine r_if_eq (tgt := 24) C dX1_countTold_17 (by decide) (fun c17 => ?_) (fun c17 => ?_)
        · replace h := iT c17 h
          refine r_iconst (v := 0) C dX1_countTold_24 (by decide) ?_
          exact K25 l2 l1 (0 : Int32) H L ls hW (lv_sub hl [0, 2] rfl) h
        · replace h := iF c17 h
          refine r_iconst (v := 1) C dX1_countTold_20 (by decide) ?_
          refine r_goto (tgt := 25) C dX1_countTold_21 (by decide) ?_
          exact K25 l2 l1 (1 : Int32) H L ls hW (lv_sub hl [0, 2] rfl) h
  unfold fX1_countTold at h
  refine r_iconst (v := 0) C dX1_countTold_0 (by decide) ?_
  refine r_istore_n (lv' := [(1, .int (0 : Int32)), (0, .ref (ad 0))]) C hl dX1_countTold_1 rfl (by decide) rfl (fun ls hl => ?_)
  refine r_iconst (v := 0) C dX1_countTold_2 (by decide) ?_
  refine r_istore_n (lv' := [(2, .int (0 : Int32)), (1, .int (0 : Int32)), (0, .ref (ad 0))]) C hl dX1_countTold_3 rfl (by decide) rfl (fun ls hl => ?_)
  exact K4  fu (0 : Int32) (0 : Int32) H L ls hW (lv_sub hl [2, 1, 0] rfl) h
def fX1_countSpans_j28 (v_parts : (Nat → Int32)) (self4 : Int32 → Int32 → Option (Int32)) (l2 : Int32) (s0 : Int32) (s1 : Int32) : Option (Int32) :=
  self4 (s0 + s1) (l2 + (1 : Int32))
def fX1_countSpans_b4 (v_parts : (Nat → Int32))   (self4 : Int32 → Int32 → Option (Int32)) (l1 : Int32) (l2 : Int32) : Option (Int32) :=
  if (30 : Int32) ≤ l2 then
    some l1
  else
    bd1 (fX1_part v_parts l2 (0 : Int32)) fun r14 =>
    bd1 (fX7_isSpan r14) fun r17 =>
    if r17 = (0 : Int32) then
      fX1_countSpans_j28 v_parts self4 l2 l1 (0 : Int32)
    else
      fX1_countSpans_j28 v_parts self4 l2 l1 (1 : Int32)
def fX1_countSpans (v_parts : (Nat → Int32)) : Option (Int32) :=
  lq2 (fX1_countSpans_b4 v_parts  ) fu (0 : Int32) (0 : Int32)
set_option maxRecDepth 100000 in
set_option maxHeartbeats 8000000 in
theorem mX1_countSpans (X : Ev) (ad : Nat → Nat) (v_parts : (Nat → Int32))  (o : Int32) (h : fX1_countSpans v_parts = some o) : Ctr X yX1_countSpans cX1_countSpans 3 (some .int) 1 22 0 0 [.ref (ad 0)] [(ad 0, .inr (1, [.ref (ad 1)])), (ad 1, .inl (eI X, 120, .inl v_parts))] (De (some (.int o)) [(ad 0, .inr (1, [.ref (ad 1)])), (ad 1, .inl (eI X, 120, .inl v_parts))]) := by
  refine Ctr.start (by decide) (Nat.le_of_ble_eq_true rfl) (fun k A ls C hq hin hW hl => ?_)
  replace C : Cx X k cX1_countSpans 3 (some .int) RX1 A 1 22 0 0 := C
  replace hl : lv_has ls 3 [(0, .ref (ad 0))] := hl
  suffices hh : ∀ (H : Heap) (L : List Loc), Wd X k A [(ad 0, .inr (1, [.ref (ad 1)])), (ad 1, .inl (eI X, 120, .inl v_parts))] H L → Wx X k 0 0 H L 0 ls [] from hh _ _ hW
  clear hW
  intro H L hW
  have K4 : ∀ (n4 : Nat), ∀ (l1 : Int32), ∀ (l2 : Int32), ∀ (H : Heap) (L : List Loc) (ls : Array Slot), Wd X k A [(ad 0, .inr (1, [.ref (ad 1)])), (ad 1, .inl (eI X, 120, .inl v_parts))] H L → lv_has ls 3 [(0, .ref (ad 0)), (1, .int l1), (2, .int l2)] → lq2 (fX1_countSpans_b4 v_parts  ) n4 l1 l2 = some o → Wx X k 0 0 H L 4 ls [] := by
    intro n4
    induction n4 with
    | zero => intro l1 l2 H L ls hW hl h; exact lq2_0 h
    | succ n4 ih4 =>
      have K28 : ∀ (l2 : Int32), ∀ (s0 : Int32), ∀ (s1 : Int32), ∀ (H : Heap) (L : List Loc) (ls : Array Slot), Wd X k A [(ad 0, .inr (1, [.ref (ad 1)])), (ad 1, .inl (eI X, 120, .inl v_parts))] H L → lv_has ls 3 [(0, .ref (ad 0)), (2, .int l2)] → fX1_countSpans_j28 v_parts (lq2 (fX1_countSpans_b4 v_parts  ) n4) l2 s0 s1 = some o → Wx X k 0 0 H L 28 ls [.int s1, .int s0] := by
        intro l2 s0 s1 H L ls hW hl h
        unfold fX1_countSpans_j28 at h
        refine r_iadd C dX1_countSpans_28 ?_
        refine r_istore_n (lv' := [(1, .int (s0 + s1)), (0, .ref (ad 0)), (2, .int l2)]) C hl dX1_countSpans_29 rfl (by decide) rfl (fun ls hl => ?_)
        refine r_iinc (j := 2) (v := l2 + (1 : Int32)) (lv' := [(2, .int (l2 + (1 : Int32))), (1, .int (s0 + s1)), (0, .ref (ad 0))]) C hl dX1_countSpans_30 rfl rfl (by decide) rfl (fun ls hl => ?_)
        refine r_goto (tgt := 4) C dX1_countSpans_33 (by decide) ?_
        exact ih4 (s0 + s1) (l2 + (1 : Int32)) H L ls hW (lv_sub hl [2, 1, 0] rfl) h
      intro l1 l2 H L ls hW hl h
      rw [lq2_s] at h
      unfold fX1_countSpans_b4 at h
      refine r_iload_n C hl 2 dX1_countSpans_4 rfl rfl ?_
      refine r_bipush (v := 30) C dX1_countSpans_5 (by decide) ?_
      refine r_icmp_ge (tgt := 36) C dX1_countSpans_7 (by decide) (fun c7 => ?_) (fun c7 => ?_)
      · replace h := iT c7 h
        refine r_iload_n C hl 1 dX1_countSpans_36 rfl rfl ?_
        exact r_iret C hq hW (by obtain rfl := Option.some.inj h; exact ⟨rfl, rfl⟩) dX1_countSpans_37
      · replace h := iF c7 h
        refine r_iload_n C hl 1 dX1_countSpans_10 rfl rfl ?_
        refine r_aload_n C hl 0 dX1_countSpans_11 rfl rfl ?_
        refine r_iload_n C hl 2 dX1_countSpans_12 rfl rfl ?_
        refine r_iconst (v := 0) C dX1_countSpans_13 (by decide) ?_
        obtain ⟨r14, h14, h⟩ := bd1_some h
        refine r_V (wr := []) (np := 2) C hl (mX1_part X ad  v_parts l2 (0 : Int32) r14 h14) hW [0, 1] [] rfl rfl rfl rfl (by decide) 0 rfl rfl w_cd_X1_part w_ml_X1_57 w_im_X1_part w_sel_X1_part w_in_HeightSheet_Formulas (by decide +kernel) rfl ⟨Nat.le_of_ble_eq_true rfl, Nat.le_of_ble_eq_true rfl⟩ ⟨Nat.zero_le _, Nat.zero_le _⟩ (Nat.le_of_ble_eq_true rfl) dX1_countSpans_14 (fun rv w1 H L hp hW => ?_) rfl
        obtain ⟨rfl, rfl⟩ := hp
        replace hW : Wd X k A [(ad 0, .inr (1, [.ref (ad 1)])), (ad 1, .inl (eI X, 120, .inl v_parts))] H L := hW.sub [0, 1] rfl rfl
        show Wx X k 0 0 H L 17 ls [.int r14, .int l1]
        obtain ⟨r17, h17, h⟩ := bd1_some h
        refine r_SN (wr := [(ad 0, .inr (1, [.ref (ad 1)])), (ad 1, .inl (eI X, 120, .inl v_parts))]) (np := 1) C hl (mX7_isSpan X    r14 r17 h17) hW [] [0, 1] rfl rfl rfl rfl (by decide) w_cd_X7_isSpan w_st_X7_isSpan w_in_HeightSheet 56 rfl (by decide +kernel) rfl ⟨Nat.le_of_ble_eq_true rfl, Nat.le_of_ble_eq_true rfl⟩ ⟨Nat.zero_le _, Nat.zero_le _⟩ (Nat.le_of_ble_eq_true rfl) dX1_countSpans_17 (fun rv w1 H L hp hW => ?_) rfl
        obtain ⟨rfl, rfl⟩ := hp
        replace hW : Wd X k A [(ad 0, .inr (1, [.ref (ad 1)])), (ad 1, .inl (eI X, 120, .inl v_parts))] H L := hW.sub [0, 1] rfl rfl
        show Wx X k 0 0 H L 20 ls [.int r17, .int l1]
        refine r_if_eq (tgt := 27) C dX1_countSpans_20 (by decide) (fun c20 => ?_) (fun c20 => ?_)
        · replace h := iT c20 h
          refine r_iconst (v := 0) C dX1_countSpans_27 (by decide) ?_
          exact K28 l2 l1 (0 : Int32) H L ls hW (lv_sub hl [0, 2] rfl) h
        · replace h := iF c20 h
          refine r_iconst (v := 1) C dX1_countSpans_23 (by decide) ?_
          refine r_goto (tgt := 28) C dX1_countSpans_24 (by decide) ?_
          exact K28 l2 l1 (1 : Int32) H L ls hW (lv_sub hl [0, 2] rfl) h
  unfold fX1_countSpans at h
  refine r_iconst (v := 0) C dX1_countSpans_0 (by decide) ?_
  refine r_istore_n (lv' := [(1, .int (0 : Int32)), (0, .ref (ad 0))]) C hl dX1_countSpans_1 rfl (by decide) rfl (fun ls hl => ?_)
  refine r_iconst (v := 0) C dX1_countSpans_2 (by decide) ?_
  refine r_istore_n (lv' := [(2, .int (0 : Int32)), (1, .int (0 : Int32)), (0, .ref (ad 0))]) C hl dX1_countSpans_3 rfl (by decide) rfl (fun ls hl => ?_)
  exact K4  fu (0 : Int32) (0 : Int32) H L ls hW (lv_sub hl [2, 1, 0] rfl) h
def fX2_clear (v_size : Int32) : Option (Int32) :=
  some (0 : Int32)
set_option maxRecDepth 100000 in
set_option maxHeartbeats 8000000 in
theorem mX2_clear (X : Ev) (ad : Nat → Nat) (v_entries : (Nat → Int32)) (v_size : Int32)  (o : Int32) (h : fX2_clear v_size = some o) : Ctr X yX2_clear cX2_clear 1 none 0 0 0 0 [.ref (ad 0)] [(ad 0, .inr (2, [.ref (ad 1), .int v_size])), (ad 1, .inl (eI X, 100, .inl v_entries))] (De none [(ad 0, .inr (2, [.ref (ad 1), .int o])), (ad 1, .inl (eI X, 100, .inl v_entries))]) := by
  refine Ctr.start (by decide) (Nat.le_of_ble_eq_true rfl) (fun k A ls C hq hin hW hl => ?_)
  replace C : Cx X k cX2_clear 1 none RX2 A 0 0 0 0 := C
  replace hl : lv_has ls 1 [(0, .ref (ad 0))] := hl
  suffices hh : ∀ (H : Heap) (L : List Loc), Wd X k A [(ad 0, .inr (2, [.ref (ad 1), .int v_size])), (ad 1, .inl (eI X, 100, .inl v_entries))] H L → Wx X k 0 0 H L 0 ls [] from hh _ _ hW
  clear hW
  intro H L hW
  unfold fX2_clear at h
  refine r_aload_n C hl 0 dX2_clear_0 rfl rfl ?_
  refine r_iconst (v := 0) C dX2_clear_1 (by decide) ?_
  refine r_put (ws' := [(ad 0, .inr (2, [.ref (ad 1), .int (0 : Int32)])), (ad 1, .inl (eI X, 100, .inl v_entries))]) C hW 0 rfl rfl iwX2 tyX2_ok nmX2 1 (by decide) w_fl_X2_15 rfl (tyX2_ok 1 (by decide)) rfl rfl (Nat.le_of_ble_eq_true rfl) rfl dX2_clear_2 (fun H L hW => ?_)
  exact r_vret C hq hW (by obtain rfl := Option.some.inj h; exact ⟨rfl, rfl⟩) dX2_clear_5
def fX2_push_j39 (u_cell : Int32) (u_kind : Int32) (u_p : Int32) (u_q : Int32) (u_r : Int32)  (v_entries : (Nat → Int32)) (v_size : Int32) : Option ((Nat → Int32) × Int32) :=
  wr v_entries 100 (v_size * (5 : Int32)) u_cell fun w55 =>
  wr w55 100 ((v_size * (5 : Int32)) + (1 : Int32)) u_kind fun w67 =>
  wr w67 100 ((v_size * (5 : Int32)) + (2 : Int32)) u_p fun w79 =>
  wr w79 100 ((v_size * (5 : Int32)) + (3 : Int32)) u_q fun w91 =>
  wr w91 100 ((v_size * (5 : Int32)) + (4 : Int32)) u_r fun w103 =>
  some (w103, v_size + (1 : Int32))
def fX2_push (v_entries : (Nat → Int32)) (v_size : Int32) (u_cell : Int32) (u_kind : Int32) (u_p : Int32) (u_q : Int32) (u_r : Int32) : Option ((Nat → Int32) × Int32) :=
  if v_size = (20 : Int32) then
    cpy v_entries v_entries 100 100 (5 : Int32) (0 : Int32) (95 : Int32) fun w26 =>
    fX2_push_j39 u_cell u_kind u_p u_q u_r  w26 (v_size - (1 : Int32))
  else
    fX2_push_j39 u_cell u_kind u_p u_q u_r  v_entries v_size
set_option maxRecDepth 100000 in
set_option maxHeartbeats 8000000 in
theorem mX2_push (X : Ev) (ad : Nat → Nat) (be : Nat → Nat) (v_entries : (Nat → Int32)) (v_size : Int32) (u_cell : Int32) (u_kind : Int32) (u_p : Int32) (u_q : Int32) (u_r : Int32)  (o : (Nat → Int32) × Int32) (h : fX2_push v_entries v_size u_cell u_kind u_p u_q u_r = some o) : Ctr X yX2_push cX2_push 3 none 1 60 0 0 [.ref (ad 0), .ref (be 0)] [(ad 0, .inr (2, [.ref (ad 1), .int v_size])), (ad 1, .inl (eI X, 100, .inl v_entries)), (be 0, .inr (0, [.int u_cell, .int u_kind, .int u_p, .int u_q, .int u_r]))] (De none [(ad 0, .inr (2, [.ref (ad 1), .int (o.2)])), (ad 1, .inl (eI X, 100, .inl (o.1))), (be 0, .inr (0, [.int u_cell, .int u_kind, .int u_p, .int u_q, .int u_r]))]) := by
  refine Ctr.start (by decide) (Nat.le_of_ble_eq_true rfl) (fun k A ls C hq hin hW hl => ?_)
  replace C : Cx X k cX2_push 3 none RX2 A 1 60 0 0 := C
  replace hl : lv_has ls 3 [(0, .ref (ad 0)), (1, .ref (be 0))] := hl
  suffices hh : ∀ (H : Heap) (L : List Loc), Wd X k A [(ad 0, .inr (2, [.ref (ad 1), .int v_size])), (ad 1, .inl (eI X, 100, .inl v_entries)), (be 0, .inr (0, [.int u_cell, .int u_kind, .int u_p, .int u_q, .int u_r]))] H L → Wx X k 0 0 H L 0 ls [] from hh _ _ hW
  clear hW
  intro H L hW
  have K39 : ∀ (v_entries : (Nat → Int32)), ∀ (v_size : Int32), ∀ (H : Heap) (L : List Loc) (ls : Array Slot), Wd X k A [(ad 0, .inr (2, [.ref (ad 1), .int v_size])), (ad 1, .inl (eI X, 100, .inl v_entries)), (be 0, .inr (0, [.int u_cell, .int u_kind, .int u_p, .int u_q, .int u_r]))] H L → lv_has ls 3 [(0, .ref (ad 0)), (1, .ref (be 0))] → fX2_push_j39 u_cell u_kind u_p u_q u_r  v_entries v_size = some o → Wx X k 0 0 H L 39 ls [] := by
    intro v_entries v_size H L ls hW hl h
    unfold fX2_push_j39 at h
    refine r_aload_n C hl 0 dX2_push_39 rfl rfl ?_
    refine r_get C hW 0 rfl rfl iwX2 1 (by decide) w_fl_X2_15 rfl dX2_push_40 ?_
    refine r_iconst (v := 5) C dX2_push_43 (by decide) ?_
    refine r_imul C dX2_push_44 ?_
    refine r_istore_n (lv' := [(2, .int (v_size * (5 : Int32))), (0, .ref (ad 0)), (1, .ref (be 0))]) C hl dX2_push_45 rfl (by decide) rfl (fun ls hl => ?_)
    refine r_aload_n C hl 1 dX2_push_46 rfl rfl ?_
    refine r_get C hW 0 rfl rfl iwX2 0 (by decide) w_fl_X2_9 rfl dX2_push_47 ?_
    refine r_iload_n C hl 0 dX2_push_50 rfl rfl ?_
    refine r_aload_n C hl 2 dX2_push_51 rfl rfl ?_
    refine r_getN C hW 2 rfl rfl iwX0 0 (by decide) 14 rfl rfl dX2_push_52 ?_
    obtain ⟨w55, e55, g55, h⟩ := wr_some h
    refine r_iast (ws' := [(ad 0, .inr (2, [.ref (ad 1), .int v_size])), (ad 1, .inl (eI X, 100, .inl w55)), (be 0, .inr (0, [.int u_cell, .int u_kind, .int u_p, .int u_q, .int u_r]))]) C hW 1 rfl g55 e55 rfl dX2_push_55 (fun H L hW => ?_)
    refine r_aload_n C hl 1 dX2_push_56 rfl rfl ?_
    refine r_get C hW 0 rfl rfl iwX2 0 (by decide) w_fl_X2_9 rfl dX2_push_57 ?_
    refine r_iload_n C hl 0 dX2_push_60 rfl rfl ?_
    refine r_iconst (v := 1) C dX2_push_61 (by decide) ?_
    refine r_iadd C dX2_push_62 ?_
    refine r_aload_n C hl 2 dX2_push_63 rfl rfl ?_
    refine r_getN C hW 2 rfl rfl iwX0 1 (by decide) 17 rfl rfl dX2_push_64 ?_
    obtain ⟨w67, e67, g67, h⟩ := wr_some h
    refine r_iast (ws' := [(ad 0, .inr (2, [.ref (ad 1), .int v_size])), (ad 1, .inl (eI X, 100, .inl w67)), (be 0, .inr (0, [.int u_cell, .int u_kind, .int u_p, .int u_q, .int u_r]))]) C hW 1 rfl g67 e67 rfl dX2_push_67 (fun H L hW => ?_)
    refine r_aload_n C hl 1 dX2_push_68 rfl rfl ?_
    refine r_get C hW 0 rfl rfl iwX2 0 (by decide) w_fl_X2_9 rfl dX2_push_69 ?_
    refine r_iload_n C hl 0 dX2_push_72 rfl rfl ?_
    refine r_iconst (v := 2) C dX2_push_73 (by decide) ?_
    refine r_iadd C dX2_push_74 ?_
    refine r_aload_n C hl 2 dX2_push_75 rfl rfl ?_
    refine r_getN C hW 2 rfl rfl iwX0 2 (by decide) 19 rfl rfl dX2_push_76 ?_
    obtain ⟨w79, e79, g79, h⟩ := wr_some h
    refine r_iast (ws' := [(ad 0, .inr (2, [.ref (ad 1), .int v_size])), (ad 1, .inl (eI X, 100, .inl w79)), (be 0, .inr (0, [.int u_cell, .int u_kind, .int u_p, .int u_q, .int u_r]))]) C hW 1 rfl g79 e79 rfl dX2_push_79 (fun H L hW => ?_)
    refine r_aload_n C hl 1 dX2_push_80 rfl rfl ?_
    refine r_get C hW 0 rfl rfl iwX2 0 (by decide) w_fl_X2_9 rfl dX2_push_81 ?_
    refine r_iload_n C hl 0 dX2_push_84 rfl rfl ?_
    refine r_iconst (v := 3) C dX2_push_85 (by decide) ?_
    refine r_iadd C dX2_push_86 ?_
    refine r_aload_n C hl 2 dX2_push_87 rfl rfl ?_
    refine r_getN C hW 2 rfl rfl iwX0 3 (by decide) 21 rfl rfl dX2_push_88 ?_
    obtain ⟨w91, e91, g91, h⟩ := wr_some h
    refine r_iast (ws' := [(ad 0, .inr (2, [.ref (ad 1), .int v_size])), (ad 1, .inl (eI X, 100, .inl w91)), (be 0, .inr (0, [.int u_cell, .int u_kind, .int u_p, .int u_q, .int u_r]))]) C hW 1 rfl g91 e91 rfl dX2_push_91 (fun H L hW => ?_)
    refine r_aload_n C hl 1 dX2_push_92 rfl rfl ?_
    refine r_get C hW 0 rfl rfl iwX2 0 (by decide) w_fl_X2_9 rfl dX2_push_93 ?_
    refine r_iload_n C hl 0 dX2_push_96 rfl rfl ?_
    refine r_iconst (v := 4) C dX2_push_97 (by decide) ?_
    refine r_iadd C dX2_push_98 ?_
    refine r_aload_n C hl 2 dX2_push_99 rfl rfl ?_
    refine r_getN C hW 2 rfl rfl iwX0 4 (by decide) 23 rfl rfl dX2_push_100 ?_
    obtain ⟨w103, e103, g103, h⟩ := wr_some h
    refine r_iast (ws' := [(ad 0, .inr (2, [.ref (ad 1), .int v_size])), (ad 1, .inl (eI X, 100, .inl w103)), (be 0, .inr (0, [.int u_cell, .int u_kind, .int u_p, .int u_q, .int u_r]))]) C hW 1 rfl g103 e103 rfl dX2_push_103 (fun H L hW => ?_)
    refine r_aload_n C hl 1 dX2_push_104 rfl rfl ?_
    refine r_dup C rfl dX2_push_105 ?_
    refine r_get C hW 0 rfl rfl iwX2 1 (by decide) w_fl_X2_15 rfl dX2_push_106 ?_
    refine r_iconst (v := 1) C dX2_push_109 (by decide) ?_
    refine r_iadd C dX2_push_110 ?_
    refine r_put (ws' := [(ad 0, .inr (2, [.ref (ad 1), .int (v_size + (1 : Int32))])), (ad 1, .inl (eI X, 100, .inl w103)), (be 0, .inr (0, [.int u_cell, .int u_kind, .int u_p, .int u_q, .int u_r]))]) C hW 0 rfl rfl iwX2 tyX2_ok nmX2 1 (by decide) w_fl_X2_15 rfl (tyX2_ok 1 (by decide)) rfl rfl (Nat.le_of_ble_eq_true rfl) rfl dX2_push_111 (fun H L hW => ?_)
    exact r_vret C hq hW (by obtain rfl := Option.some.inj h; exact ⟨rfl, rfl⟩) dX2_push_114
  unfold fX2_push at h
  refine r_aload_n C hl 0 dX2_push_0 rfl rfl ?_
  refine r_get C hW 0 rfl rfl iwX2 1 (by decide) w_fl_X2_15 rfl dX2_push_1 ?_
  refine r_bipush (v := 20) C dX2_push_4 (by decide) ?_
  refine r_icmp_ne (tgt := 39) C dX2_push_6 (by decide) (fun c6 => ?_) (fun c6 => ?_)
  · replace h := iF c6 h
    exact K39 v_entries v_size H L ls hW hl h
  · replace h := iT c6 h
    refine r_aload_n C hl 0 dX2_push_9 rfl rfl ?_
    refine r_get C hW 0 rfl rfl iwX2 0 (by decide) w_fl_X2_9 rfl dX2_push_10 ?_
    refine r_iconst (v := 5) C dX2_push_13 (by decide) ?_
    refine r_aload_n C hl 0 dX2_push_14 rfl rfl ?_
    refine r_get C hW 0 rfl rfl iwX2 0 (by decide) w_fl_X2_9 rfl dX2_push_15 ?_
    refine r_iconst (v := 0) C dX2_push_18 (by decide) ?_
    refine r_aload_n C hl 0 dX2_push_19 rfl rfl ?_
    refine r_get C hW 0 rfl rfl iwX2 0 (by decide) w_fl_X2_9 rfl dX2_push_20 ?_
    refine r_ilen (v := (100 : Int32)) C hW 1 rfl rfl dX2_push_23 ?_
    refine r_iconst (v := 5) C dX2_push_24 (by decide) ?_
    refine r_isub C dX2_push_25 ?_
    show Wx X k _ _ H L 26 ls [.int (95 : Int32), .int (0 : Int32), .ref (ad 1), .int (5 : Int32), .ref (ad 1)]
    obtain ⟨w26, e26, ⟨ga26, gb26, gc26, gd26, ge26⟩, h⟩ := cpy_some h
    refine r_copy (ws' := [(ad 0, .inr (2, [.ref (ad 1), .int v_size])), (ad 1, .inl (eI X, 100, .inl w26)), (be 0, .inr (0, [.int u_cell, .int u_kind, .int u_p, .int u_q, .int u_r]))]) C hl hW w_ml_X2_19 1 1 rfl rfl ga26 gb26 gc26 gd26 ge26 e26 rfl (Nat.le_of_ble_eq_true rfl) (Nat.le_of_ble_eq_true rfl) dX2_push_26 (fun H L hW => ?_)
    refine r_aload_n C hl 0 dX2_push_29 rfl rfl ?_
    refine r_dup C rfl dX2_push_30 ?_
    refine r_get C hW 0 rfl rfl iwX2 1 (by decide) w_fl_X2_15 rfl dX2_push_31 ?_
    refine r_iconst (v := 1) C dX2_push_34 (by decide) ?_
    refine r_isub C dX2_push_35 ?_
    refine r_put (ws' := [(ad 0, .inr (2, [.ref (ad 1), .int (v_size - (1 : Int32))])), (ad 1, .inl (eI X, 100, .inl w26)), (be 0, .inr (0, [.int u_cell, .int u_kind, .int u_p, .int u_q, .int u_r]))]) C hW 0 rfl rfl iwX2 tyX2_ok nmX2 1 (by decide) w_fl_X2_15 rfl (tyX2_ok 1 (by decide)) rfl rfl (Nat.le_of_ble_eq_true rfl) rfl dX2_push_36 (fun H L hW => ?_)
    exact K39 w26 (v_size - (1 : Int32)) H L ls hW hl h
def fX2_popInto (v_entries : (Nat → Int32)) (v_size : Int32) (u_cell : Int32) (u_kind : Int32) (u_p : Int32) (u_q : Int32) (u_r : Int32) : Option (Int32 × Int32 × Int32 × Int32 × Int32 × Int32) :=
  if v_size = (0 : Int32) then
    some (v_size, u_cell, u_kind, u_p, u_q, u_r)
  else
    rd v_entries 100 ((v_size - (1 : Int32)) * (5 : Int32)) fun x31 =>
    rd v_entries 100 (((v_size - (1 : Int32)) * (5 : Int32)) + (1 : Int32)) fun x39 =>
    rd v_entries 100 (((v_size - (1 : Int32)) * (5 : Int32)) + (2 : Int32)) fun x47 =>
    rd v_entries 100 (((v_size - (1 : Int32)) * (5 : Int32)) + (3 : Int32)) fun x55 =>
    rd v_entries 100 (((v_size - (1 : Int32)) * (5 : Int32)) + (4 : Int32)) fun x63 =>
    bd5 (fX0_tell u_cell u_kind u_p u_q u_r x31 x39 x47 x55 x63) fun c64_cell c64_kind c64_p c64_q c64_r =>
    some (v_size - (1 : Int32), c64_cell, c64_kind, c64_p, c64_q, c64_r)
set_option maxRecDepth 100000 in
set_option maxHeartbeats 8000000 in
theorem mX2_popInto (X : Ev) (ad : Nat → Nat) (be : Nat → Nat) (v_entries : (Nat → Int32)) (v_size : Int32) (u_cell : Int32) (u_kind : Int32) (u_p : Int32) (u_q : Int32) (u_r : Int32)  (o : Int32 × Int32 × Int32 × Int32 × Int32 × Int32) (h : fX2_popInto v_entries v_size u_cell u_kind u_p u_q u_r = some o) : Ctr X yX2_popInto cX2_popInto 3 none 1 25 0 0 [.ref (ad 0), .ref (be 0)] [(ad 0, .inr (2, [.ref (ad 1), .int v_size])), (ad 1, .inl (eI X, 100, .inl v_entries)), (be 0, .inr (0, [.int u_cell, .int u_kind, .int u_p, .int u_q, .int u_r]))] (De none [(ad 0, .inr (2, [.ref (ad 1), .int (o.1)])), (ad 1, .inl (eI X, 100, .inl v_entries)), (be 0, .inr (0, [.int (o.2.1), .int (o.2.2.1), .int (o.2.2.2.1), .int (o.2.2.2.2.1), .int (o.2.2.2.2.2)]))]) := by
  refine Ctr.start (by decide) (Nat.le_of_ble_eq_true rfl) (fun k A ls C hq hin hW hl => ?_)
  replace C : Cx X k cX2_popInto 3 none RX2 A 1 25 0 0 := C
  replace hl : lv_has ls 3 [(0, .ref (ad 0)), (1, .ref (be 0))] := hl
  suffices hh : ∀ (H : Heap) (L : List Loc), Wd X k A [(ad 0, .inr (2, [.ref (ad 1), .int v_size])), (ad 1, .inl (eI X, 100, .inl v_entries)), (be 0, .inr (0, [.int u_cell, .int u_kind, .int u_p, .int u_q, .int u_r]))] H L → Wx X k 0 0 H L 0 ls [] from hh _ _ hW
  clear hW
  intro H L hW
  unfold fX2_popInto at h
  refine r_aload_n C hl 0 dX2_popInto_0 rfl rfl ?_
  refine r_get C hW 0 rfl rfl iwX2 1 (by decide) w_fl_X2_15 rfl dX2_popInto_1 ?_
  refine r_if_ne (tgt := 8) C dX2_popInto_4 (by decide) (fun c4 => ?_) (fun c4 => ?_)
  · replace h := iF c4 h
    refine r_aload_n C hl 0 dX2_popInto_8 rfl rfl ?_
    refine r_dup C rfl dX2_popInto_9 ?_
    refine r_get C hW 0 rfl rfl iwX2 1 (by decide) w_fl_X2_15 rfl dX2_popInto_10 ?_
    refine r_iconst (v := 1) C dX2_popInto_13 (by decide) ?_
    refine r_isub C dX2_popInto_14 ?_
    refine r_put (ws' := [(ad 0, .inr (2, [.ref (ad 1), .int (v_size - (1 : Int32))])), (ad 1, .inl (eI X, 100, .inl v_entries)), (be 0, .inr (0, [.int u_cell, .int u_kind, .int u_p, .int u_q, .int u_r]))]) C hW 0 rfl rfl iwX2 tyX2_ok nmX2 1 (by decide) w_fl_X2_15 rfl (tyX2_ok 1 (by decide)) rfl rfl (Nat.le_of_ble_eq_true rfl) rfl dX2_popInto_15 (fun H L hW => ?_)
    refine r_aload_n C hl 0 dX2_popInto_18 rfl rfl ?_
    refine r_get C hW 0 rfl rfl iwX2 1 (by decide) w_fl_X2_15 rfl dX2_popInto_19 ?_
    refine r_iconst (v := 5) C dX2_popInto_22 (by decide) ?_
    refine r_imul C dX2_popInto_23 ?_
    refine r_istore_n (lv' := [(2, .int ((v_size - (1 : Int32)) * (5 : Int32))), (0, .ref (ad 0)), (1, .ref (be 0))]) C hl dX2_popInto_24 rfl (by decide) rfl (fun ls hl => ?_)
    refine r_aload_n C hl 2 dX2_popInto_25 rfl rfl ?_
    refine r_aload_n C hl 1 dX2_popInto_26 rfl rfl ?_
    refine r_get C hW 0 rfl rfl iwX2 0 (by decide) w_fl_X2_9 rfl dX2_popInto_27 ?_
    refine r_iload_n C hl 0 dX2_popInto_30 rfl rfl ?_
    obtain ⟨x31, e31, g31, h⟩ := rd_some h
    refine r_iald C hW 1 rfl g31 e31 dX2_popInto_31 ?_
    refine r_aload_n C hl 1 dX2_popInto_32 rfl rfl ?_
    refine r_get C hW 0 rfl rfl iwX2 0 (by decide) w_fl_X2_9 rfl dX2_popInto_33 ?_
    refine r_iload_n C hl 0 dX2_popInto_36 rfl rfl ?_
    refine r_iconst (v := 1) C dX2_popInto_37 (by decide) ?_
    refine r_iadd C dX2_popInto_38 ?_
    obtain ⟨x39, e39, g39, h⟩ := rd_some h
    refine r_iald C hW 1 rfl g39 e39 dX2_popInto_39 ?_
    refine r_aload_n C hl 1 dX2_popInto_40 rfl rfl ?_
    refine r_get C hW 0 rfl rfl iwX2 0 (by decide) w_fl_X2_9 rfl dX2_popInto_41 ?_
    refine r_iload_n C hl 0 dX2_popInto_44 rfl rfl ?_
    refine r_iconst (v := 2) C dX2_popInto_45 (by decide) ?_
    refine r_iadd C dX2_popInto_46 ?_
    obtain ⟨x47, e47, g47, h⟩ := rd_some h
    refine r_iald C hW 1 rfl g47 e47 dX2_popInto_47 ?_
    refine r_aload_n C hl 1 dX2_popInto_48 rfl rfl ?_
    refine r_get C hW 0 rfl rfl iwX2 0 (by decide) w_fl_X2_9 rfl dX2_popInto_49 ?_
    refine r_iload_n C hl 0 dX2_popInto_52 rfl rfl ?_
    refine r_iconst (v := 3) C dX2_popInto_53 (by decide) ?_
    refine r_iadd C dX2_popInto_54 ?_
    obtain ⟨x55, e55, g55, h⟩ := rd_some h
    refine r_iald C hW 1 rfl g55 e55 dX2_popInto_55 ?_
    refine r_aload_n C hl 1 dX2_popInto_56 rfl rfl ?_
    refine r_get C hW 0 rfl rfl iwX2 0 (by decide) w_fl_X2_9 rfl dX2_popInto_57 ?_
    refine r_iload_n C hl 0 dX2_popInto_60 rfl rfl ?_
    refine r_iconst (v := 4) C dX2_popInto_61 (by decide) ?_
    refine r_iadd C dX2_popInto_62 ?_
    obtain ⟨x63, e63, g63, h⟩ := rd_some h
    refine r_iald C hW 1 rfl g63 e63 dX2_popInto_63 ?_
    obtain ⟨c64_cell, c64_kind, c64_p, c64_q, c64_r, h64, h⟩ := bd5_some h
    refine r_VN (wr := [(ad 0, .inr (2, [.ref (ad 1), .int (v_size - (1 : Int32))])), (ad 1, .inl (eI X, 100, .inl v_entries))]) (np := 5) C hl (mX0_tell X be  u_cell u_kind u_p u_q u_r x31 x39 x47 x55 x63 (c64_cell, c64_kind, c64_p, c64_q, c64_r) h64) hW [2] [0, 1] rfl rfl rfl rfl (by decide) 0 rfl rfl w_cd_X0_tell w_im_X0_tell w_sel_X0_tell w_in_HeightSheet_Change 47 rfl (by decide +kernel) rfl ⟨Nat.le_of_ble_eq_true rfl, Nat.le_of_ble_eq_true rfl⟩ ⟨Nat.zero_le _, Nat.zero_le _⟩ (Nat.le_of_ble_eq_true rfl) dX2_popInto_64 (fun rv w1 H L hp hW => ?_) rfl
    obtain ⟨rfl, rfl⟩ := hp
    replace hW : Wd X k A [(ad 0, .inr (2, [.ref (ad 1), .int (v_size - (1 : Int32))])), (ad 1, .inl (eI X, 100, .inl v_entries)), (be 0, .inr (0, [.int c64_cell, .int c64_kind, .int c64_p, .int c64_q, .int c64_r]))] H L := hW.sub [0, 1, 2] rfl rfl
    show Wx X k 0 0 H L 67 ls []
    exact r_vret C hq hW (by obtain rfl := Option.some.inj h; exact ⟨rfl, rfl⟩) dX2_popInto_67
  · replace h := iT c4 h
    exact r_vret C hq hW (by obtain rfl := Option.some.inj h; exact ⟨rfl, rfl⟩) dX2_popInto_7
def fX4_isNothing (v_lane : Int32) : Option (Int32) :=
  if v_lane = (-1 : Int32) then
    some (1 : Int32)
  else
    some (0 : Int32)
set_option maxRecDepth 100000 in
set_option maxHeartbeats 8000000 in
theorem mX4_isNothing (X : Ev) (ad : Nat → Nat) (v_items : (Nat → Int32)) (v_lane : Int32) (v_size : Int32)  (o : Int32) (h : fX4_isNothing v_lane = some o) : Ctr X yX4_isNothing cX4_isNothing 1 (some .boolean) 0 0 0 0 [.ref (ad 0)] [(ad 0, .inr (4, [.ref (ad 1), .int v_lane, .int v_size])), (ad 1, .inl (eI X, 40, .inl v_items))] (De (some (.int o)) [(ad 0, .inr (4, [.ref (ad 1), .int v_lane, .int v_size])), (ad 1, .inl (eI X, 40, .inl v_items))]) := by
  refine Ctr.start (by decide) (Nat.le_of_ble_eq_true rfl) (fun k A ls C hq hin hW hl => ?_)
  replace C : Cx X k cX4_isNothing 1 (some .boolean) RX4 A 0 0 0 0 := C
  replace hl : lv_has ls 1 [(0, .ref (ad 0))] := hl
  suffices hh : ∀ (H : Heap) (L : List Loc), Wd X k A [(ad 0, .inr (4, [.ref (ad 1), .int v_lane, .int v_size])), (ad 1, .inl (eI X, 40, .inl v_items))] H L → Wx X k 0 0 H L 0 ls [] from hh _ _ hW
  clear hW
  intro H L hW
  unfold fX4_isNothing at h
  refine r_aload_n C hl 0 dX4_isNothing_0 rfl rfl ?_
  refine r_get C hW 0 rfl rfl iwX4 1 (by decide) w_fl_X4_15 rfl dX4_isNothing_1 ?_
  refine r_iconst (v := -1) C dX4_isNothing_4 (by decide) ?_
  refine r_icmp_ne (tgt := 12) C dX4_isNothing_5 (by decide) (fun c5 => ?_) (fun c5 => ?_)
  · replace h := iF c5 h
    refine r_iconst (v := 0) C dX4_isNothing_12 (by decide) ?_
    exact r_zret C hq hW (by decide) (by obtain rfl := Option.some.inj h; exact ⟨rfl, rfl⟩) dX4_isNothing_13
  · replace h := iT c5 h
    refine r_iconst (v := 1) C dX4_isNothing_8 (by decide) ?_
    refine r_goto (tgt := 13) C dX4_isNothing_9 (by decide) ?_
    exact r_zret C hq hW (by decide) (by obtain rfl := Option.some.inj h; exact ⟨rfl, rfl⟩) dX4_isNothing_13
def fX4_renew (v_items : (Nat → Int32)) (v_lane : Int32) (v_size : Int32) (p1 : Int32) (p2 : Int32) : Option ((Nat → Int32) × Int32 × Int32) :=
  bd1 (fJ7_fill_53178 40 v_items (0 : Int32)) fun c5_a =>
  some (c5_a, p1, p2)
set_option maxRecDepth 100000 in
set_option maxHeartbeats 8000000 in
theorem mX4_renew (X : Ev) (ad : Nat → Nat) (v_items : (Nat → Int32)) (v_lane : Int32) (v_size : Int32) (p1 : Int32) (p2 : Int32) (o : (Nat → Int32) × Int32 × Int32) (h : fX4_renew v_items v_lane v_size p1 p2 = some o) : Ctr X yX4_renew cX4_renew 3 none 1 23 0 0 [.ref (ad 0), .int p1, .int p2] [(ad 0, .inr (4, [.ref (ad 1), .int v_lane, .int v_size])), (ad 1, .inl (eI X, 40, .inl v_items))] (De none [(ad 0, .inr (4, [.ref (ad 1), .int (o.2.1), .int (o.2.2)])), (ad 1, .inl (eI X, 40, .inl (o.1)))]) := by
  refine Ctr.start (by decide) (Nat.le_of_ble_eq_true rfl) (fun k A ls C hq hin hW hl => ?_)
  replace C : Cx X k cX4_renew 3 none RX4 A 1 23 0 0 := C
  replace hl : lv_has ls 3 [(0, .ref (ad 0)), (1, .int p1), (2, .int p2)] := hl
  suffices hh : ∀ (H : Heap) (L : List Loc), Wd X k A [(ad 0, .inr (4, [.ref (ad 1), .int v_lane, .int v_size])), (ad 1, .inl (eI X, 40, .inl v_items))] H L → Wx X k 0 0 H L 0 ls [] from hh _ _ hW
  clear hW
  intro H L hW
  unfold fX4_renew at h
  refine r_aload_n C hl 0 dX4_renew_0 rfl rfl ?_
  refine r_get C hW 0 rfl rfl iwX4 0 (by decide) w_fl_X4_9 rfl dX4_renew_1 ?_
  refine r_iconst (v := 0) C dX4_renew_4 (by decide) ?_
  obtain ⟨c5_a, h5, h⟩ := bd1_some h
  refine r_S (wr := [(ad 0, .inr (4, [.ref (ad 1), .int v_lane, .int v_size]))]) (np := 2) C hl (mJ7_fill_53178 X (fun i => ad (1 + i)) 40 v_items (0 : Int32) c5_a h5) hW [1] [0] rfl rfl rfl rfl (by decide) w_cd_J7_fill_53178 w_ml_X4_19 w_st_J7_fill_53178 w_in_java_util_Arrays (by decide +kernel) rfl ⟨Nat.le_of_ble_eq_true rfl, Nat.le_of_ble_eq_true rfl⟩ ⟨Nat.zero_le _, Nat.zero_le _⟩ (Nat.le_of_ble_eq_true rfl) dX4_renew_5 (fun rv w1 H L hp hW => ?_) rfl
  obtain ⟨rfl, rfl⟩ := hp
  replace hW : Wd X k A [(ad 0, .inr (4, [.ref (ad 1), .int v_lane, .int v_size])), (ad 1, .inl (eI X, 40, .inl c5_a))] H L := hW.sub [0, 1] rfl rfl
  show Wx X k 0 0 H L 8 ls []
  refine r_aload_n C hl 0 dX4_renew_8 rfl rfl ?_
  refine r_iload_n C hl 1 dX4_renew_9 rfl rfl ?_
  refine r_put (ws' := [(ad 0, .inr (4, [.ref (ad 1), .int p1, .int v_size])), (ad 1, .inl (eI X, 40, .inl c5_a))]) C hW 0 rfl rfl iwX4 tyX4_ok nmX4 1 (by decide) w_fl_X4_15 rfl (tyX4_ok 1 (by decide)) rfl rfl (Nat.le_of_ble_eq_true rfl) rfl dX4_renew_10 (fun H L hW => ?_)
  refine r_aload_n C hl 0 dX4_renew_13 rfl rfl ?_
  refine r_iload_n C hl 2 dX4_renew_14 rfl rfl ?_
  refine r_put (ws' := [(ad 0, .inr (4, [.ref (ad 1), .int p1, .int p2])), (ad 1, .inl (eI X, 40, .inl c5_a))]) C hW 0 rfl rfl iwX4 tyX4_ok nmX4 2 (by decide) w_fl_X4_25 rfl (tyX4_ok 2 (by decide)) rfl rfl (Nat.le_of_ble_eq_true rfl) rfl dX4_renew_15 (fun H L hW => ?_)
  exact r_vret C hq hW (by obtain rfl := Option.some.inj h; exact ⟨rfl, rfl⟩) dX4_renew_18
def fX4_faultAt (v_lane : Int32) (v_size : Int32) (p1 : Int32) (p2 : Int32) : Option (Int32) :=
  bd1 (fX4_isNothing v_lane) fun r1 =>
  if r1 = (0 : Int32) then
    if v_lane = p1 then
      if p2 < (0 : Int32) then
        some (2 : Int32)
      else
        if p2 < v_size then
          some (0 : Int32)
        else
          some (2 : Int32)
    else
      some (3 : Int32)
  else
    some (1 : Int32)
set_option maxRecDepth 100000 in
set_option maxHeartbeats 8000000 in
theorem mX4_faultAt (X : Ev) (ad : Nat → Nat) (v_items : (Nat → Int32)) (v_lane : Int32) (v_size : Int32) (p1 : Int32) (p2 : Int32) (o : Int32) (h : fX4_faultAt v_lane v_size p1 p2 = some o) : Ctr X yX4_faultAt cX4_faultAt 3 (some .int) 1 20 0 0 [.ref (ad 0), .int p1, .int p2] [(ad 0, .inr (4, [.ref (ad 1), .int v_lane, .int v_size])), (ad 1, .inl (eI X, 40, .inl v_items))] (De (some (.int o)) [(ad 0, .inr (4, [.ref (ad 1), .int v_lane, .int v_size])), (ad 1, .inl (eI X, 40, .inl v_items))]) := by
  refine Ctr.start (by decide) (Nat.le_of_ble_eq_true rfl) (fun k A ls C hq hin hW hl => ?_)
  replace C : Cx X k cX4_faultAt 3 (some .int) RX4 A 1 20 0 0 := C
  replace hl : lv_has ls 3 [(0, .ref (ad 0)), (1, .int p1), (2, .int p2)] := hl
  suffices hh : ∀ (H : Heap) (L : List Loc), Wd X k A [(ad 0, .inr (4, [.ref (ad 1), .int v_lane, .int v_size])), (ad 1, .inl (eI X, 40, .inl v_items))] H L → Wx X k 0 0 H L 0 ls [] from hh _ _ hW
  clear hW
  intro H L hW
  unfold fX4_faultAt at h
  refine r_aload_n C hl 0 dX4_faultAt_0 rfl rfl ?_
  obtain ⟨r1, h1, h⟩ := bd1_some h
  refine r_V (wr := []) (np := 0) C hl (mX4_isNothing X ad  v_items v_lane v_size  r1 h1) hW [0, 1] [] rfl rfl rfl rfl (by decide) 0 rfl rfl w_cd_X4_isNothing w_ml_X4_28 w_im_X4_isNothing w_sel_X4_isNothing w_in_HeightSheet_Row (by decide +kernel) rfl ⟨Nat.le_of_ble_eq_true rfl, Nat.le_of_ble_eq_true rfl⟩ ⟨Nat.zero_le _, Nat.zero_le _⟩ (Nat.le_of_ble_eq_true rfl) dX4_faultAt_1 (fun rv w1 H L hp hW => ?_) rfl
  obtain ⟨rfl, rfl⟩ := hp
  replace hW : Wd X k A [(ad 0, .inr (4, [.ref (ad 1), .int v_lane, .int v_size])), (ad 1, .inl (eI X, 40, .inl v_items))] H L := hW.sub [0, 1] rfl rfl
  show Wx X k 0 0 H L 4 ls [.int r1]
  refine r_if_eq (tgt := 9) C dX4_faultAt_4 (by decide) (fun c4 => ?_) (fun c4 => ?_)
  · replace h := iT c4 h
    refine r_aload_n C hl 0 dX4_faultAt_9 rfl rfl ?_
    refine r_get C hW 0 rfl rfl iwX4 1 (by decide) w_fl_X4_15 rfl dX4_faultAt_10 ?_
    refine r_iload_n C hl 1 dX4_faultAt_13 rfl rfl ?_
    refine r_icmp_eq (tgt := 19) C dX4_faultAt_14 (by decide) (fun c14 => ?_) (fun c14 => ?_)
    · replace h := iT c14 h
      refine r_iload_n C hl 2 dX4_faultAt_19 rfl rfl ?_
      refine r_if_lt (tgt := 31) C dX4_faultAt_20 (by decide) (fun c20 => ?_) (fun c20 => ?_)
      · replace h := iT c20 h
        refine r_iconst (v := 2) C dX4_faultAt_31 (by decide) ?_
        refine r_goto (tgt := 36) C dX4_faultAt_32 (by decide) ?_
        exact r_iret C hq hW (by obtain rfl := Option.some.inj h; exact ⟨rfl, rfl⟩) dX4_faultAt_36
      · replace h := iF c20 h
        refine r_iload_n C hl 2 dX4_faultAt_23 rfl rfl ?_
        refine r_aload_n C hl 0 dX4_faultAt_24 rfl rfl ?_
        refine r_get C hW 0 rfl rfl iwX4 2 (by decide) w_fl_X4_25 rfl dX4_faultAt_25 ?_
        refine r_icmp_lt (tgt := 35) C dX4_faultAt_28 (by decide) (fun c28 => ?_) (fun c28 => ?_)
        · replace h := iT c28 h
          refine r_iconst (v := 0) C dX4_faultAt_35 (by decide) ?_
          exact r_iret C hq hW (by obtain rfl := Option.some.inj h; exact ⟨rfl, rfl⟩) dX4_faultAt_36
        · replace h := iF c28 h
          refine r_iconst (v := 2) C dX4_faultAt_31 (by decide) ?_
          refine r_goto (tgt := 36) C dX4_faultAt_32 (by decide) ?_
          exact r_iret C hq hW (by obtain rfl := Option.some.inj h; exact ⟨rfl, rfl⟩) dX4_faultAt_36
    · replace h := iF c14 h
      refine r_iconst (v := 3) C dX4_faultAt_17 (by decide) ?_
      exact r_iret C hq hW (by obtain rfl := Option.some.inj h; exact ⟨rfl, rfl⟩) dX4_faultAt_18
  · replace h := iF c4 h
    refine r_iconst (v := 1) C dX4_faultAt_7 (by decide) ?_
    exact r_iret C hq hW (by obtain rfl := Option.some.inj h; exact ⟨rfl, rfl⟩) dX4_faultAt_8
def fX4_faultOfChange_b5 (v_lane : Int32) (v_size : Int32) (p1 : Int32) (p2 : Int32)   (self5 : Int32 → Int32 → Option (Int32)) (l3 : Int32) (l4 : Int32) : Option (Int32) :=
  if (5 : Int32) ≤ l4 then
    some l3
  else
    if l3 = (0 : Int32) then
      bd1 (fX4_faultAt v_lane v_size p1 (p2 + l4)) fun r21 =>
      self5 r21 (l4 + (1 : Int32))
    else
      some l3
def fX4_faultOfChange (v_lane : Int32) (v_size : Int32) (p1 : Int32) (p2 : Int32) : Option (Int32) :=
  lq2 (fX4_faultOfChange_b5 v_lane v_size p1 p2  ) fu (0 : Int32) (0 : Int32)
set_option maxRecDepth 100000 in
set_option maxHeartbeats 8000000 in
theorem mX4_faultOfChange (X : Ev) (ad : Nat → Nat) (v_items : (Nat → Int32)) (v_lane : Int32) (v_size : Int32) (p1 : Int32) (p2 : Int32) (o : Int32) (h : fX4_faultOfChange v_lane v_size p1 p2 = some o) : Ctr X yX4_faultOfChange cX4_faultOfChange 5 (some .int) 2 42 0 0 [.ref (ad 0), .int p1, .int p2] [(ad 0, .inr (4, [.ref (ad 1), .int v_lane, .int v_size])), (ad 1, .inl (eI X, 40, .inl v_items))] (De (some (.int o)) [(ad 0, .inr (4, [.ref (ad 1), .int v_lane, .int v_size])), (ad 1, .inl (eI X, 40, .inl v_items))]) := by
  refine Ctr.start (by decide) (Nat.le_of_ble_eq_true rfl) (fun k A ls C hq hin hW hl => ?_)
  replace C : Cx X k cX4_faultOfChange 5 (some .int) RX4 A 2 42 0 0 := C
  replace hl : lv_has ls 5 [(0, .ref (ad 0)), (1, .int p1), (2, .int p2)] := hl
  suffices hh : ∀ (H : Heap) (L : List Loc), Wd X k A [(ad 0, .inr (4, [.ref (ad 1), .int v_lane, .int v_size])), (ad 1, .inl (eI X, 40, .inl v_items))] H L → Wx X k 0 0 H L 0 ls [] from hh _ _ hW
  clear hW
  intro H L hW
  have K5 : ∀ (n5 : Nat), ∀ (l3 : Int32), ∀ (l4 : Int32), ∀ (H : Heap) (L : List Loc) (ls : Array Slot), Wd X k A [(ad 0, .inr (4, [.ref (ad 1), .int v_lane, .int v_size])), (ad 1, .inl (eI X, 40, .inl v_items))] H L → lv_has ls 5 [(0, .ref (ad 0)), (1, .int p1), (2, .int p2), (3, .int l3), (4, .int l4)] → lq2 (fX4_faultOfChange_b5 v_lane v_size p1 p2  ) n5 l3 l4 = some o → Wx X k 0 0 H L 5 ls [] := by
    intro n5
    induction n5 with
    | zero => intro l3 l4 H L ls hW hl h; exact lq2_0 h
    | succ n5 ih5 =>
      intro l3 l4 H L ls hW hl h
      rw [lq2_s] at h
      unfold fX4_faultOfChange_b5 at h
      refine r_iload C hl 4 dX4_faultOfChange_5 rfl ?_
      refine r_iconst (v := 5) C dX4_faultOfChange_7 (by decide) ?_
      refine r_icmp_ge (tgt := 31) C dX4_faultOfChange_8 (by decide) (fun c8 => ?_) (fun c8 => ?_)
      · replace h := iT c8 h
        refine r_iload_n C hl 3 dX4_faultOfChange_31 rfl rfl ?_
        exact r_iret C hq hW (by obtain rfl := Option.some.inj h; exact ⟨rfl, rfl⟩) dX4_faultOfChange_32
      · replace h := iF c8 h
        refine r_iload_n C hl 3 dX4_faultOfChange_11 rfl rfl ?_
        refine r_if_ne (tgt := 31) C dX4_faultOfChange_12 (by decide) (fun c12 => ?_) (fun c12 => ?_)
        · replace h := iF c12 h
          refine r_iload_n C hl 3 dX4_faultOfChange_31 rfl rfl ?_
          exact r_iret C hq hW (by obtain rfl := Option.some.inj h; exact ⟨rfl, rfl⟩) dX4_faultOfChange_32
        · replace h := iT c12 h
          refine r_aload_n C hl 0 dX4_faultOfChange_15 rfl rfl ?_
          refine r_iload_n C hl 1 dX4_faultOfChange_16 rfl rfl ?_
          refine r_iload_n C hl 2 dX4_faultOfChange_17 rfl rfl ?_
          refine r_iload C hl 4 dX4_faultOfChange_18 rfl ?_
          refine r_iadd C dX4_faultOfChange_20 ?_
          obtain ⟨r21, h21, h⟩ := bd1_some h
          refine r_V (wr := []) (np := 2) C hl (mX4_faultAt X ad  v_items v_lane v_size p1 (p2 + l4) r21 h21) hW [0, 1] [] rfl rfl rfl rfl (by decide) 0 rfl rfl w_cd_X4_faultAt w_ml_X4_32 w_im_X4_faultAt w_sel_X4_faultAt w_in_HeightSheet_Row (by decide +kernel) rfl ⟨Nat.le_of_ble_eq_true rfl, Nat.le_of_ble_eq_true rfl⟩ ⟨Nat.zero_le _, Nat.zero_le _⟩ (Nat.le_of_ble_eq_true rfl) dX4_faultOfChange_21 (fun rv w1 H L hp hW => ?_) rfl
          obtain ⟨rfl, rfl⟩ := hp
          replace hW : Wd X k A [(ad 0, .inr (4, [.ref (ad 1), .int v_lane, .int v_size])), (ad 1, .inl (eI X, 40, .inl v_items))] H L := hW.sub [0, 1] rfl rfl
          show Wx X k 0 0 H L 24 ls [.int r21]
          refine r_istore_n (lv' := [(3, .int r21), (0, .ref (ad 0)), (1, .int p1), (2, .int p2), (4, .int l4)]) C hl dX4_faultOfChange_24 rfl (by decide) rfl (fun ls hl => ?_)
          refine r_iinc (j := 4) (v := l4 + (1 : Int32)) (lv' := [(4, .int (l4 + (1 : Int32))), (3, .int r21), (0, .ref (ad 0)), (1, .int p1), (2, .int p2)]) C hl dX4_faultOfChange_25 rfl rfl (by decide) rfl (fun ls hl => ?_)
          refine r_goto (tgt := 5) C dX4_faultOfChange_28 (by decide) ?_
          exact ih5 r21 (l4 + (1 : Int32)) H L ls hW (lv_sub hl [2, 3, 4, 1, 0] rfl) h
  unfold fX4_faultOfChange at h
  refine r_iconst (v := 0) C dX4_faultOfChange_0 (by decide) ?_
  refine r_istore_n (lv' := [(3, .int (0 : Int32)), (0, .ref (ad 0)), (1, .int p1), (2, .int p2)]) C hl dX4_faultOfChange_1 rfl (by decide) rfl (fun ls hl => ?_)
  refine r_iconst (v := 0) C dX4_faultOfChange_2 (by decide) ?_
  refine r_istore (lv' := [(4, .int (0 : Int32)), (3, .int (0 : Int32)), (0, .ref (ad 0)), (1, .int p1), (2, .int p2)]) C hl dX4_faultOfChange_3 (by decide) rfl (fun ls hl => ?_)
  exact K5  fu (0 : Int32) (0 : Int32) H L ls hW (lv_sub hl [2, 3, 4, 1, 0] rfl) h
def fX4_askFrom (v_items : (Nat → Int32)) (u_cell : Int32) (u_kind : Int32) (u_p : Int32) (u_q : Int32) (u_r : Int32) (p1 : Int32) : Option (Int32 × Int32 × Int32 × Int32 × Int32) :=
  rd v_items 40 p1 fun x6 =>
  rd v_items 40 (p1 + (1 : Int32)) fun x14 =>
  rd v_items 40 (p1 + (2 : Int32)) fun x22 =>
  rd v_items 40 (p1 + (3 : Int32)) fun x30 =>
  rd v_items 40 (p1 + (4 : Int32)) fun x38 =>
  bd5 (fX0_tell u_cell u_kind u_p u_q u_r x6 x14 x22 x30 x38) fun c39_cell c39_kind c39_p c39_q c39_r =>
  some (c39_cell, c39_kind, c39_p, c39_q, c39_r)
set_option maxRecDepth 100000 in
set_option maxHeartbeats 8000000 in
theorem mX4_askFrom (X : Ev) (ad : Nat → Nat) (be : Nat → Nat) (v_items : (Nat → Int32)) (v_lane : Int32) (v_size : Int32) (u_cell : Int32) (u_kind : Int32) (u_p : Int32) (u_q : Int32) (u_r : Int32) (p1 : Int32) (o : Int32 × Int32 × Int32 × Int32 × Int32) (h : fX4_askFrom v_items u_cell u_kind u_p u_q u_r p1 = some o) : Ctr X yX4_askFrom cX4_askFrom 3 none 1 25 0 0 [.ref (ad 0), .int p1, .ref (be 0)] [(ad 0, .inr (4, [.ref (ad 1), .int v_lane, .int v_size])), (ad 1, .inl (eI X, 40, .inl v_items)), (be 0, .inr (0, [.int u_cell, .int u_kind, .int u_p, .int u_q, .int u_r]))] (De none [(ad 0, .inr (4, [.ref (ad 1), .int v_lane, .int v_size])), (ad 1, .inl (eI X, 40, .inl v_items)), (be 0, .inr (0, [.int (o.1), .int (o.2.1), .int (o.2.2.1), .int (o.2.2.2.1), .int (o.2.2.2.2)]))]) := by
  refine Ctr.start (by decide) (Nat.le_of_ble_eq_true rfl) (fun k A ls C hq hin hW hl => ?_)
  replace C : Cx X k cX4_askFrom 3 none RX4 A 1 25 0 0 := C
  replace hl : lv_has ls 3 [(0, .ref (ad 0)), (1, .int p1), (2, .ref (be 0))] := hl
  suffices hh : ∀ (H : Heap) (L : List Loc), Wd X k A [(ad 0, .inr (4, [.ref (ad 1), .int v_lane, .int v_size])), (ad 1, .inl (eI X, 40, .inl v_items)), (be 0, .inr (0, [.int u_cell, .int u_kind, .int u_p, .int u_q, .int u_r]))] H L → Wx X k 0 0 H L 0 ls [] from hh _ _ hW
  clear hW
  intro H L hW
  unfold fX4_askFrom at h
  refine r_aload_n C hl 2 dX4_askFrom_0 rfl rfl ?_
  refine r_aload_n C hl 0 dX4_askFrom_1 rfl rfl ?_
  refine r_get C hW 0 rfl rfl iwX4 0 (by decide) w_fl_X4_9 rfl dX4_askFrom_2 ?_
  refine r_iload_n C hl 1 dX4_askFrom_5 rfl rfl ?_
  obtain ⟨x6, e6, g6, h⟩ := rd_some h
  refine r_iald C hW 1 rfl g6 e6 dX4_askFrom_6 ?_
  refine r_aload_n C hl 0 dX4_askFrom_7 rfl rfl ?_
  refine r_get C hW 0 rfl rfl iwX4 0 (by decide) w_fl_X4_9 rfl dX4_askFrom_8 ?_
  refine r_iload_n C hl 1 dX4_askFrom_11 rfl rfl ?_
  refine r_iconst (v := 1) C dX4_askFrom_12 (by decide) ?_
  refine r_iadd C dX4_askFrom_13 ?_
  obtain ⟨x14, e14, g14, h⟩ := rd_some h
  refine r_iald C hW 1 rfl g14 e14 dX4_askFrom_14 ?_
  refine r_aload_n C hl 0 dX4_askFrom_15 rfl rfl ?_
  refine r_get C hW 0 rfl rfl iwX4 0 (by decide) w_fl_X4_9 rfl dX4_askFrom_16 ?_
  refine r_iload_n C hl 1 dX4_askFrom_19 rfl rfl ?_
  refine r_iconst (v := 2) C dX4_askFrom_20 (by decide) ?_
  refine r_iadd C dX4_askFrom_21 ?_
  obtain ⟨x22, e22, g22, h⟩ := rd_some h
  refine r_iald C hW 1 rfl g22 e22 dX4_askFrom_22 ?_
  refine r_aload_n C hl 0 dX4_askFrom_23 rfl rfl ?_
  refine r_get C hW 0 rfl rfl iwX4 0 (by decide) w_fl_X4_9 rfl dX4_askFrom_24 ?_
  refine r_iload_n C hl 1 dX4_askFrom_27 rfl rfl ?_
  refine r_iconst (v := 3) C dX4_askFrom_28 (by decide) ?_
  refine r_iadd C dX4_askFrom_29 ?_
  obtain ⟨x30, e30, g30, h⟩ := rd_some h
  refine r_iald C hW 1 rfl g30 e30 dX4_askFrom_30 ?_
  refine r_aload_n C hl 0 dX4_askFrom_31 rfl rfl ?_
  refine r_get C hW 0 rfl rfl iwX4 0 (by decide) w_fl_X4_9 rfl dX4_askFrom_32 ?_
  refine r_iload_n C hl 1 dX4_askFrom_35 rfl rfl ?_
  refine r_iconst (v := 4) C dX4_askFrom_36 (by decide) ?_
  refine r_iadd C dX4_askFrom_37 ?_
  obtain ⟨x38, e38, g38, h⟩ := rd_some h
  refine r_iald C hW 1 rfl g38 e38 dX4_askFrom_38 ?_
  obtain ⟨c39_cell, c39_kind, c39_p, c39_q, c39_r, h39, h⟩ := bd5_some h
  refine r_VN (wr := [(ad 0, .inr (4, [.ref (ad 1), .int v_lane, .int v_size])), (ad 1, .inl (eI X, 40, .inl v_items))]) (np := 5) C hl (mX0_tell X be  u_cell u_kind u_p u_q u_r x6 x14 x22 x30 x38 (c39_cell, c39_kind, c39_p, c39_q, c39_r) h39) hW [2] [0, 1] rfl rfl rfl rfl (by decide) 0 rfl rfl w_cd_X0_tell w_im_X0_tell w_sel_X0_tell w_in_HeightSheet_Change 53 rfl (by decide +kernel) rfl ⟨Nat.le_of_ble_eq_true rfl, Nat.le_of_ble_eq_true rfl⟩ ⟨Nat.zero_le _, Nat.zero_le _⟩ (Nat.le_of_ble_eq_true rfl) dX4_askFrom_39 (fun rv w1 H L hp hW => ?_) rfl
  obtain ⟨rfl, rfl⟩ := hp
  replace hW : Wd X k A [(ad 0, .inr (4, [.ref (ad 1), .int v_lane, .int v_size])), (ad 1, .inl (eI X, 40, .inl v_items)), (be 0, .inr (0, [.int c39_cell, .int c39_kind, .int c39_p, .int c39_q, .int c39_r]))] H L := hW.sub [0, 1, 2] rfl rfl
  show Wx X k 0 0 H L 42 ls []
  exact r_vret C hq hW (by obtain rfl := Option.some.inj h; exact ⟨rfl, rfl⟩) dX4_askFrom_42
def fX4_set (v_items : (Nat → Int32)) (v_lane : Int32) (p1 : Int32) (p2 : Int32) : Option ((Nat → Int32)) :=
  if v_lane = (0 : Int32) then
    wr v_items 40 p1 (p2.toInt8.toInt32) fun w14 =>
    some w14
  else
    if v_lane = (1 : Int32) then
      wr v_items 40 p1 (p2.toInt16.toInt32) fun w33 =>
      some w33
    else
      wr v_items 40 p1 p2 fun w43 =>
      some w43
set_option maxRecDepth 100000 in
set_option maxHeartbeats 8000000 in
theorem mX4_set (X : Ev) (ad : Nat → Nat) (v_items : (Nat → Int32)) (v_lane : Int32) (v_size : Int32) (p1 : Int32) (p2 : Int32) (o : (Nat → Int32)) (h : fX4_set v_items v_lane p1 p2 = some o) : Ctr X yX4_set cX4_set 3 none 0 0 0 0 [.ref (ad 0), .int p1, .int p2] [(ad 0, .inr (4, [.ref (ad 1), .int v_lane, .int v_size])), (ad 1, .inl (eI X, 40, .inl v_items))] (De none [(ad 0, .inr (4, [.ref (ad 1), .int v_lane, .int v_size])), (ad 1, .inl (eI X, 40, .inl o))]) := by
  refine Ctr.start (by decide) (Nat.le_of_ble_eq_true rfl) (fun k A ls C hq hin hW hl => ?_)
  replace C : Cx X k cX4_set 3 none RX4 A 0 0 0 0 := C
  replace hl : lv_has ls 3 [(0, .ref (ad 0)), (1, .int p1), (2, .int p2)] := hl
  suffices hh : ∀ (H : Heap) (L : List Loc), Wd X k A [(ad 0, .inr (4, [.ref (ad 1), .int v_lane, .int v_size])), (ad 1, .inl (eI X, 40, .inl v_items))] H L → Wx X k 0 0 H L 0 ls [] from hh _ _ hW
  clear hW
  intro H L hW
  unfold fX4_set at h
  refine r_aload_n C hl 0 dX4_set_0 rfl rfl ?_
  refine r_get C hW 0 rfl rfl iwX4 1 (by decide) w_fl_X4_15 rfl dX4_set_1 ?_
  refine r_if_ne (tgt := 18) C dX4_set_4 (by decide) (fun c4 => ?_) (fun c4 => ?_)
  · replace h := iF c4 h
    refine r_aload_n C hl 0 dX4_set_18 rfl rfl ?_
    refine r_get C hW 0 rfl rfl iwX4 1 (by decide) w_fl_X4_15 rfl dX4_set_19 ?_
    refine r_iconst (v := 1) C dX4_set_22 (by decide) ?_
    refine r_icmp_ne (tgt := 37) C dX4_set_23 (by decide) (fun c23 => ?_) (fun c23 => ?_)
    · replace h := iF c23 h
      refine r_aload_n C hl 0 dX4_set_37 rfl rfl ?_
      refine r_get C hW 0 rfl rfl iwX4 0 (by decide) w_fl_X4_9 rfl dX4_set_38 ?_
      refine r_iload_n C hl 1 dX4_set_41 rfl rfl ?_
      refine r_iload_n C hl 2 dX4_set_42 rfl rfl ?_
      obtain ⟨w43, e43, g43, h⟩ := wr_some h
      refine r_iast (ws' := [(ad 0, .inr (4, [.ref (ad 1), .int v_lane, .int v_size])), (ad 1, .inl (eI X, 40, .inl w43))]) C hW 1 rfl g43 e43 rfl dX4_set_43 (fun H L hW => ?_)
      exact r_vret C hq hW (by obtain rfl := Option.some.inj h; exact ⟨rfl, rfl⟩) dX4_set_44
    · replace h := iT c23 h
      refine r_aload_n C hl 0 dX4_set_26 rfl rfl ?_
      refine r_get C hW 0 rfl rfl iwX4 0 (by decide) w_fl_X4_9 rfl dX4_set_27 ?_
      refine r_iload_n C hl 1 dX4_set_30 rfl rfl ?_
      refine r_iload_n C hl 2 dX4_set_31 rfl rfl ?_
      refine r_i2s C dX4_set_32 ?_
      obtain ⟨w33, e33, g33, h⟩ := wr_some h
      refine r_iast (ws' := [(ad 0, .inr (4, [.ref (ad 1), .int v_lane, .int v_size])), (ad 1, .inl (eI X, 40, .inl w33))]) C hW 1 rfl g33 e33 rfl dX4_set_33 (fun H L hW => ?_)
      refine r_goto (tgt := 44) C dX4_set_34 (by decide) ?_
      exact r_vret C hq hW (by obtain rfl := Option.some.inj h; exact ⟨rfl, rfl⟩) dX4_set_44
  · replace h := iT c4 h
    refine r_aload_n C hl 0 dX4_set_7 rfl rfl ?_
    refine r_get C hW 0 rfl rfl iwX4 0 (by decide) w_fl_X4_9 rfl dX4_set_8 ?_
    refine r_iload_n C hl 1 dX4_set_11 rfl rfl ?_
    refine r_iload_n C hl 2 dX4_set_12 rfl rfl ?_
    refine r_i2b C dX4_set_13 ?_
    obtain ⟨w14, e14, g14, h⟩ := wr_some h
    refine r_iast (ws' := [(ad 0, .inr (4, [.ref (ad 1), .int v_lane, .int v_size])), (ad 1, .inl (eI X, 40, .inl w14))]) C hW 1 rfl g14 e14 rfl dX4_set_14 (fun H L hW => ?_)
    refine r_goto (tgt := 44) C dX4_set_15 (by decide) ?_
    exact r_vret C hq hW (by obtain rfl := Option.some.inj h; exact ⟨rfl, rfl⟩) dX4_set_44
