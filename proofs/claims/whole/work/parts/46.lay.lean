/-! STEPS: lay -/
theorem b_t8 (x : Int32) {i : Nat} (hi : i < 32) : bt (x.toInt8.toInt32) i = if i < 8 then bt x i else bt x 7 := by
  unfold bt
  rw [Int8.toBitVec_toInt32, Int32.toBitVec_toInt8, BitVec.getLsbD_signExtend]
  by_cases e : i < 8
  · rw [if_pos e, if_pos e, BitVec.getLsbD_signExtend, decide_eq_true e, decide_eq_true hi, if_pos hi]; rfl
  · rw [if_neg e, if_neg e, BitVec.msb_eq_getLsbD_last, BitVec.getLsbD_signExtend, decide_eq_true hi, if_pos (by omega), decide_eq_true (by omega)]; rfl
theorem b_t16 (x : Int32) {i : Nat} (hi : i < 32) : bt (x.toInt16.toInt32) i = if i < 16 then bt x i else bt x 15 := by
  unfold bt
  rw [Int16.toBitVec_toInt32, Int32.toBitVec_toInt16, BitVec.getLsbD_signExtend]
  by_cases e : i < 16
  · rw [if_pos e, if_pos e, BitVec.getLsbD_signExtend, decide_eq_true e, decide_eq_true hi, if_pos hi]; rfl
  · rw [if_neg e, if_neg e, BitVec.msb_eq_getLsbD_last, BitVec.getLsbD_signExtend, decide_eq_true hi, if_pos (by omega), decide_eq_true (by omega)]; rfl
theorem nar8 (x : Int32) : (x <<< ((24 : Int32) &&& 31)) >>> ((24 : Int32) &&& 31) = x.toInt8.toInt32 := by
  refine b_ext (fun i hi => ?_)
  rw [b_t8 x hi, show (x <<< ((24 : Int32) &&& 31)) >>> ((24 : Int32) &&& 31) = (x <<< (nI 24 &&& 31)) >>> (nI 24 &&& 31) from rfl, b_sshr 24 (by omega) _ hi]
  by_cases e : i < 8
  · rw [if_pos (by omega), if_pos e, b_shl 24 (by omega) x (by omega), decide_eq_true (by omega), Nat.add_sub_cancel_left]; rfl
  · rw [if_neg (by omega), if_neg e, b_shl 24 (by omega) x (by omega), decide_eq_true (by omega)]; rfl
theorem nar16 (x : Int32) : (x <<< ((16 : Int32) &&& 31)) >>> ((16 : Int32) &&& 31) = x.toInt16.toInt32 := by
  refine b_ext (fun i hi => ?_)
  rw [b_t16 x hi, show (x <<< ((16 : Int32) &&& 31)) >>> ((16 : Int32) &&& 31) = (x <<< (nI 16 &&& 31)) >>> (nI 16 &&& 31) from rfl, b_sshr 16 (by omega) _ hi]
  by_cases e : i < 16
  · rw [if_pos (by omega), if_pos e, b_shl 16 (by omega) x (by omega), decide_eq_true (by omega), Nat.add_sub_cancel_left]; rfl
  · rw [if_neg (by omega), if_neg e, b_shl 16 (by omega) x (by omega), decide_eq_true (by omega)]; rfl
theorem nI_ne_m1 {k : Nat} (hk : k < 2 ^ 31) : ¬ nI k = (-1 : Int32) := fun q => by
  have h9 := nI_toInt (n := k) hk
  rw [q] at h9
  have h8 : ((-1 : Int32)).toInt = -1 := rfl
  omega
/-- what the class says of an item of a row, and the reference -/
theorem lay_in (p : Int32) (Z : Nat) (hZ : Z ≤ 40) : ((p < 0 ∨ (¬ p < 0 ∧ ¬ p < nI Z)) ∧ fX8_in p.toInt64 0 (nI Z - 1).toInt64 = some 0) ∨ ((¬ p < 0 ∧ p < nI Z) ∧ fX8_in p.toInt64 0 (nI Z - 1).toInt64 = some 1 ∧ ∃ v, v < Z ∧ p = nI v) := by
  have hz : (nI Z - 1).toInt = (Z : Int) - 1 := pk_sub_toInt (a := Z) (b := 1) (by omega) (by omega)
  have hi : fX8_in p.toInt64 0 (nI Z - 1).toInt64 = some (if 0 ≤ p.toInt ∧ p.toInt ≤ (Z : Int) - 1 then 1 else 0) := by rw [f_in, to64, to64, hz]; rfl
  have h0 : (0 : Int32).toInt = 0 := rfl
  have h2 := nI_toInt (n := Z) (by omega)
  rw [hi]
  by_cases a : p.toInt < 0
  · exact Or.inl ⟨Or.inl (Int32.lt_iff_toInt_lt.mpr (by omega)), by rw [if_neg (by omega)]⟩
  · have na : ¬ p < 0 := fun z => by have := Int32.lt_iff_toInt_lt.mp z; omega
    by_cases b : p.toInt < (Z : Int)
    · exact Or.inr ⟨⟨na, Int32.lt_iff_toInt_lt.mpr (by omega)⟩, by rw [if_pos (by omega)], p.toInt.toNat, by omega, Int32.toInt_inj.mp (by rw [nI_toInt (by omega)]; omega)⟩
    · exact Or.inl ⟨Or.inr ⟨na, fun z => by have := Int32.lt_iff_toInt_lt.mp z; omega⟩, by rw [if_neg (by omega)]⟩
/-- one row: fault, item -/
theorem lay_row {i : Nat} {it la le mi : Nat → Int32} {l z : Int32} (hi : i < 4) (h : RW i it l z la le mi) (q r : Int32) (p : Int32) (hp : p = nI i) :
    (∃ x, fX4_faultAt l z l q = some x ∧ x ≠ 0 ∧ (rd la 4 p fun x19 => if x19 = (-4 : Int32) then some ((-11 : Int32), mi) else rd le 4 p fun x36 => bd1 (fX8_in (q.toInt64) (0 : Int64) ((x36 - (1 : Int32)).toInt64)) fun r40 => if r40 = (0 : Int32) then some ((-12 : Int32), mi) else rd la 4 p fun x64 => if x64 = (0 : Int32) then fX8_lay_j99 la le p q r mi (((40 : Int32) * p) + q) ((r <<< ((24 : Int32) &&& 31)) >>> ((24 : Int32) &&& 31)) else rd la 4 p fun x83 => if x83 = (1 : Int32) then fX8_lay_j99 la le p q r mi (((40 : Int32) * p) + q) ((r <<< ((16 : Int32) &&& 31)) >>> ((16 : Int32) &&& 31)) else fX8_lay_j99 la le p q r mi (((40 : Int32) * p) + q) r) = some (-10 - x, mi)) ∨
    (∃ it' mi', fX4_faultAt l z l q = some 0 ∧ fX4_set it l q r = some it' ∧ (rd la 4 p fun x19 => if x19 = (-4 : Int32) then some ((-11 : Int32), mi) else rd le 4 p fun x36 => bd1 (fX8_in (q.toInt64) (0 : Int64) ((x36 - (1 : Int32)).toInt64)) fun r40 => if r40 = (0 : Int32) then some ((-12 : Int32), mi) else rd la 4 p fun x64 => if x64 = (0 : Int32) then fX8_lay_j99 la le p q r mi (((40 : Int32) * p) + q) ((r <<< ((24 : Int32) &&& 31)) >>> ((24 : Int32) &&& 31)) else rd la 4 p fun x83 => if x83 = (1 : Int32) then fX8_lay_j99 la le p q r mi (((40 : Int32) * p) + q) ((r <<< ((16 : Int32) &&& 31)) >>> ((16 : Int32) &&& 31)) else fX8_lay_j99 la le p q r mi (((40 : Int32) * p) + q) r) = some (1, mi') ∧ RW i it' l z la le mi' ∧ ∀ k, (k < 40 * i ∨ 40 * i + 40 ≤ k) → mi' k = mi k) := by
  have h' := h
  obtain ⟨hl, hz, ⟨Z, hZ, rfl⟩, hk⟩ := h'
  subst hp
  unfold fX4_faultAt fX4_isNothing fX8_lay_j99
  rw [rdN hi (by omega), rdN hi (by omega), rdN hi (by omega), rdN hi (by omega), ← hz]
  rcases hl with ⟨a1, a2⟩ | ⟨L, hL, rfl, a2⟩
  · rw [a1, a2, if_pos (show (-1 : Int32) = -1 from rfl), bd1_e, if_neg (show ¬ (1 : Int32) = 0 by decide), if_pos (show (-4 : Int32) = -4 from rfl)]
    exact Or.inl ⟨1, rfl, by decide, rfl⟩
  · rw [a2, if_neg (nI_ne_m1 (by omega)), bd1_e, if_pos (show (0 : Int32) = 0 from rfl), if_pos (show nI L = nI L from rfl), if_neg (nI_ne_m4 (by omega))]
    rcases lay_in q Z hZ with ⟨b1, b2⟩ | ⟨⟨b1, b3⟩, b2, v, hv, rfl⟩
    · rw [b2, bd1_e, if_pos (show (0 : Int32) = 0 from rfl)]
      refine Or.inl ⟨2, ?_, by decide, rfl⟩
      rcases b1 with b1 | ⟨b1, b3⟩
      · rw [if_pos b1]
      · rw [if_neg b1, if_neg b3]
    · rw [b2, bd1_e, if_neg (show ¬ (1 : Int32) = 0 by decide), if_neg b1, if_pos b3, show (40 : Int32) * nI i = nI (40 * i) from pk_mul 40 i, nI_add, nar8, nar16]
      have key : ∀ y : Int32, RW i (upd it v y) (nI L) (nI Z) la le (upd mi (40 * i + v) y) ∧ ∀ k, (k < 40 * i ∨ 40 * i + 40 ≤ k) → upd mi (40 * i + v) y k = mi k := fun y => ⟨⟨Or.inr ⟨L, hL, rfl, a2⟩, hz, ⟨Z, hZ, rfl⟩, fun k h9 => by
        by_cases e : k = v
        · rw [e, us, us]
        · rw [un _ _ e, un _ _ (by omega)]; exact hk k h9⟩, fun k h9 => un _ _ (by omega)⟩
      have wv : ∀ y : Int32, (wr it 40 (nI v) y fun w => some w) = some (upd it v y) := fun y => wrN (by omega) (by omega)
      have wm : ∀ y : Int32, (wr mi 160 (nI (40 * i + v)) y fun w => some ((1 : Int32), w)) = some (1, upd mi (40 * i + v) y) := fun y => wrN (by omega) (by omega)
      unfold fX4_set
      rw [wv, wv, wv, wm, wm, wm]
      by_cases e0 : nI L = 0
      · rw [if_pos e0, if_pos e0]; exact Or.inr ⟨_, _, rfl, rfl, rfl, key _⟩
      · rw [if_neg e0, if_neg e0]
        by_cases e1 : nI L = 1
        · rw [if_pos e1, if_pos e1]; exact Or.inr ⟨_, _, rfl, rfl, rfl, key _⟩
        · rw [if_neg e1, if_neg e1]; exact Or.inr ⟨_, _, rfl, rfl, rfl, key _⟩
theorem RW_keep2 {i j : Nat} {it la le mi mi' : Nat → Int32} {l z : Int32} (h : RW j it l z la le mi) (hij : j ≠ i) (hk : ∀ k, (k < 40 * i ∨ 40 * i + 40 ≤ k) → mi' k = mi k) : RW j it l z la le mi' := by
  obtain ⟨a, b, c, d⟩ := h
  exact ⟨a, b, c, fun k h9 => by rw [hk _ (by omega)]; exact d k h9⟩
theorem q_lay {t0 t1 t2 t3 la le mi : Nat → Int32} {l0 z0 l1 z1 l2 z2 l3 z3 : Int32} (p q r : Int32) (h : RW4 t0 l0 z0 t1 l1 z1 t2 l2 z2 t3 l3 z3 la le mi) : ∃ o t0' t1' t2' t3' mi', fX7_lay t0 l0 z0 t1 l1 z1 t2 l2 z2 t3 l3 z3 p q r = some (o, t0', t1', t2', t3') ∧ fX8_lay la le mi p q r = some (o, mi') ∧ RW4 t0' l0 z0 t1' l1 z1 t2' l2 z2 t3' l3 z3 la le mi' := by
  have h' := h
  obtain ⟨w0, w1, w2, w3⟩ := h'
  unfold fX7_lay fX8_lay
  rcases lt_cs p 3 (by omega) 3 4 rfl rfl rfl with ⟨h1, h2⟩ | ⟨⟨h1, h3, h4⟩, h2, i, hi, rfl⟩
  · rw [show fX8_in p.toInt64 0 3 = some 0 from h2, bd1_e, if_pos (show (0 : Int32) = 0 from rfl)]
    rcases h1 with h1 | ⟨h1, h3⟩
    · rw [if_pos h1]; exact ⟨_, _, _, _, _, _, rfl, rfl, h⟩
    · rw [if_neg h1, if_neg (fun z => by rw [Int32.lt_iff_toInt_lt] at z; rw [Int32.le_iff_toInt_le] at h3; omega)]; exact ⟨_, _, _, _, _, _, rfl, rfl, h⟩
  rw [show fX8_in (nI i).toInt64 0 3 = some 1 from h2, bd1_e, if_neg (show ¬ (1 : Int32) = 0 by decide), if_neg h1, if_pos h4]
  have hi4 : i = 0 ∨ i = 1 ∨ i = 2 ∨ i = 3 := by omega
  rcases hi4 with rfl | rfl | rfl | rfl
  · rw [if_pos (show nI 0 = 0 from rfl)]
    rcases lay_row (show 0 < 4 by omega) w0 q r (nI 0) rfl with ⟨x, d1, d2, d3⟩ | ⟨it', mi', d1, d2, d3, d4, d5⟩
    · rw [d1, bd1_e, if_neg d2, d3]
      exact ⟨_, _, _, _, _, _, rfl, rfl, h⟩
    · rw [d1, bd1_e, if_pos (show (0 : Int32) = 0 from rfl), d2, bd1_e, d3]
      exact ⟨_, _, _, _, _, _, rfl, rfl, d4, RW_keep2 w1 (by omega) d5, RW_keep2 w2 (by omega) d5, RW_keep2 w3 (by omega) d5⟩
  · rw [if_neg (show ¬ nI 1 = 0 by decide), if_pos (show nI 1 = 1 from rfl)]
    rcases lay_row (show 1 < 4 by omega) w1 q r (nI 1) rfl with ⟨x, d1, d2, d3⟩ | ⟨it', mi', d1, d2, d3, d4, d5⟩
    · rw [d1, bd1_e, if_neg d2, d3]
      exact ⟨_, _, _, _, _, _, rfl, rfl, h⟩
    · rw [d1, bd1_e, if_pos (show (0 : Int32) = 0 from rfl), d2, bd1_e, d3]
      exact ⟨_, _, _, _, _, _, rfl, rfl, RW_keep2 w0 (by omega) d5, d4, RW_keep2 w2 (by omega) d5, RW_keep2 w3 (by omega) d5⟩
  · rw [if_neg (show ¬ nI 2 = 0 by decide), if_neg (show ¬ nI 2 = 1 by decide), if_pos (show nI 2 = 2 from rfl)]
    rcases lay_row (show 2 < 4 by omega) w2 q r (nI 2) rfl with ⟨x, d1, d2, d3⟩ | ⟨it', mi', d1, d2, d3, d4, d5⟩
    · rw [d1, bd1_e, if_neg d2, d3]
      exact ⟨_, _, _, _, _, _, rfl, rfl, h⟩
    · rw [d1, bd1_e, if_pos (show (0 : Int32) = 0 from rfl), d2, bd1_e, d3]
      exact ⟨_, _, _, _, _, _, rfl, rfl, RW_keep2 w0 (by omega) d5, RW_keep2 w1 (by omega) d5, d4, RW_keep2 w3 (by omega) d5⟩
  · rw [if_neg (show ¬ nI 3 = 0 by decide), if_neg (show ¬ nI 3 = 1 by decide), if_neg (show ¬ nI 3 = 2 by decide), if_pos (show nI 3 = 3 from rfl)]
    rcases lay_row (show 3 < 4 by omega) w3 q r (nI 3) rfl with ⟨x, d1, d2, d3⟩ | ⟨it', mi', d1, d2, d3, d4, d5⟩
    · rw [d1, bd1_e, if_neg d2, d3]
      exact ⟨_, _, _, _, _, _, rfl, rfl, h⟩
    · rw [d1, bd1_e, if_pos (show (0 : Int32) = 0 from rfl), d2, bd1_e, d3]
      exact ⟨_, _, _, _, _, _, rfl, rfl, RW_keep2 w0 (by omega) d5, RW_keep2 w1 (by omega) d5, RW_keep2 w2 (by omega) d5, d4⟩
