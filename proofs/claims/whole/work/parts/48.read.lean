/-! READ: the reference's items -/
theorem bm64 {z : Int} (h1 : -2147483648 ≤ z) (h2 : z < 2147483648) : z.bmod (2 ^ 64) = z := by
  exact Int.bmod_eq_of_le (by omega) (by omega)
theorem l8_toInt {B q : Nat} (h : B + q < 2 ^ 30) : ((nI B).toInt64 + (nI q).toInt64).toInt = (B : Int) + q := by
  rw [Int64.toInt_add, to64, to64, nI_toInt (by omega), nI_toInt (by omega), bm64 (by omega) (by omega)]
theorem l8_32 {B q : Nat} : ((nI B).toInt64 + (nI q).toInt64).toInt32 = nI (B + q) := by
  rw [Int64.toInt32_add, Int32.toInt32_toInt64, Int32.toInt32_toInt64, nI_add]
theorem in_B {B q Z : Nat} (h : B + q < Z) (hZ : Z ≤ 40) : fX8_in ((nI B).toInt64 + (nI q).toInt64) 0 (nI Z - 1).toInt64 = some 1 := by
  have hz : (nI Z - 1).toInt = (Z : Int) - 1 := pk_sub_toInt (a := Z) (b := 1) (by omega) (by omega)
  rw [f_in, l8_toInt (by omega), to64, hz, show (0 : Int64).toInt = 0 from rfl, if_pos (by omega)]
theorem in_B0 {B q Z : Nat} (h : ¬ B + q < Z) (hZ : Z ≤ 40) (hb : B + q < 2 ^ 30) : fX8_in ((nI B).toInt64 + (nI q).toInt64) 0 (nI Z - 1).toInt64 = some 0 := by
  have hz : (nI Z - 1).toInt = (Z : Int) - 1 := pk_sub_toInt (a := Z) (b := 1) (by omega) (by omega)
  rw [f_in, l8_toInt (by omega), to64, hz, show (0 : Int64).toInt = 0 from rfl, if_neg (by omega)]
theorem m_read1 {la le mi st mV mT mW mR mN mH ov ot or' u ua g : Nat → Int32} {i L Z B P q k : Nat} {s ev mv ic um tn iac l6 : Int32} (hi : i < 4) (hl : la i = nI L) (hL : L < 3) (hz : le i = nI Z) (hZ : Z ≤ 40) (hB : B + q < Z) (hq : q < 5 * P) (hP : P ≤ 8) (h4 : q % 5 ≠ 4) :
    lq20 (fX8_read_b52 la le mi (nI i) (nI L) (nI B) (nI P) ua tn iac) (k + 1) st mV mT mW mR mN mH s ov ot or' ev mv ic u um g 0 l6 (nI q) = lq20 (fX8_read_b52 la le mi (nI i) (nI L) (nI B) (nI P) ua tn iac) k st mV mT mW mR mN mH s ov ot or' ev mv ic u um g 0 l6 (nI (q + 1)) := by
  rw [lq20_s]
  generalize lq20 (fX8_read_b52 la le mi (nI i) (nI L) (nI B) (nI P) ua tn iac) k = self
  have hr : nI q - nI q / 5 * 5 = nI (q % 5) := pk_rem (d := 5) (by omega) (by omega) (by omega)
  unfold fX8_read_b52 fX8_read_j126 fX8_read_j214
  rw [show (5 : Int32) * nI P = nI (5 * P) from pk_mul 5 P, if_neg (nI_ge hq (by omega)), if_pos (show (0 : Int32) = 0 from rfl), rdN hi (by omega), hl, if_neg (nI_ne_m4 (by omega)), rdN hi (by omega), hl, if_pos (show nI L = nI L from rfl), rdN hi (by omega), hz, in_B hB hZ, bd1_e, if_neg (show ¬ (1 : Int32) = 0 by decide), if_pos (show (0 : Int32) = 0 from rfl), hr, if_neg (show ¬ nI (q % 5) = 4 from fun z => h4 (nI_inj (b := 4) z (by omega) (by omega))), nI_1]
theorem m_read5 {la le mi st mV mT mW mR mN mH ov ot or' u ua g : Nat → Int32} {i L Z B P t k : Nat} {s ev mv ic um tn iac l6 : Int32} (hi : i < 4) (hl : la i = nI L) (hL : L < 3) (hz : le i = nI Z) (hZ : Z ≤ 40) (hB : B + 5 * t + 4 < Z) (ht : t < P) (hP : P ≤ 8) :
    lq20 (fX8_read_b52 la le mi (nI i) (nI L) (nI B) (nI P) ua tn iac) (k + 5) st mV mT mW mR mN mH s ov ot or' ev mv ic u um g 0 l6 (nI (5 * t)) = (bd18 (fX8_putsFormula st mV mT mW mR mN mH s ov ot or' ev mv ic u um g (mi (40 * i + (B + 5 * t))) (mi (40 * i + (B + 5 * t + 1))) (mi (40 * i + (B + 5 * t + 2))) (mi (40 * i + (B + 5 * t + 3))) (mi (40 * i + (B + 5 * t + 4)))) fun r st mV mT mW mR mN mH s ov ot or' ev mv ic u um g =>
      if (0 : Int32) ≤ r then lq20 (fX8_read_b52 la le mi (nI i) (nI L) (nI B) (nI P) ua tn iac) k st mV mT mW mR mN mH s ov ot or' ev mv ic u um g 0 (l6 + 1) (nI (5 * t + 5)) else bd12 (fX8_getsAside st mV mT mW mR mN mH ev mv ic u um ua iac) fun st a b w e m h ev mv ic u um => some (-20 - l6, st, a, b, w, e, m, h, s, ov, ot, or', ev, mv, ic, u, um, ua, g, tn, iac)) := by
  rw [m_read1 (k := k + 4) (q := 5 * t) hi hl hL hz hZ (by omega) (by omega) hP (by omega), m_read1 (k := k + 3) (q := 5 * t + 1) hi hl hL hz hZ (by omega) (by omega) hP (by omega), m_read1 (k := k + 2) (q := 5 * t + 2) hi hl hL hz hZ (by omega) (by omega) hP (by omega), m_read1 (k := k + 1) (q := 5 * t + 3) hi hl hL hz hZ (by omega) (by omega) hP (by omega), lq20_s]
  generalize lq20 (fX8_read_b52 la le mi (nI i) (nI L) (nI B) (nI P) ua tn iac) k = self
  have hr : nI (5 * t + 3 + 1) - nI (5 * t + 3 + 1) / 5 * 5 = nI ((5 * t + 3 + 1) % 5) := pk_rem (d := 5) (by omega) (by omega) (by omega)
  have hm : (5 * t + 3 + 1) % 5 = 4 := by omega
  have x0 : nI (40 * i) + nI (B + (5 * t + 3 + 1)) = nI (40 * i + (B + 5 * t + 4)) := by rw [nI_add, show B + (5 * t + 3 + 1) = B + 5 * t + 4 by omega]
  have y4 : nI (40 * i + (B + 5 * t + 4)) - 4 = nI (40 * i + (B + 5 * t)) := (pk_sub (b := 4) (by omega)).trans (by congr 1)
  have y3 : nI (40 * i + (B + 5 * t + 4)) - 3 = nI (40 * i + (B + 5 * t + 1)) := (pk_sub (b := 3) (by omega)).trans (by congr 1)
  have y2 : nI (40 * i + (B + 5 * t + 4)) - 2 = nI (40 * i + (B + 5 * t + 2)) := (pk_sub (b := 2) (by omega)).trans (by congr 1)
  have y1 : nI (40 * i + (B + 5 * t + 4)) - 1 = nI (40 * i + (B + 5 * t + 3)) := (pk_sub (b := 1) (by omega)).trans (by congr 1)
  unfold fX8_read_b52 fX8_read_j126 fX8_read_j214
  rw [show (5 : Int32) * nI P = nI (5 * P) from pk_mul 5 P, if_neg (nI_ge (show 5 * t + 3 + 1 < 5 * P by omega) (by omega)), if_pos (show (0 : Int32) = 0 from rfl), rdN hi (by omega), hl, if_neg (nI_ne_m4 (by omega)), rdN hi (by omega), hl, if_pos (show nI L = nI L from rfl), rdN hi (by omega), hz, in_B (q := 5 * t + 3 + 1) (by omega) hZ, bd1_e, if_neg (show ¬ (1 : Int32) = 0 by decide), if_pos (show (0 : Int32) = 0 from rfl), hr, hm, if_pos (show nI 4 = 4 from rfl), nI_1, show (40 : Int32) * nI i = nI (40 * i) from pk_mul 40 i, l8_32, x0, y4, y3, y2, y1, rdN (by omega) (by omega), rdN (by omega) (by omega), rdN (by omega) (by omega), rdN (by omega) (by omega), rdN (by omega) (by omega)]
