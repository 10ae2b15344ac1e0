/-! READ: the reference's ends -/
theorem m_rend {la le mi st mV mT mW mR mN mH ov ot or' u ua g : Nat → Int32} {P k : Nat} {p1 p2 p3 s ev mv ic um tn iac l5 l6 : Int32} (hP : P ≤ 8) :
    lq20 (fX8_read_b52 la le mi p1 p2 p3 (nI P) ua tn iac) (k + 1) st mV mT mW mR mN mH s ov ot or' ev mv ic u um g l5 l6 (nI (5 * P)) = some (l6, st, mV, mT, mW, mR, mN, mH, s, ov, ot, or', ev, mv, ic, u, um, ua, g, l5, iac) := by
  rw [lq20_s]
  unfold fX8_read_b52 fX8_read_j220
  rw [show (5 : Int32) * nI P = nI (5 * P) from pk_mul 5 P, if_pos (nI_le (Nat.le_refl _) (by omega))]
theorem m_rfault {la le mi st mV mT mW mR mN mH ov ot or' u ua g : Nat → Int32} {i L Z B P q k : Nat} {s ev mv ic um tn iac l6 : Int32} (hi : i < 4) (hl : la i = nI L) (hL : L < 3) (hz : le i = nI Z) (hZ : Z ≤ 40) (hB : ¬ B + q < Z) (hb : B < 40) (hq : q < 5 * P) (hP : P ≤ 8) :
    lq20 (fX8_read_b52 la le mi (nI i) (nI L) (nI B) (nI P) ua tn iac) (k + 1 + 1) st mV mT mW mR mN mH s ov ot or' ev mv ic u um g 0 l6 (nI q) = some (l6, st, mV, mT, mW, mR, mN, mH, s, ov, ot, or', ev, mv, ic, u, um, ua, g, 2, iac) := by
  have fin1 : ∀ x : Int32, lq20 (fX8_read_b52 la le mi (nI i) (nI L) (nI B) (nI P) ua tn iac) (k + 1) st mV mT mW mR mN mH s ov ot or' ev mv ic u um g 2 l6 x = some (l6, st, mV, mT, mW, mR, mN, mH, s, ov, ot, or', ev, mv, ic, u, um, ua, g, 2, iac) := fun x => by
    rw [lq20_s]
    unfold fX8_read_b52 fX8_read_j220
    rw [if_neg (show ¬ (2 : Int32) = 0 by decide)]
    split <;> rfl
  rw [lq20_s]
  generalize lq20 (fX8_read_b52 la le mi (nI i) (nI L) (nI B) (nI P) ua tn iac) (k + 1) = self at *
  unfold fX8_read_b52 fX8_read_j126 fX8_read_j214
  rw [show (5 : Int32) * nI P = nI (5 * P) from pk_mul 5 P, if_neg (nI_ge hq (by omega)), if_pos (show (0 : Int32) = 0 from rfl), rdN hi (by omega), hl, if_neg (nI_ne_m4 (by omega)), rdN hi (by omega), hl, if_pos (show nI L = nI L from rfl), rdN hi (by omega), hz, in_B0 hB hZ (by omega), bd1_e, if_pos (show (0 : Int32) = 0 from rfl), if_neg (show ¬ (2 : Int32) = 0 by decide)]
  exact fin1 _
theorem m_rfaultF {la le mi st mV mT mW mR mN mH ov ot or' u ua g : Nat → Int32} {i L Z B P C : Nat} {s ev mv ic um tn iac l6 : Int32} (hi : i < 4) (hl : la i = nI L) (hL : L < 3) (hz : le i = nI Z) (hZ : Z ≤ 40) (hb : B < 40) (hP : P ≤ 8) (hC : C < P) :
    ∀ (d j k : Nat), d + j = 4 → ¬ B + (5 * C + 4) < Z → lq20 (fX8_read_b52 la le mi (nI i) (nI L) (nI B) (nI P) ua tn iac) (k + d + 1 + 1) st mV mT mW mR mN mH s ov ot or' ev mv ic u um g 0 l6 (nI (5 * C + j)) = some (l6, st, mV, mT, mW, mR, mN, mH, s, ov, ot, or', ev, mv, ic, u, um, ua, g, 2, iac) := by
  intro d
  induction d with
  | zero =>
    intro j k hj hn
    have : j = 4 := by omega
    subst this
    exact m_rfault hi hl hL hz hZ hn hb (by omega) hP
  | succ d ih =>
    intro j k hj hn
    by_cases e : B + (5 * C + j) < Z
    · rw [show k + (d + 1) + 1 + 1 = (k + d + 1 + 1) + 1 by omega, m_read1 hi hl hL hz hZ e (by omega) hP (by omega), show 5 * C + j + 1 = 5 * C + (j + 1) by omega]
      exact ih (j + 1) k (by omega) hn
    · exact m_rfault hi hl hL hz hZ e hb (by omega) hP
