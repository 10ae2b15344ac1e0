/-! READ: the class looks first -/
def pickI (i : Nat) (l0 l1 l2 l3 : Int32) : Int32 := if i = 0 then l0 else if i = 1 then l1 else if i = 2 then l2 else l3
theorem c_b38 {t0 t1 t2 t3 : Nat → Int32} {l0 z0 l1 z1 l2 z2 l3 z3 : Int32} {i P t : Nat} {p2 p3 tn : Int32} (hi : i < 4) (ht : t < P) (hP : P ≤ 8) (self) (parts : Nat → Int32) (n nx : RKT) (a1 a2 a3 a4 a5 x1 x2 x3 x4 x5 : Int32) (hist : Nat → Int32) (hs wc ev mv : Int32) : fX7_read_b38 t0 l0 z0 t1 l1 z1 t2 l2 z2 t3 l3 z3 (nI i) p2 p3 (nI P) parts n nx x1 x2 x3 x4 x5 hist hs wc ev mv tn self a1 a2 a3 a4 a5 (nI t) 0 = bd1 (fX4_faultOfChange (pickI i l0 l1 l2 l3) (pickI i z0 z1 z2 z3) p2 (p3 + 5 * nI t)) fun r63 => if r63 = (0 : Int32) then bd5 (fX4_askFrom (pick i t0 t1 t2 t3) a1 a2 a3 a4 a5 (p3 + 5 * nI t)) fun c1 c2 c3 c4 c5 => bd1 (fX0_isAllowed c1 c2 c3 c4 c5) fun r96 => if r96 = (0 : Int32) then some ((-20 : Int32) - nI t, parts, n, nx, c1, c2, c3, c4, c5, x1, x2, x3, x4, x5, hist, hs, wc, ev, mv, tn) else self c1 c2 c3 c4 c5 (nI (t + 1)) r63 else self a1 a2 a3 a4 a5 (nI t) r63 := by
  unfold fX7_read_b38
  rw [if_neg (nI_ge ht (by omega)), if_pos (show (0 : Int32) = 0 from rfl), nI_1]
  have hi4 : i = 0 ∨ i = 1 ∨ i = 2 ∨ i = 3 := by omega
  rcases hi4 with rfl | rfl | rfl | rfl
  · rw [if_pos (show nI 0 = 0 from rfl)]; rfl
  · rw [if_neg (show ¬ nI 1 = 0 by decide), if_pos (show nI 1 = 1 from rfl)]; rfl
  · rw [if_neg (show ¬ nI 2 = 0 by decide), if_neg (show ¬ nI 2 = 1 by decide), if_pos (show nI 2 = 2 from rfl)]; rfl
  · rw [if_neg (show ¬ nI 3 = 0 by decide), if_neg (show ¬ nI 3 = 1 by decide), if_neg (show ¬ nI 3 = 2 by decide), if_pos (show nI 3 = 3 from rfl)]; rfl
