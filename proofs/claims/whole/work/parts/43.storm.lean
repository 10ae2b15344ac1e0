/-! STEPS: storm -/
theorem in29 {p : Nat} (h : p < 30) : fX8_in (nI p).toInt64 0 29 = some 1 := by
  rw [f_in, to64, nI_toInt (by omega), show (0 : Int64).toInt = 0 from rfl, show (29 : Int64).toInt = 29 from rfl, if_pos (by omega)]
theorem m_isCellN {p : Nat} (h : p < 30) : fX8_isCell (nI p) = some 1 := by
  unfold fX8_isCell
  rw [show fX8_in ((nI p).toInt64) 0 29 = some 1 from in29 h, bd1_e, ckT (Or.inr rfl)]
theorem AF_ok {c : Nat} {f : Fq} {p1 p2 p3 p4 p5 : Int32} (h : AF c f p1 p2 p3 p4 p5) : fX8_isFormula p1 p2 p3 p4 p5 = some 1 := by
  obtain ⟨hc, hv, rfl, rfl, a1, a2, a3, b1, b2, b3⟩ := h
  have hcc := m_isCellN hc
  rcases hv with q | q | q | q | q | q
  · rw [q.1, mfit_0 _ _ _ _ hcc]
  · rw [q.1] at a1
    rw [q.1, mfit_1 _ _ _ _ hcc, a1 (by decide), f_in, to64, nI_toInt (by omega), show (0 : Int64).toInt = 0 from rfl, show (999 : Int64).toInt = 999 from rfl, if_pos (by omega), bd1_e, if_neg (show ¬ (1 : Int32) = 0 by decide)]
  · rcases q with ⟨z | z | z, q1, q2, q3⟩
    · rw [z] at a1 a2
      rw [z, mfit_2 _ _ _ _ hcc, a1 (by decide), a2 (by decide), in29 q1, bd1_e, if_neg (show ¬ (1 : Int32) = 0 by decide), in29 q2, bd1_e, if_neg (show ¬ (1 : Int32) = 0 by decide)]
    · rw [z] at a1 a2
      rw [z, mfit_3 _ _ _ _ hcc, a1 (by decide), a2 (by decide), in29 q1, bd1_e, if_neg (show ¬ (1 : Int32) = 0 by decide), in29 q2, bd1_e, if_neg (show ¬ (1 : Int32) = 0 by decide)]
    · rw [z] at a1 a2
      rw [z, mfit_4 _ _ _ _ hcc, a1 (by decide), a2 (by decide), in29 q1, bd1_e, if_neg (show ¬ (1 : Int32) = 0 by decide), in29 q2, bd1_e, if_neg (show ¬ (1 : Int32) = 0 by decide)]
  · rw [q.1] at a1
    rw [q.1, mfit_5 _ _ _ _ hcc, a1 (by decide), in29 q.2.1, bd1_e, if_neg (show ¬ (1 : Int32) = 0 by decide)]
  · rcases q with ⟨z | z, q1, q2, q3⟩
    · rw [z] at a1 a2
      rw [z, mfit_6 _ _ _ _ hcc, a1 (by decide), a2 (by decide), in29 (show f.2.1 < 30 by omega), bd1_e, if_neg (show ¬ (1 : Int32) = 0 by decide), f_in, to64, to64, nI_toInt (by omega), nI_toInt (by omega), show (29 : Int64).toInt = 29 from rfl, if_pos (by omega), bd1_e, if_neg (show ¬ (1 : Int32) = 0 by decide)]
    · rw [z] at a1 a2
      rw [z, mfit_7 _ _ _ _ hcc, a1 (by decide), a2 (by decide), in29 (show f.2.1 < 30 by omega), bd1_e, if_neg (show ¬ (1 : Int32) = 0 by decide), f_in, to64, to64, nI_toInt (by omega), nI_toInt (by omega), show (29 : Int64).toInt = 29 from rfl, if_pos (by omega), bd1_e, if_neg (show ¬ (1 : Int32) = 0 by decide)]
  · rw [q.1] at a1 a2 a3
    rw [q.1, mfit_8 _ _ _ _ hcc, a1 (by decide), a2 (by decide), a3 (by decide), in29 q.2.1, bd1_e, if_neg (show ¬ (1 : Int32) = 0 by decide), in29 q.2.2.1, bd1_e, if_neg (show ¬ (1 : Int32) = 0 by decide), m_isCellN q.2.2.2, bd1_e, if_neg (show ¬ (1 : Int32) = 0 by decide)]
theorem AF_draw {c K p q r : Nat} (hc : c < 30) (hK : K < 9) (hp : p < 30) (hq : q < 30) (hr : r < 30) (h6 : K ≠ 6) (h7 : K ≠ 7) : ∃ f, AF c f (nI c) (nI K) (nI p) (nI q) (nI r) := by
  have : K = 0 ∨ K = 1 ∨ K = 2 ∨ K = 3 ∨ K = 4 ∨ K = 5 ∨ K = 8 := by omega
  rcases this with rfl | rfl | rfl | rfl | rfl | rfl | rfl
  · exact ⟨(0, 0, 0, 0), ⟨hc, Or.inl ⟨rfl, rfl, rfl, rfl⟩, rfl, rfl, fun h => absurd h (show ¬ 1 ≤ opN 0 by decide), fun h => absurd h (show ¬ 2 ≤ opN 0 by decide), fun h => absurd h (show ¬ 3 ≤ opN 0 by decide), fun _ => rfl, fun _ => rfl, fun _ => rfl⟩⟩
  · exact ⟨(1, p, 0, 0), ⟨hc, Or.inr (Or.inl ⟨rfl, Nat.le_trans (Nat.le_of_lt hp) (by omega), rfl, rfl⟩), rfl, rfl, fun _ => rfl, fun h => absurd h (show ¬ 2 ≤ opN 1 by decide), fun h => absurd h (show ¬ 3 ≤ opN 1 by decide), fun h => absurd h (show ¬ opN 1 < 1 by decide), fun _ => rfl, fun _ => rfl⟩⟩
  · exact ⟨(2, p, q, 0), ⟨hc, Or.inr (Or.inr (Or.inl ⟨Or.inl rfl, hp, hq, rfl⟩)), rfl, rfl, fun _ => rfl, fun _ => rfl, fun h => absurd h (show ¬ 3 ≤ opN 2 by decide), fun h => absurd h (show ¬ opN 2 < 1 by decide), fun h => absurd h (show ¬ opN 2 < 2 by decide), fun _ => rfl⟩⟩
  · exact ⟨(3, p, q, 0), ⟨hc, Or.inr (Or.inr (Or.inl ⟨Or.inr (Or.inl rfl), hp, hq, rfl⟩)), rfl, rfl, fun _ => rfl, fun _ => rfl, fun h => absurd h (show ¬ 3 ≤ opN 3 by decide), fun h => absurd h (show ¬ opN 3 < 1 by decide), fun h => absurd h (show ¬ opN 3 < 2 by decide), fun _ => rfl⟩⟩
  · exact ⟨(4, p, q, 0), ⟨hc, Or.inr (Or.inr (Or.inl ⟨Or.inr (Or.inr rfl), hp, hq, rfl⟩)), rfl, rfl, fun _ => rfl, fun _ => rfl, fun h => absurd h (show ¬ 3 ≤ opN 4 by decide), fun h => absurd h (show ¬ opN 4 < 1 by decide), fun h => absurd h (show ¬ opN 4 < 2 by decide), fun _ => rfl⟩⟩
  · exact ⟨(5, p, 0, 0), ⟨hc, Or.inr (Or.inr (Or.inr (Or.inl ⟨rfl, hp, rfl, rfl⟩))), rfl, rfl, fun _ => rfl, fun h => absurd h (show ¬ 2 ≤ opN 5 by decide), fun h => absurd h (show ¬ 3 ≤ opN 5 by decide), fun h => absurd h (show ¬ opN 5 < 1 by decide), fun _ => rfl, fun _ => rfl⟩⟩
  · exact ⟨(8, p, q, r), ⟨hc, Or.inr (Or.inr (Or.inr (Or.inr (Or.inr ⟨rfl, hp, hq, hr⟩)))), rfl, rfl, fun _ => rfl, fun _ => rfl, fun _ => rfl, fun h => absurd h (show ¬ opN 8 < 1 by decide), fun h => absurd h (show ¬ opN 8 < 2 by decide), fun h => absurd h (show ¬ opN 8 < 3 by decide)⟩⟩
theorem AF_sp6 {c p q : Nat} (hc : c < 30) (hpq : p ≤ q) (hq : q < 30) (x : Int32) : AF c (6, p, q, 0) (nI c) (nI 6) (nI p) (nI q) x := ⟨hc, Or.inr (Or.inr (Or.inr (Or.inr (Or.inl ⟨Or.inl rfl, hpq, hq, rfl⟩)))), rfl, rfl, fun _ => rfl, fun _ => rfl, fun h => absurd h (show ¬ 3 ≤ opN 6 by decide), fun h => absurd h (show ¬ opN 6 < 1 by decide), fun h => absurd h (show ¬ opN 6 < 2 by decide), fun _ => rfl⟩
theorem AF_sp7 {c p q : Nat} (hc : c < 30) (hpq : p ≤ q) (hq : q < 30) (x : Int32) : AF c (7, p, q, 0) (nI c) (nI 7) (nI p) (nI q) x := ⟨hc, Or.inr (Or.inr (Or.inr (Or.inr (Or.inl ⟨Or.inr rfl, hpq, hq, rfl⟩)))), rfl, rfl, fun _ => rfl, fun _ => rfl, fun h => absurd h (show ¬ 3 ≤ opN 7 by decide), fun h => absurd h (show ¬ opN 7 < 1 by decide), fun h => absurd h (show ¬ opN 7 < 2 by decide), fun _ => rfl⟩
theorem AF_span {c K p q : Nat} (hc : c < 30) (hpq : p ≤ q) (hq : q < 30) (hK : K = 6 ∨ K = 7) : ∃ f, ∀ x, AF c f (nI c) (nI K) (nI p) (nI q) x := by
  rcases hK with rfl | rfl
  · exact ⟨_, AF_sp6 hc hpq hq⟩
  · exact ⟨_, AF_sp7 hc hpq hq⟩
theorem b_32767 : ∀ i, i < 32 → bt 32767 i = decide (i < 15) := by decide +kernel
def dw (x : Int32) : Int32 := (x >>> ((16 : Int32) &&& 31)) &&& 32767
theorem draw_eq (x : Int32) : fX7_drawn x = some (dw x) := by
  unfold fX7_drawn dw
  congr 1
  refine b_ext (fun i hi => ?_)
  rw [b_and, b_and, show ((x.toUInt32 >>> ((16 : Int32).toUInt32 &&& Int32.toUInt32 31)).toInt32) = ((x.toUInt32 >>> ((nI 16).toUInt32 &&& Int32.toUInt32 31)).toInt32) from rfl, b_ushr 16 (by omega), show x >>> ((16 : Int32) &&& 31) = x >>> (nI 16 &&& 31) from rfl, b_sshr 16 (by omega) x hi, b_32767 i hi]
  by_cases e : i < 15
  · rw [if_pos (by omega)]
  · rw [decide_eq_false e, Bool.and_false, Bool.and_false]
theorem dw_nI (x : Int32) : ∃ D, D < 32768 ∧ dw x = nI D := by
  obtain ⟨j, h1, h2⟩ := pk_andE (x >>> ((16 : Int32) &&& 31)) (m := 32767) 15 (by decide)
  exact ⟨j, h1, h2⟩
theorem s_put2 {F : Fo} {parts hist st mV mT mW mR mN mH u g ov ot or' : Nat → Int32} {n nx : RKT} {hs wc ev mv s mev mmv ic um x1 x2 x3 x4 x5 p1 p2 p3 p4 p5 q2 q3 q4 q5 : Int32} {c : Nat} {f : Fq} (h : SR F parts n hist hs wc ev mv st mV mT mW mR mN mH s mev mmv ic u um) (hA : AF c f p1 p2 p3 p4 p5) (hB : AF c f p1 q2 q3 q4 q5) :
    ∃ y1 y2 y3 y4 y5 hist' hs' r parts' n' ev' mv' g' st' a b w e m k v1 v2 v3 u', fX7_remember parts p1 x1 x2 x3 x4 x5 hist hs = some (y1, y2, y3, y4, y5, hist', hs') ∧ fX7_make parts n nx p1 p2 p3 p4 p5 wc ev mv = some (r, parts', n', n, 1, ev', mv') ∧ fX8_putsFormula st mV mT mW mR mN mH s ov ot or' mev mmv ic u um g p1 q2 q3 q4 q5 = some (r, st', a, b, w, e, m, k, 1, v1, v2, v3, ev', mv', 1, u', hs', g') ∧ SR (up F c f) parts' n' hist' hs' 1 ev' mv' st' a b w e m k 1 ev' mv' 1 u' hs' ∧ ∀ k, 120 ≤ k → st' k = st k := by
  have hok := AF_ok hB
  obtain ⟨hF, hC, hP, hN, hS, ⟨N, rfl, rfl, hH⟩, rfl, hw, rfl, rfl⟩ := h
  obtain ⟨parts', n', x, m1, m2, m3, m4⟩ := c_make (nx := nx) (wc := wc) (ev := ev) (mv := mv) hC hF hN hA
  obtain ⟨g', g1, g2⟩ := m_formulaIs (g := g) hB
  obtain ⟨hc, hv, rfl, hA'⟩ := hA
  obtain ⟨hist', r1, r2⟩ := c_remember (h := hist) (x1 := x1) (x2 := x2) (x3 := x3) (x4 := x4) (x5 := x5) hC hc hH.1
  obtain ⟨u', u1, u2⟩ := m_puts (g := g') (mV := mV) (mT := mT) (mW := mW) (mR := mR) (mN := mN) (mH := mH) (ov := ov) (ot := ot) (or' := or') (u := u) (s := s) (ev := ev) (mv := mv) (ic := wc) hP hc hH.1
  obtain ⟨st', a, b, w, e, m, k, v1, v2, v3, c1, c2, c3, c4⟩ := m_changes (ov := ov) (ot := ot) (or' := or') (ev0 := ev) (mv0 := mv) hP hF hS g2 hv hc (RB_of hN.1) m4
  rw [c1, bd13_e, m_bitsOf (ev_hi hF hN hc), bd1_e] at u1
  unfold fX8_putsFormula
  rw [hok, bd1_e, if_neg (show ¬ (1 : Int32) = 0 by decide), g1, bd1_e, u1, bd17_e]
  exact ⟨_, _, _, _, _, hist', _, _, parts', n', _, _, g', st', a, b, w, e, m, k, v1, v2, v3, u', r1, m1, rfl, ⟨VFs_up hF hv, m2, c2, m3, Or.inr ⟨rfl, c4⟩, ⟨_, rfl, rfl, HI_push hH r2 u2 hc (hF c hc)⟩, rfl, Or.inr rfl, rfl, rfl⟩, c3⟩
