/-! STEPS: put, undo, latest, keep, back -/
def SR (F : Fo) (parts : Nat → Int32) (n : RKT) (hist : Nat → Int32) (hs wc ev mv : Int32) (st mV mT mW mR mN mH : Nat → Int32) (s mev mmv ic : Int32) (u : Nat → Int32) (um : Int32) : Prop :=
  VFs F ∧ PC F parts ∧ PM F st 0 ∧ NR F n ∧ MRS F mV mT mW mR mN mH s ∧ (∃ N, hs = nI N ∧ um = nI N ∧ HI hist u N) ∧ wc = ic ∧ (wc = 0 ∨ wc = 1) ∧ ev = mev ∧ mv = mmv
theorem s_put {F : Fo} {parts hist st mV mT mW mR mN mH u g ov ot or' : Nat → Int32} {n nx : RKT} {hs wc ev mv s mev mmv ic um x1 x2 x3 x4 x5 p1 p2 p3 p4 p5 : Int32} {c : Nat} {f : Fq} (h : SR F parts n hist hs wc ev mv st mV mT mW mR mN mH s mev mmv ic u um) (hA : AF c f p1 p2 p3 p4 p5) :
    ∃ y1 y2 y3 y4 y5 hist' hs' r parts' n' ev' mv' g' st' a b w e m k v1 v2 v3 u', fX7_remember parts p1 x1 x2 x3 x4 x5 hist hs = some (y1, y2, y3, y4, y5, hist', hs') ∧ fX7_make parts n nx p1 p2 p3 p4 p5 wc ev mv = some (r, parts', n', n, 1, ev', mv') ∧ fX8_formulaIs g p2 p3 p4 p5 = some g' ∧ fX8_puts st mV mT mW mR mN mH s ov ot or' mev mmv ic u um g' p1 = some (r, st', a, b, w, e, m, k, 1, v1, v2, v3, ev', mv', 1, u', hs') ∧ SR (up F c f) parts' n' hist' hs' 1 ev' mv' st' a b w e m k 1 ev' mv' 1 u' hs' ∧ ∀ k, 120 ≤ k → st' k = st k := by
  obtain ⟨hF, hC, hP, hN, hS, ⟨N, rfl, rfl, hH⟩, rfl, hw, rfl, rfl⟩ := h
  obtain ⟨parts', n', x, m1, m2, m3, m4⟩ := c_make (nx := nx) (wc := wc) (ev := ev) (mv := mv) hC hF hN hA
  obtain ⟨g', g1, g2⟩ := m_formulaIs (g := g) hA
  obtain ⟨hc, hv, rfl, hA'⟩ := hA
  obtain ⟨hist', r1, r2⟩ := c_remember (h := hist) (x1 := x1) (x2 := x2) (x3 := x3) (x4 := x4) (x5 := x5) hC hc hH.1
  obtain ⟨u', u1, u2⟩ := m_puts (g := g') (mV := mV) (mT := mT) (mW := mW) (mR := mR) (mN := mN) (mH := mH) (ov := ov) (ot := ot) (or' := or') (u := u) (s := s) (ev := ev) (mv := mv) (ic := wc) hP hc hH.1
  obtain ⟨st', a, b, w, e, m, k, v1, v2, v3, c1, c2, c3, c4⟩ := m_changes (ov := ov) (ot := ot) (or' := or') (ev0 := ev) (mv0 := mv) hP hF hS g2 hv hc (RB_of hN.1) m4
  rw [c1, bd13_e, m_bitsOf (ev_hi hF hN hc), bd1_e] at u1
  exact ⟨_, _, _, _, _, hist', _, _, parts', n', _, _, g', st', a, b, w, e, m, k, v1, v2, v3, u', r1, m1, g1, u1, ⟨VFs_up hF hv, m2, c2, m3, Or.inr ⟨rfl, c4⟩, ⟨_, rfl, rfl, HI_push hH r2 u2 hc (hF c hc)⟩, rfl, Or.inr rfl, rfl, rfl⟩, c3⟩
theorem q_put {F : Fo} {parts hist st mV mT mW mR mN mH u g ov ot or' : Nat → Int32} {n nx : RKT} {hs wc ev mv s mev mmv ic um a1 a2 a3 a4 a5 x1 x2 x3 x4 x5 : Int32} (p1 p2 p3 p4 p5 : Int32) (h : SR F parts n hist hs wc ev mv st mV mT mW mR mN mH s mev mmv ic u um) :
    ∃ F' r parts' n' nx' b1 b2 b3 b4 b5 y1 y2 y3 y4 y5 hist' hs' wc' ev' mv' st' a b w e m k s' v1 v2 v3 mev' mmv' ic' u' um' g', fX7_put parts n nx a1 a2 a3 a4 a5 x1 x2 x3 x4 x5 hist hs wc ev mv p1 p2 p3 p4 p5 = some (r, parts', n', nx', b1, b2, b3, b4, b5, y1, y2, y3, y4, y5, hist', hs', wc', ev', mv') ∧ fX8_put st mV mT mW mR mN mH s ov ot or' mev mmv ic u um g p1 p2 p3 p4 p5 = some (r, st', a, b, w, e, m, k, s', v1, v2, v3, mev', mmv', ic', u', um', g') ∧ SR F' parts' n' hist' hs' wc' ev' mv' st' a b w e m k s' mev' mmv' ic' u' um' ∧ ∀ k, 120 ≤ k → st' k = st k := by
  unfold fX7_put fX8_put fX8_putsFormula fX0_tell
  rw [bd5_e]
  rcases allow p1 p2 p3 p4 p5 with ⟨e1, e2⟩ | ⟨c, f, hA, e1, e2⟩
  · rw [e1, e2, bd1_e, bd1_e, if_pos (show (0 : Int32) = 0 from rfl), if_pos (show (0 : Int32) = 0 from rfl), bd18_e]
    exact ⟨F, _, _, _, _, _, _, _, _, _, _, _, _, _, _, _, _, _, _, _, _, _, _, _, _, _, _, _, _, _, _, _, _, _, _, _, _, rfl, rfl, h, fun _ _ => rfl⟩
  · rw [e1, e2, bd1_e, bd1_e, if_neg (show ¬ (1 : Int32) = 0 by decide), if_neg (show ¬ (1 : Int32) = 0 by decide)]
    obtain ⟨y1, y2, y3, y4, y5, hist', hs', r, parts', n', ev', mv', g', st', a, b, w, e, m, k, v1, v2, v3, u', k1, k2, k3, k4, k5, k6⟩ := s_put (nx := nx) (x1 := x1) (x2 := x2) (x3 := x3) (x4 := x4) (x5 := x5) (g := g) (ov := ov) (ot := ot) (or' := or') h hA
    rw [k1, bd7_e, k2, bd7_e, k3, bd1_e, k4, bd17_e, bd18_e]
    exact ⟨up F c f, _, _, _, _, _, _, _, _, _, _, _, _, _, _, _, _, _, _, _, _, _, _, _, _, _, _, _, _, _, _, _, _, _, _, _, _, rfl, rfl, k5, k6⟩
theorem q_latest {wc ev mv : Int32} (p : Int32) : ∃ r, fX7_latest wc ev mv p = some r ∧ fX8_latest ev mv wc p = some r := by
  unfold fX7_latest fX8_latest
  have hi : fX8_in p.toInt64 0 2 = some (if 0 ≤ p.toInt ∧ p.toInt ≤ 2 then 1 else 0) := by rw [f_in, to64]; rfl
  have h0 : (0 : Int32).toInt = 0 := rfl
  have h2 : (2 : Int32).toInt = 2 := rfl
  rw [hi, bd1_e]
  by_cases a : p.toInt < 0
  · rw [if_pos (Int32.lt_iff_toInt_lt.mpr (by omega)), if_neg (show ¬ (0 ≤ p.toInt ∧ p.toInt ≤ 2) by omega), if_pos (show (0 : Int32) = 0 from rfl)]
    exact ⟨_, rfl, rfl⟩
  · rw [if_neg (show ¬ p < 0 from fun z => by have := Int32.lt_iff_toInt_lt.mp z; omega)]
    by_cases b : p.toInt ≤ 2
    · rw [if_pos (show p ≤ 2 from Int32.le_iff_toInt_le.mpr (by omega)), if_pos (show 0 ≤ p.toInt ∧ p.toInt ≤ 2 by omega), if_neg (show ¬ (1 : Int32) = 0 by decide)]
      by_cases d : wc = 0
      · rw [if_pos d]; exact ⟨_, rfl, rfl⟩
      · rw [if_neg d]
        by_cases e0 : p = 0
        · rw [if_pos e0]; exact ⟨_, rfl, rfl⟩
        · rw [if_neg e0]
          by_cases e1 : p = 1
          · rw [if_pos e1]; exact ⟨_, rfl, rfl⟩
          · rw [if_neg e1]; exact ⟨_, rfl, rfl⟩
    · rw [if_neg (show ¬ p ≤ 2 from fun z => by have := Int32.le_iff_toInt_le.mp z; omega), if_neg (show ¬ (0 ≤ p.toInt ∧ p.toInt ≤ 2) by omega), if_pos (show (0 : Int32) = 0 from rfl)]
      exact ⟨_, rfl, rfl⟩
theorem AF_of {c : Nat} {f : Fq} (hc : c < 30) (hf : VF f) : AF c f (nI c) (nI f.1) (nI f.2.1) (nI f.2.2.1) (nI f.2.2.2) := by
  refine ⟨hc, hf, rfl, rfl, fun _ => rfl, fun _ => rfl, fun _ => rfl, ?_, ?_, ?_⟩ <;> intro h <;> unfold opN at h <;> rcases hf with q | q | q | q | q | q <;> first | exact q.2.1 | exact q.2.2.1 | exact q.2.2.2 | (rw [if_neg (by omega), if_neg (by omega)] at h; split at h <;> omega) | (rw [if_neg (by omega), if_pos (by omega)] at h; omega)
theorem q_undo {F : Fo} {parts hist st mV mT mW mR mN mH u g ov ot or' : Nat → Int32} {n nx : RKT} {hs wc ev mv s mev mmv ic um a1 a2 a3 a4 a5 : Int32} (h : SR F parts n hist hs wc ev mv st mV mT mW mR mN mH s mev mmv ic u um) :
    ∃ F' r parts' n' nx' b1 b2 b3 b4 b5 hs' wc' ev' mv' st' a b w e m k s' v1 v2 v3 mev' mmv' ic' um' g', fX7_undo parts n nx a1 a2 a3 a4 a5 hist hs wc ev mv = some (r, parts', n', nx', b1, b2, b3, b4, b5, hs', wc', ev', mv') ∧ fX8_undo st mV mT mW mR mN mH s ov ot or' mev mmv ic u um g = some (r, st', a, b, w, e, m, k, s', v1, v2, v3, mev', mmv', ic', um', g') ∧ SR F' parts' n' hist hs' wc' ev' mv' st' a b w e m k s' mev' mmv' ic' u um' ∧ ∀ k, 120 ≤ k → st' k = st k := by
  have h' := h
  obtain ⟨hF, hC, hP, hN, hS, ⟨N, rfl, rfl, hH⟩, rfl, hw, rfl, rfl⟩ := h'
  unfold fX7_undo fX8_undo
  by_cases e0 : N = 0
  · subst e0
    rw [if_pos (show nI 0 = 0 from rfl), if_pos (show nI 0 = 0 from rfl)]
    exact ⟨F, _, _, _, _, _, _, _, _, _, _, _, _, _, _, _, _, _, _, _, _, _, _, _, _, _, _, _, _, _, rfl, rfl, h, fun _ _ => rfl⟩
  · obtain ⟨i1, i2, i3⟩ := hH
    have hne : ¬ nI N = 0 := fun z => e0 (nI_inj (b := 0) z (by omega) (by omega))
    obtain ⟨c, f, hc, hf, d0, d1, d2, d3, d4⟩ := i3 (N - 1) (by omega)
    have hsub : nI N - 1 = nI (N - 1) := pk_sub (a := N) (b := 1) (by omega)
    have hm5 : nI (N - 1) * 5 = nI (5 * (N - 1)) := by rw [show (5 : Int32) = nI 5 from rfl, pk_mul, Nat.mul_comm]
    have h5m : 5 * nI (N - 1) = nI (5 * (N - 1)) := by rw [show (5 : Int32) = nI 5 from rfl, pk_mul]
    have hpop : fX2_popInto hist (nI N) a1 a2 a3 a4 a5 = some (nI (N - 1), nI c, nI f.1, nI f.2.1, nI f.2.2.1, nI f.2.2.2) := by
      unfold fX2_popInto fX0_tell
      rw [if_neg hne, hsub, hm5, rdN (by omega) (by omega), rdC (nI (5 * (N - 1)) + 1) (5 * (N - 1) + 1) (nI_add _ 1) (by omega) (by omega), rdC (nI (5 * (N - 1)) + 2) (5 * (N - 1) + 2) (nI_add _ 2) (by omega) (by omega), rdC (nI (5 * (N - 1)) + 3) (5 * (N - 1) + 3) (nI_add _ 3) (by omega) (by omega), rdC (nI (5 * (N - 1)) + 4) (5 * (N - 1) + 4) (nI_add _ 4) (by omega) (by omega), d0, d1, d2, d3, d4, bd5_e]
    have hA := AF_of hc hf
    obtain ⟨parts', n', x, m1, m2, m3, m4⟩ := c_make (nx := nx) (wc := wc) (ev := ev) (mv := mv) hC hF hN hA
    rw [if_neg hne, if_neg hne, hpop, bd6_e, m1, bd7_e, hsub]
    refine fr1 (fX8_undo_b22 u st mV mT mW mR mN mH s ov ot or' ev mv wc (nI (N - 1))) 4 (fun t x => ∀ j, j < t → x j = u (5 * (N - 1) + 1 + j)) (fun r8 => ∃ F' r parts'_1 n'_1 nx' b1 b2 b3 b4 b5 hs' wc' ev' mv' st' a b w e m k s' v1 v2 v3 mev' mmv' ic' um' g', some (nI (pop (rdF (rkR n) x ||| bI c)), parts', n', n, nI c, nI f.1, nI f.2.1, nI f.2.2.1, nI f.2.2.2, nI (N - 1), (1 : Int32), rdF (rkR n) x ||| bI c, x) = some (r, parts'_1, n'_1, nx', b1, b2, b3, b4, b5, hs', wc', ev', mv') ∧ r8 = some (r, st', a, b, w, e, m, k, s', v1, v2, v3, mev', mmv', ic', um', g') ∧ SR F' parts'_1 n'_1 hist hs' wc' ev' mv' st' a b w e m k s' mev' mmv' ic' u um' ∧ ∀ k, 120 ≤ k → st' k = st k) (by omega) ?_ ?_ fu 0 g (by omega) (by unfold fu; omega) (fun j hj => by omega)
    · intro self t y ht hI hself
      unfold fX8_undo_b22
      rw [if_neg (show ¬ (4 : Int32) ≤ nI t from nI_ge (b := 4) ht (by omega)), h5m, rdC (nI (5 * (N - 1)) + 1 + nI t) (5 * (N - 1) + 1 + t) (by rw [nI_1, nI_add]) (by omega) (by omega), wrN ht (by omega), nI_1]
      refine hself _ (fun j hj => ?_)
      by_cases z : j = t
      · rw [z, us]
      · rw [un _ _ z]; exact hI j (by omega)
    · intro self y hI
      have hg : FM f y := ⟨by rw [hI 0 (by omega), ← i2 _ (by omega)]; exact d1, by rw [hI 1 (by omega), ← i2 _ (by omega)]; exact d2, by rw [hI 2 (by omega), ← i2 _ (by omega)]; exact d3, by rw [hI 3 (by omega), ← i2 _ (by omega)]; exact d4⟩
      obtain ⟨st', a, b, w, e, m, k, v1, v2, v3, c1, c2, c3, c4⟩ := m_changes (ov := ov) (ot := ot) (or' := or') (ev0 := ev) (mv0 := mv) hP hF hS hg hf hc (RB_of hN.1) m4
      unfold fX8_undo_b22
      rw [if_pos (show (4 : Int32) ≤ nI 4 by decide), h5m, rdN (by omega) (by omega), ← i2 _ (by omega), d0, c1, bd13_e, m_bitsOf (ev_hi hF hN hc), bd1_e]
      exact ⟨up F c f, _, _, _, _, _, _, _, _, _, _, _, _, _, _, _, _, _, _, _, _, _, _, _, _, _, _, _, _, _, rfl, rfl, ⟨VFs_up hF hf, m2, c2, m3, Or.inr ⟨rfl, c4⟩, ⟨N - 1, rfl, rfl, by omega, fun k hk => i2 k (by omega), fun i hi => i3 i (by omega)⟩, rfl, Or.inr rfl, rfl, rfl⟩, c3⟩
