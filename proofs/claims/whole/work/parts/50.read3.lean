/-! READ: side by side -/
def pick (i : Nat) (t0 t1 t2 t3 : Nat → Int32) : Nat → Int32 := if i = 0 then t0 else if i = 1 then t1 else if i = 2 then t2 else t3
theorem c_b117 {t0 t1 t2 t3 : Nat → Int32} {l0 z0 l1 z1 l2 z2 l3 z3 : Int32} {i C t : Nat} {p2 p3 p4 tn l6 : Int32} (hi : i < 4) (ht : t < C) (hC : C ≤ 8) (self) (parts : Nat → Int32) (n nx : RKT) (a1 a2 a3 a4 a5 x1 x2 x3 x4 x5 : Int32) (hist : Nat → Int32) (hs wc ev mv : Int32) : fX7_read_b117 t0 l0 z0 t1 l1 z1 t2 l2 z2 t3 l3 z3 (nI i) p2 p3 p4 tn (nI C) l6 self parts n nx a1 a2 a3 a4 a5 x1 x2 x3 x4 x5 hist hs wc ev mv (nI t) = bd5 (fX4_askFrom (pick i t0 t1 t2 t3) a1 a2 a3 a4 a5 (p3 + 5 * nI t)) fun c1 c2 c3 c4 c5 => bd7 (fX7_remember parts c1 x1 x2 x3 x4 x5 hist hs) fun y1 y2 y3 y4 y5 h' hs' => bd7 (fX7_make parts n nx c1 c2 c3 c4 c5 wc ev mv) fun r parts' n' nx' wc' ev' mv' => self parts' n' nx' c1 c2 c3 c4 c5 y1 y2 y3 y4 y5 h' hs' wc' ev' mv' (nI (t + 1)) := by
  unfold fX7_read_b117
  rw [if_neg (nI_ge ht (by omega)), nI_1]
  have hi4 : i = 0 ∨ i = 1 ∨ i = 2 ∨ i = 3 := by omega
  rcases hi4 with rfl | rfl | rfl | rfl
  · rw [if_pos (show nI 0 = 0 from rfl)]; rfl
  · rw [if_neg (show ¬ nI 1 = 0 by decide), if_pos (show nI 1 = 1 from rfl)]; rfl
  · rw [if_neg (show ¬ nI 2 = 0 by decide), if_neg (show ¬ nI 2 = 1 by decide), if_pos (show nI 2 = 2 from rfl)]; rfl
  · rw [if_neg (show ¬ nI 3 = 0 by decide), if_neg (show ¬ nI 3 = 1 by decide), if_neg (show ¬ nI 3 = 2 by decide), if_pos (show nI 3 = 3 from rfl)]; rfl
theorem read_j {t0 t1 t2 t3 la le mi : Nat → Int32} {l0 z0 l1 z1 l2 z2 l3 z3 : Int32} {i L Z B P C : Nat} {p2 p4 tn tn2 l6 iac : Int32} {ua : Nat → Int32} (hi : i < 4) (hit : ∀ k, k < 40 → pick i t0 t1 t2 t3 k = mi (40 * i + k)) (hl : la i = nI L) (hL : L < 3) (hz : le i = nI Z) (hZ : Z ≤ 40) (hP : P ≤ 8) (hCP : C ≤ P) (hok : ∀ t, t < C → B + 5 * t + 4 < Z ∧ ∃ c f, AF c f (mi (40 * i + (B + 5 * t))) (mi (40 * i + (B + 5 * t + 1))) (mi (40 * i + (B + 5 * t + 2))) (mi (40 * i + (B + 5 * t + 3))) (mi (40 * i + (B + 5 * t + 4)))) :
    ∀ (r t : Nat), r + t = C → ∀ (k1 k2 : Nat), r < k1 → ∀ (F : Fo) (parts hist st mV mT mW mR mN mH u g ov ot or' : Nat → Int32) (n nx : RKT) (hs wc ev mv s mev mmv ic um a1 a2 a3 a4 a5 x1 x2 x3 x4 x5 : Int32), SR F parts n hist hs wc ev mv st mV mT mW mR mN mH s mev mmv ic u um →
    ∃ F' parts' n' nx' b1 b2 b3 b4 b5 y1 y2 y3 y4 y5 hist' hs' wc' ev' mv' st' a b w e m k s' v1 v2 v3 mev' mmv' ic' u' um' g', lq19 (fX7_read_b117 t0 l0 z0 t1 l1 z1 t2 l2 z2 t3 l3 z3 (nI i) p2 (nI B) p4 tn (nI C) l6) k1 parts n nx a1 a2 a3 a4 a5 x1 x2 x3 x4 x5 hist hs wc ev mv (nI t) = some (nI C, parts', n', nx', b1, b2, b3, b4, b5, y1, y2, y3, y4, y5, hist', hs', wc', ev', mv', l6) ∧ lq20 (fX8_read_b52 la le mi (nI i) (nI L) (nI B) (nI P) ua tn2 iac) (k2 + 5 * r) st mV mT mW mR mN mH s ov ot or' mev mmv ic u um g 0 (nI t) (nI (5 * t)) = lq20 (fX8_read_b52 la le mi (nI i) (nI L) (nI B) (nI P) ua tn2 iac) k2 st' a b w e m k s' v1 v2 v3 mev' mmv' ic' u' um' g' 0 (nI C) (nI (5 * C)) ∧ SR F' parts' n' hist' hs' wc' ev' mv' st' a b w e m k s' mev' mmv' ic' u' um' ∧ ∀ k, 120 ≤ k → st' k = st k := by
  intro r
  induction r with
  | zero =>
    intro t ht k1 k2 hk1 F parts hist st mV mT mW mR mN mH u g ov ot or' n nx hs wc ev mv s mev mmv ic um a1 a2 a3 a4 a5 x1 x2 x3 x4 x5 h
    obtain ⟨k1, rfl⟩ : ∃ k', k1 = k' + 1 := ⟨k1 - 1, by omega⟩
    have htC : t = C := by omega
    subst htC
    rw [lq19_s]
    unfold fX7_read_b117
    rw [if_pos (nI_le (Nat.le_refl _) (by omega))]
    exact ⟨F, _, _, _, _, _, _, _, _, _, _, _, _, _, _, _, _, _, _, _, _, _, _, _, _, _, _, _, _, _, _, _, _, _, _, _, rfl, rfl, h, fun _ _ => rfl⟩
  | succ r ih =>
    intro t ht k1 k2 hk1 F parts hist st mV mT mW mR mN mH u g ov ot or' n nx hs wc ev mv s mev mmv ic um a1 a2 a3 a4 a5 x1 x2 x3 x4 x5 h
    obtain ⟨k1, rfl⟩ : ∃ k', k1 = k' + 1 := ⟨k1 - 1, by omega⟩
    obtain ⟨hb, c, f, hA⟩ := hok t (by omega)
    have hx : nI B + 5 * nI t = nI (B + 5 * t) := by rw [show (5 : Int32) * nI t = nI (5 * t) from pk_mul 5 t, nI_add]
    have hp1 : ∀ y, y < 5 → pick i t0 t1 t2 t3 (B + 5 * t + y) = mi (40 * i + (B + 5 * t + y)) := fun y hy => hit _ (by omega)
    obtain ⟨y1, y2, y3', y4', y5', hist', hs', r', parts', n', ev', mv', g', st', a, b, w, e, m, k, v1, v2, v3, u', o1, o2, o3, o4, o5⟩ := s_put2 (nx := nx) (x1 := x1) (x2 := x2) (x3 := x3) (x4 := x4) (x5 := x5) (g := g) (ov := ov) (ot := ot) (or' := or') h hA hA
    have hr0 : (0 : Int32) ≤ r' := by
      obtain ⟨hF, hC, hP0, hN, hS, hH, q3, hw, q4, q5⟩ := h
      obtain ⟨pp, nn, x, m1, _⟩ := c_make (nx := nx) (wc := wc) (ev := ev) (mv := mv) hC hF hN hA
      rw [m1] at o2
      have : r' = nI (pop (rdF (rkR n) x ||| bI c)) := (congrArg Prod.fst (Option.some.inj o2)).symm
      rw [this]
      exact nI_le (a := 0) (Nat.zero_le _) (by have := pop_le (rdF (rkR n) x ||| bI c); omega)
    have hm5 := m_read5 (mi := mi) (st := st) (mV := mV) (mT := mT) (mW := mW) (mR := mR) (mN := mN) (mH := mH) (ov := ov) (ot := ot) (or' := or') (u := u) (ua := ua) (g := g) (k := k2 + 5 * r) (s := s) (ev := mev) (mv := mmv) (ic := ic) (um := um) (tn := tn2) (iac := iac) (l6 := nI t) hi hl hL hz hZ hb (show t < P by omega) hP
    rw [o3, bd18_e, if_pos hr0, nI_1] at hm5
    rw [lq19_s, c_b117 hi (by omega) (by omega), hx, c_askFrom (by omega), bd5_e, show B + 5 * t = B + 5 * t + 0 from rfl, hp1 0 (by omega), hp1 1 (by omega), hp1 2 (by omega), hp1 3 (by omega), hp1 4 (by omega), show mi (40 * i + (B + 5 * t + 0)) = mi (40 * i + (B + 5 * t)) from rfl, o1, bd7_e, o2, bd7_e, show k2 + 5 * (r + 1) = k2 + 5 * r + 5 by omega, hm5, show 5 * t + 5 = 5 * (t + 1) by omega]
    obtain ⟨F', parts2, n2, nx2, b1, b2, b3, b4, b5, y21, y22, y23, y24, y25, hist2, hs2, wc2, ev2, mv2, st2, a', b', w', e', m', k', s', v1', v2', v3', mev', mmv', ic', u2, um', g2, i1, i2, i3, i4⟩ := ih (t + 1) (by omega) k1 k2 (by omega) (up F c f) parts' hist' st' a b w e m k u' g' v1 v2 v3 n' n hs' 1 ev' mv' 1 ev' mv' 1 hs' _ _ _ _ _ y1 y2 y3' y4' y5' o4
    exact ⟨F', parts2, n2, nx2, b1, b2, b3, b4, b5, y21, y22, y23, y24, y25, hist2, hs2, wc2, ev2, mv2, st2, a', b', w', e', m', k', s', v1', v2', v3', mev', mmv', ic', u2, um', g2, i1, i2, i3, fun k hk => (i4 k hk).trans (o5 k hk)⟩
