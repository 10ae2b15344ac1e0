/-! READ: put together -/
theorem in_P3 {p3 : Int32} {Z : Nat} (hZ : Z ≤ 40) (h : ¬ (0 ≤ p3.toInt ∧ p3.toInt < (Z : Int))) : fX8_in (p3.toInt64 + (0 : Int32).toInt64) 0 (nI Z - 1).toInt64 = some 0 := by
  have hz : (nI Z - 1).toInt = (Z : Int) - 1 := pk_sub_toInt (a := Z) (b := 1) (by omega) (by omega)
  rw [f_in, Int64.toInt_add, to64, to64, to64, hz, show (0 : Int64).toInt = 0 from rfl, show (0 : Int32).toInt = 0 from rfl, Int.add_zero, bm64 (Int32.le_toInt p3) (Int32.toInt_lt p3), if_neg (by omega)]
theorem m_rf1 {la le mi st mV mT mW mR mN mH ov ot or' u ua g : Nat → Int32} {i L Z P k : Nat} {p3 l s ev mv ic um tn iac l6 : Int32} (hi : i < 4) (hl : LN l (la i)) (hL : L < 3) (hz : le i = nI Z) (hZ : Z ≤ 40) (hf : fA l Z (nI L) p3.toInt ≠ 0) (h0 : 0 < P) (hP : P ≤ 8) :
    lq20 (fX8_read_b52 la le mi (nI i) (nI L) p3 (nI P) ua tn iac) (k + 1 + 1) st mV mT mW mR mN mH s ov ot or' ev mv ic u um g 0 l6 0 = some (l6, st, mV, mT, mW, mR, mN, mH, s, ov, ot, or', ev, mv, ic, u, um, ua, g, nI (fA l Z (nI L) p3.toInt), iac) := by
  have fin1 : ∀ f x : Int32, f ≠ 0 → lq20 (fX8_read_b52 la le mi (nI i) (nI L) p3 (nI P) ua tn iac) (k + 1) st mV mT mW mR mN mH s ov ot or' ev mv ic u um g f l6 x = some (l6, st, mV, mT, mW, mR, mN, mH, s, ov, ot, or', ev, mv, ic, u, um, ua, g, f, iac) := fun f x hx => by
    rw [lq20_s]
    unfold fX8_read_b52 fX8_read_j220
    rw [if_neg hx]
    split <;> rfl
  have hq : ¬ (5 : Int32) * nI P ≤ 0 := by rw [show (5 : Int32) * nI P = nI (5 * P) from pk_mul 5 P]; exact nI_ge (a := 0) (by omega) (by omega)
  rw [lq20_s]
  generalize lq20 (fX8_read_b52 la le mi (nI i) (nI L) p3 (nI P) ua tn iac) (k + 1) = self at *
  unfold fX8_read_b52 fX8_read_j126 fX8_read_j214
  rw [if_neg hq, if_pos (show (0 : Int32) = 0 from rfl), rdN hi (by omega)]
  rcases hl with ⟨rfl, hla⟩ | ⟨K, hK, rfl, hla⟩
  · rw [hla, if_pos rfl, if_neg (show ¬ (1 : Int32) = 0 by decide), show fA (-1) Z (nI L) p3.toInt = 1 from if_pos rfl]
    exact fin1 1 _ (by decide)
  · rw [hla, if_neg (nI_ne_m4 (by omega)), rdN hi (by omega), hla]
    by_cases e : K = L
    · subst e
      have hb : ¬ (0 ≤ p3.toInt ∧ p3.toInt < (Z : Int)) := fun z => hf (by unfold fA; rw [if_neg (nI_ne_m1 (by omega)), if_pos rfl, if_pos z])
      rw [if_pos rfl, rdN hi (by omega), hz, in_P3 hZ hb, bd1_e, if_pos (show (0 : Int32) = 0 from rfl), if_neg (show ¬ (2 : Int32) = 0 by decide), show fA (nI K) Z (nI K) p3.toInt = 2 by unfold fA; rw [if_neg (nI_ne_m1 (by omega)), if_pos rfl, if_neg hb]]
      exact fin1 2 _ (by decide)
    · have hne : ¬ nI K = nI L := fun z => e (nI_inj z (by omega) (by omega))
      rw [if_neg hne, if_neg (show ¬ (3 : Int32) = 0 by decide), show fA (nI K) Z (nI L) p3.toInt = 3 by unfold fA; rw [if_neg (nI_ne_m1 (by omega)), if_neg hne]]
      exact fin1 3 _ (by decide)
theorem RW_pick {i : Nat} {t0 t1 t2 t3 la le mi : Nat → Int32} {l0 z0 l1 z1 l2 z2 l3 z3 : Int32} (hi : i < 4) (h : RW4 t0 l0 z0 t1 l1 z1 t2 l2 z2 t3 l3 z3 la le mi) : RW i (pick i t0 t1 t2 t3) (pickI i l0 l1 l2 l3) (pickI i z0 z1 z2 z3) la le mi := by
  obtain ⟨w0, w1, w2, w3⟩ := h
  have hi4 : i = 0 ∨ i = 1 ∨ i = 2 ∨ i = 3 := by omega
  rcases hi4 with rfl | rfl | rfl | rfl
  · exact w0
  · exact w1
  · exact w2
  · exact w3
theorem SR_st {F : Fo} {parts hist st st' mV mT mW mR mN mH u : Nat → Int32} {n : RKT} {hs wc ev mv s mev mmv ic um : Int32} (h : SR F parts n hist hs wc ev mv st mV mT mW mR mN mH s mev mmv ic u um) (hk : ∀ k, k < 120 → st' k = st k) : SR F parts n hist hs wc ev mv st' mV mT mW mR mN mH s mev mmv ic u um := by
  obtain ⟨hF, hC, hP, hN, hS, hH, q3, hw, q4, q5⟩ := h
  exact ⟨hF, hC, PM_of hP (fun k h9 => hk (0 + k) (by omega)), hN, hS, hH, q3, hw, q4, q5⟩
theorem read_core {F : Fo} {parts hist st mV mT mW mR mN mH u ua g ov ot or' t0 t1 t2 t3 la le mi : Nat → Int32} {n nx : RKT} {hs wc ev mv s mev mmv ic um a1 a2 a3 a4 a5 x1 x2 x3 x4 x5 l0 z0 l1 z1 l2 z2 l3 z3 tn iac : Int32} {i L P : Nat} (p3 : Int32) (hi : i < 4) (hL : L < 3) (hP : P ≤ 8) (h : SR F parts n hist hs wc ev mv st mV mT mW mR mN mH s mev mmv ic u um) (hW : RW4 t0 l0 z0 t1 l1 z1 t2 l2 z2 t3 l3 z3 la le mi) :
    ∃ F' r parts' n' nx' b1 b2 b3 b4 b5 y1 y2 y3 y4 y5 hist' hs' wc' ev' mv' tn' st' a b w e m k s' v1 v2 v3 mev' mmv' ic' u' um' ua' g' iac', lq7 (fX7_read_b38 t0 l0 z0 t1 l1 z1 t2 l2 z2 t3 l3 z3 (nI i) (nI L) p3 (nI P) parts n nx x1 x2 x3 x4 x5 hist hs wc ev mv tn) fu a1 a2 a3 a4 a5 0 0 = some (r, parts', n', nx', b1, b2, b3, b4, b5, y1, y2, y3, y4, y5, hist', hs', wc', ev', mv', tn') ∧ (bd3 (fX8_setsAside st mev mmv ic u um ua iac) fun c40_state c40_undoAside c40_isAsideChanged => lq20 (fX8_read_b52 la le mi (nI i) (nI L) p3 (nI P) c40_undoAside tn c40_isAsideChanged) fu c40_state mV mT mW mR mN mH s ov ot or' mev mmv ic u um g 0 0 0) = some (r, st', a, b, w, e, m, k, s', v1, v2, v3, mev', mmv', ic', u', um', ua', g', tn', iac') ∧ SR F' parts' n' hist' hs' wc' ev' mv' st' a b w e m k s' mev' mmv' ic' u' um' ∧ ∀ k, 120 ≤ k → k < 480 → st' k = st k := by
  have h' := h
  obtain ⟨hF, hC, hP0, hN, hS, ⟨N, rfl, rfl, hH⟩, rfl, hw, rfl, rfl⟩ := h'
  obtain ⟨st1, ua1, e1, e2, e3, e4, e5, e6, e7⟩ := m_setsAside (st := st) (u := u) (ua := ua) (ev := ev) (mv := mv) (ic := wc) (um := nI N) (iac := iac) hw
  rw [e1, bd3_e]
  have h1 := SR_st (st' := st1) h (fun k hk => e3 k (by omega))
  obtain ⟨wl, wz, ⟨Z, hZ, wZ⟩, wi⟩ := RW_pick hi hW
  have hle : le i = nI Z := by rw [← wz, wZ]
  by_cases hp : P = 0
  · subst hp
    rw [show fu = 999 + 1 from rfl, lq7_s, lq20_s]
    unfold fX7_read_b38 fX7_read_j114 fX8_read_b52 fX8_read_j220
    rw [if_pos (show nI 0 ≤ 0 by decide), if_pos (show (5 : Int32) * nI 0 ≤ 0 by decide), show fu = 999 + 1 from rfl, lq19_s]
    unfold fX7_read_b117
    rw [if_pos (show (0 : Int32) ≤ 0 by decide)]
    exact ⟨F, _, _, _, _, _, _, _, _, _, _, _, _, _, _, _, _, _, _, _, _, _, _, _, _, _, _, _, _, _, _, _, _, _, _, _, _, _, _, _, rfl, rfl, h1, fun k a b => e3 k (by omega)⟩
  · by_cases hf : fA (pickI i l0 l1 l2 l3) Z (nI L) p3.toInt = 0
    · have hll : pickI i l0 l1 l2 l3 = nI L ∧ 0 ≤ p3.toInt ∧ p3.toInt < (Z : Int) := by
        unfold fA at hf
        split at hf
        · omega
        · split at hf
          · rename_i q
            split at hf
            · rename_i q2
              exact ⟨q, q2⟩
            · omega
          · omega
      obtain ⟨hl, hb0, hb1⟩ := hll
      obtain ⟨B, hB, rfl⟩ : ∃ B, B < Z ∧ p3 = nI B := ⟨p3.toInt.toNat, by omega, Int32.toInt_inj.mp (by rw [nI_toInt (by omega)]; omega)⟩
      have hla : la i = nI L := by
        rcases wl with ⟨q1, _⟩ | ⟨K, hK, q1, q2⟩
        · rw [hl] at q1; exact absurd q1 (nI_ne_m1 (by omega))
        · rw [q2, ← q1, hl]
      obtain ⟨C, hCP, hRC, hend⟩ := read_C mi i B Z P
      obtain ⟨F', parts', n', nx', b1, b2, b3, b4, b5, y1, y2, y3, y4, y5, hist', hs', wc', ev', mv', st', a, b, w, e, m, k, s', v1, v2, v3, mev', mmv', ic', u', um', g', _, j2, j3, j4⟩ := read_j (t0 := t0) (t1 := t1) (t2 := t2) (t3 := t3) (l0 := l0) (z0 := z0) (l1 := l1) (z1 := z1) (l2 := l2) (z2 := z2) (l3 := l3) (z3 := z3) (p2 := nI L) (p4 := nI P) (tn := tn) (tn2 := tn) (l6 := 0) (iac := wc) (ua := ua1) hi wi hla hL hle hZ hP hCP hRC C 0 (by omega) fu (fu - 5 * C) (by unfold fu; omega) F parts hist st1 mV mT mW mR mN mH u g ov ot or' n nx (nI N) wc ev mv s ev mv wc (nI N) a1 a2 a3 a4 a5 x1 x2 x3 x4 x5 h1
      have hfu : fu - 5 * C + 5 * C = fu := by unfold fu; omega
      rw [hfu] at j2
      rw [show lq20 (fX8_read_b52 la le mi (nI i) (nI L) (nI B) (nI P) ua1 tn wc) fu st1 mV mT mW mR mN mH s ov ot or' ev mv wc u (nI N) g 0 0 0 = _ from j2]
      obtain ⟨c1, c2, c3, c4, c5, k1, k2, k3⟩ := c_look (t0 := t0) (t1 := t1) (t2 := t2) (t3 := t3) (mi := mi) (l0 := l0) (z0 := z0) (l1 := l1) (z1 := z1) (l2 := l2) (z2 := z2) (l3 := l3) (z3 := z3) (tn := tn) (parts := parts) (hist := hist) (n := n) (nx := nx) (x1 := x1) (x2 := x2) (x3 := x3) (x4 := x4) (x5 := x5) (hs := nI N) (wc := wc) (ev := ev) (mv := mv) hi wi hl hL wZ hZ (show B < 40 by omega) hP hCP hRC C 0 (by omega) fu (by unfold fu; omega) a1 a2 a3 a4 a5
      rcases hend with hend | ⟨n1, n2⟩ | ⟨n1, n2, n3⟩
      · subst hend
        rw [show lq7 (fX7_read_b38 t0 l0 z0 t1 l1 z1 t2 l2 z2 t3 l3 z3 (nI i) (nI L) (nI B) (nI C) parts n nx x1 x2 x3 x4 x5 hist (nI N) wc ev mv tn) fu a1 a2 a3 a4 a5 0 0 = _ from k1 rfl]
        unfold fX7_read_j114
        obtain ⟨F', parts', n', nx', b1, b2, b3, b4, b5, y1, y2, y3, y4, y5, hist', hs', wc', ev', mv', st', a, b, w, e, m, k, s', v1, v2, v3, mev', mmv', ic', u', um', g', j1, j2', j3, j4⟩ := read_j (t0 := t0) (t1 := t1) (t2 := t2) (t3 := t3) (l0 := l0) (z0 := z0) (l1 := l1) (z1 := z1) (l2 := l2) (z2 := z2) (l3 := l3) (z3 := z3) (p2 := nI L) (p4 := nI C) (tn := tn) (tn2 := tn) (l6 := 0) (iac := wc) (ua := ua1) hi wi hla hL hle hZ hP hCP hRC C 0 (by omega) fu (fu - 5 * C) (by unfold fu; omega) F parts hist st1 mV mT mW mR mN mH u g ov ot or' n nx (nI N) wc ev mv s ev mv wc (nI N) c1 c2 c3 c4 c5 x1 x2 x3 x4 x5 h1
        rw [hfu] at j2'
        rw [← j2, j2', show fu - 5 * C = (fu - 5 * C - 1) + 1 by unfold fu; omega, m_rend hP]
        exact ⟨F', _, _, _, _, _, _, _, _, _, _, _, _, _, _, _, _, _, _, _, _, _, _, _, _, _, _, _, _, _, _, _, _, _, _, _, _, _, _, _, j1, rfl, j3, fun k x1 x2 => (j4 k x1).trans (e3 k (by omega))⟩
      · rw [show lq7 (fX7_read_b38 t0 l0 z0 t1 l1 z1 t2 l2 z2 t3 l3 z3 (nI i) (nI L) (nI B) (nI P) parts n nx x1 x2 x3 x4 x5 hist (nI N) wc ev mv tn) fu a1 a2 a3 a4 a5 0 0 = _ from k2 n1 n2]
        unfold fX7_read_j114
        obtain ⟨F', parts', n', nx', b1, b2, b3, b4, b5, y1, y2, y3, y4, y5, hist', hs', wc', ev', mv', st', a, b, w, e, m, k, s', v1, v2, v3, mev', mmv', ic', u', um', g', j1, j2', j3, j4⟩ := read_j (t0 := t0) (t1 := t1) (t2 := t2) (t3 := t3) (l0 := l0) (z0 := z0) (l1 := l1) (z1 := z1) (l2 := l2) (z2 := z2) (l3 := l3) (z3 := z3) (p2 := nI L) (p4 := nI P) (tn := tn) (tn2 := tn) (l6 := 2) (iac := wc) (ua := ua1) hi wi hla hL hle hZ hP hCP hRC C 0 (by omega) fu (fu - 5 * C) (by unfold fu; omega) F parts hist st1 mV mT mW mR mN mH u g ov ot or' n nx (nI N) wc ev mv s ev mv wc (nI N) c1 c2 c3 c4 c5 x1 x2 x3 x4 x5 h1
        rw [hfu] at j2'
        rw [← j2, j2', show fu - 5 * C = (fu - 5 * C - 6) + 4 + 1 + 1 by unfold fu; omega, show 5 * C = 5 * C + 0 from rfl, m_rfaultF hi hla hL hle hZ (show B < 40 by omega) hP n1 4 0 (fu - (5 * C + 0) - 6) rfl (by omega)]
        exact ⟨F', _, _, _, _, _, _, _, _, _, _, _, _, _, _, _, _, _, _, _, _, _, _, _, _, _, _, _, _, _, _, _, _, _, _, _, _, _, _, _, j1, rfl, j3, fun k x1 x2 => (j4 k x1).trans (e3 k (by omega))⟩
      · rw [show lq7 (fX7_read_b38 t0 l0 z0 t1 l1 z1 t2 l2 z2 t3 l3 z3 (nI i) (nI L) (nI B) (nI P) parts n nx x1 x2 x3 x4 x5 hist (nI N) wc ev mv tn) fu a1 a2 a3 a4 a5 0 0 = _ from k3 n1 n2 n3]
        have hP480 : PM F st' 480 := PM_of hP0 (fun k hk => (j4 (480 + k) (by omega)).trans (e2 k hk))
        obtain ⟨st2, a', b', w', e', m', k', u2, g1, g2, g3, g4, g5⟩ := m_getsAside (mV := a) (mT := b) (mW := w) (mR := e) (mN := m) (mH := k) (u := u') (ua := ua1) (ev := mev') (mv := mmv') (ic := ic') (um := um') (iac := wc) hP480 hF hw
        rw [show fu - 5 * C = (fu - 5 * C - 5) + 5 by unfold fu; omega, m_read5 hi hla hL hle hZ n2 n1 hP]
        unfold fX8_putsFormula
        rw [n3.2, bd1_e, if_pos (show (0 : Int32) = 0 from rfl), bd18_e, if_neg (show ¬ (0 : Int32) ≤ -1 by decide), g1, bd12_e, e5, e6, e7]
        refine ⟨F, _, _, _, _, _, _, _, _, _, _, _, _, _, _, _, _, _, _, _, _, _, _, _, _, _, _, _, _, _, _, _, _, _, _, _, _, _, _, _, rfl, rfl, ⟨hF, hC, g2, hN, ?_, ⟨N, rfl, rfl, hH.1, fun k hk => ?_, hH.2.2⟩, rfl, hw, rfl, rfl⟩, fun k x1 x2 => (g3 k x1).trans ((j4 k x1).trans (e3 k (by omega)))⟩
        · rcases j3.2.2.2.2.1 with q | ⟨q, _⟩
          · exact Or.inl q
          · exact Or.inr ⟨q, g4⟩
        · have := hH.1
          rw [hH.2.1 k hk, g5 k (by omega), e4 k (by omega)]
    · have hne : ¬ nI (fA (pickI i l0 l1 l2 l3) Z (nI L) p3.toInt) = 0 := fun z => hf (nI_inj (b := 0) z (by unfold fA; (repeat' split) <;> omega) (by omega))
      rw [show lq20 (fX8_read_b52 la le mi (nI i) (nI L) p3 (nI P) ua1 tn wc) fu st1 mV mT mW mR mN mH s ov ot or' ev mv wc u (nI N) g 0 0 0 = _ from m_rf1 (k := 998) hi wl hL hle hZ hf (by omega) hP]
      rw [show fu = 998 + 1 + 1 from rfl, lq7_s, show fX7_read_b38 t0 l0 z0 t1 l1 z1 t2 l2 z2 t3 l3 z3 (nI i) (nI L) p3 (nI P) parts n nx x1 x2 x3 x4 x5 hist (nI N) wc ev mv tn (lq7 (fX7_read_b38 t0 l0 z0 t1 l1 z1 t2 l2 z2 t3 l3 z3 (nI i) (nI L) p3 (nI P) parts n nx x1 x2 x3 x4 x5 hist (nI N) wc ev mv tn) (998 + 1)) a1 a2 a3 a4 a5 0 0 = _ from c_b38 (t := 0) hi (by omega) hP _ _ _ _ _ _ _ _ _ _ _ _ _ _ _ _ _ _ _, show p3 + 5 * nI 0 = p3 from Int32.add_zero p3, wZ, c_foc1 hZ hf, bd1_e, if_neg hne, lq7_s]
      unfold fX7_read_b38 fX7_read_j114
      rw [if_neg (nI_ge (show 0 < P by omega) (by omega)), if_neg hne, show fu = 999 + 1 from rfl, lq19_s]
      unfold fX7_read_b117
      rw [if_pos (show nI 0 ≤ 0 by decide)]
      exact ⟨F, _, _, _, _, _, _, _, _, _, _, _, _, _, _, _, _, _, _, _, _, _, _, _, _, _, _, _, _, _, _, _, _, _, _, _, _, _, _, _, rfl, rfl, h1, fun k a b => e3 k (by omega)⟩
theorem q_read {F : Fo} {parts hist st mV mT mW mR mN mH u ua g ov ot or' t0 t1 t2 t3 la le mi : Nat → Int32} {n nx : RKT} {hs wc ev mv s mev mmv ic um a1 a2 a3 a4 a5 x1 x2 x3 x4 x5 l0 z0 l1 z1 l2 z2 l3 z3 tn iac : Int32} (p1 p2 p3 p4 : Int32) (h : SR F parts n hist hs wc ev mv st mV mT mW mR mN mH s mev mmv ic u um) (hW : RW4 t0 l0 z0 t1 l1 z1 t2 l2 z2 t3 l3 z3 la le mi) :
    ∃ F' r parts' n' nx' b1 b2 b3 b4 b5 y1 y2 y3 y4 y5 hist' hs' wc' ev' mv' tn' st' a b w e m k s' v1 v2 v3 mev' mmv' ic' u' um' ua' g' iac', fX7_read parts n nx a1 a2 a3 a4 a5 x1 x2 x3 x4 x5 hist hs t0 l0 z0 t1 l1 z1 t2 l2 z2 t3 l3 z3 wc ev mv tn p1 p2 p3 p4 = some (r, parts', n', nx', b1, b2, b3, b4, b5, y1, y2, y3, y4, y5, hist', hs', wc', ev', mv', tn') ∧ fX8_read st mV mT mW mR mN mH s ov ot or' mev mmv ic u um ua g la le mi tn iac p1 p2 p3 p4 = some (r, st', a, b, w, e, m, k, s', v1, v2, v3, mev', mmv', ic', u', um', ua', g', tn', iac') ∧ SR F' parts' n' hist' hs' wc' ev' mv' st' a b w e m k s' mev' mmv' ic' u' um' ∧ ∀ k, 120 ≤ k → k < 480 → st' k = st k := by
  unfold fX7_read fX8_read
  rcases lt_cs p1 3 (by omega) 3 4 rfl rfl rfl with ⟨h1, h2⟩ | ⟨⟨h1, h3, h4⟩, h2, i, hi, rfl⟩
  · rw [show fX8_in p1.toInt64 0 3 = some 0 from h2, bd1_e, if_pos (show (0 : Int32) = 0 from rfl)]
    rcases h1 with h1 | ⟨h1, h3⟩
    · rw [if_pos h1]; exact ⟨F, _, _, _, _, _, _, _, _, _, _, _, _, _, _, _, _, _, _, _, _, _, _, _, _, _, _, _, _, _, _, _, _, _, _, _, _, _, _, _, rfl, rfl, h, fun _ _ _ => rfl⟩
    · rw [if_neg h1, if_pos h3]; exact ⟨F, _, _, _, _, _, _, _, _, _, _, _, _, _, _, _, _, _, _, _, _, _, _, _, _, _, _, _, _, _, _, _, _, _, _, _, _, _, _, _, rfl, rfl, h, fun _ _ _ => rfl⟩
  rw [show fX8_in (nI i).toInt64 0 3 = some 1 from h2, bd1_e, if_neg (show ¬ (1 : Int32) = 0 by decide), if_neg h1, if_neg h3]
  rcases lt_cs p2 2 (by omega) 2 3 rfl rfl rfl with ⟨j1, j2⟩ | ⟨⟨j1, j3, j4⟩, j2, L, hL, rfl⟩
  · rw [show fX8_in p2.toInt64 0 2 = some 0 from j2, bd1_e, if_pos (show (0 : Int32) = 0 from rfl)]
    rcases j1 with j1 | ⟨j1, j3⟩
    · rw [if_pos j1]; exact ⟨F, _, _, _, _, _, _, _, _, _, _, _, _, _, _, _, _, _, _, _, _, _, _, _, _, _, _, _, _, _, _, _, _, _, _, _, _, _, _, _, rfl, rfl, h, fun _ _ _ => rfl⟩
    · rw [if_neg j1, if_pos j3]; exact ⟨F, _, _, _, _, _, _, _, _, _, _, _, _, _, _, _, _, _, _, _, _, _, _, _, _, _, _, _, _, _, _, _, _, _, _, _, _, _, _, _, rfl, rfl, h, fun _ _ _ => rfl⟩
  rw [show fX8_in (nI L).toInt64 0 2 = some 1 from j2, bd1_e, if_neg (show ¬ (1 : Int32) = 0 by decide), if_neg j1, if_neg j3]
  rcases rng_cs p4 8 (by omega) 8 rfl rfl with ⟨k1, k2⟩ | ⟨⟨k1, k3⟩, k2, P, hP, rfl⟩
  · rw [show fX8_in p4.toInt64 0 8 = some 0 from k2, bd1_e, if_pos (show (0 : Int32) = 0 from rfl)]
    rcases k1 with k1 | ⟨k1, k3⟩
    · rw [if_pos k1]; exact ⟨F, _, _, _, _, _, _, _, _, _, _, _, _, _, _, _, _, _, _, _, _, _, _, _, _, _, _, _, _, _, _, _, _, _, _, _, _, _, _, _, rfl, rfl, h, fun _ _ _ => rfl⟩
    · rw [if_neg k1, if_neg k3]; exact ⟨F, _, _, _, _, _, _, _, _, _, _, _, _, _, _, _, _, _, _, _, _, _, _, _, _, _, _, _, _, _, _, _, _, _, _, _, _, _, _, _, rfl, rfl, h, fun _ _ _ => rfl⟩
  rw [show fX8_in (nI P).toInt64 0 8 = some 1 from k2, bd1_e, if_neg (show ¬ (1 : Int32) = 0 by decide), if_neg k1, if_pos k3]
  exact read_core p3 (by omega) (by omega) hP h hW
