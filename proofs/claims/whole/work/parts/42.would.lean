/-! STEPS: would -/
theorem up_back (F : Fo) (c : Nat) (f : Fq) : up (up F c f) c (F c) = F := funext (fun d => by
  by_cases e : d = c
  · rw [e, up_s]
  · rw [up_n _ _ e, up_n _ _ e])
theorem three_cs (p : Int32) : ((p < 0 ∨ (¬ p < 0 ∧ ¬ p ≤ 2)) ∧ fX8_in p.toInt64 0 2 = some 0) ∨ ((¬ p < 0 ∧ p ≤ 2) ∧ fX8_in p.toInt64 0 2 = some 1 ∧ (p = 0 ∨ p = 1 ∨ p = 2)) := by
  have hi : fX8_in p.toInt64 0 2 = some (if 0 ≤ p.toInt ∧ p.toInt ≤ 2 then 1 else 0) := by rw [f_in, to64]; rfl
  have h0 : (0 : Int32).toInt = 0 := rfl
  have h2 : (2 : Int32).toInt = 2 := rfl
  have h1 : (1 : Int32).toInt = 1 := rfl
  rw [hi]
  by_cases a : p.toInt < 0
  · exact Or.inl ⟨Or.inl (Int32.lt_iff_toInt_lt.mpr (by omega)), by rw [if_neg (by omega)]⟩
  · have na : ¬ p < 0 := fun z => by have := Int32.lt_iff_toInt_lt.mp z; omega
    by_cases b : p.toInt ≤ 2
    · refine Or.inr ⟨⟨na, Int32.le_iff_toInt_le.mpr (by omega)⟩, by rw [if_pos (by omega)], ?_⟩
      by_cases z : p.toInt = 0
      · exact Or.inl (Int32.toInt_inj.mp (by omega))
      · by_cases z1 : p.toInt = 1
        · exact Or.inr (Or.inl (Int32.toInt_inj.mp (by omega)))
        · exact Or.inr (Or.inr (Int32.toInt_inj.mp (by omega)))
    · exact Or.inl ⟨Or.inr ⟨na, fun z => by have := Int32.le_iff_toInt_le.mp z; omega⟩, by rw [if_neg (by omega)]⟩
theorem m_would {F : Fo} {st mV mT mW mR mN mH ov ot or' g : Nat → Int32} {p1 p2 p3 p4 p5 p6 s ev mv l7 l8 cc : Int32} (hF : VFs F) (hM : MR (fin F) mV mT mW mR mN mH) (h1 : ∀ d, d < 30 → (bt cc d = true ↔ ∃ k, Cir (fin F) d k)) (h2 : hi0 cc) : ∃ self, lq2 (fX8_would_b69 p1 p2 p3 p4 p5 p6 st mV mT mW mR mN mH s ov ot or' ev mv g l7 l8) fu 0 0 = fX8_would_b69 p1 p2 p3 p4 p5 p6 st mV mT mW mR mN mH s ov ot or' ev mv g l7 l8 self (nI (pop cc)) (nI 30) := by
  rw [pop30 h2]
  refine fr1 (fX8_would_b69 p1 p2 p3 p4 p5 p6 st mV mT mW mR mN mH s ov ot or' ev mv g l7 l8) 30 (fun t l => l = nI (fb_ct (bt cc) t)) (fun r => ∃ self, r = fX8_would_b69 p1 p2 p3 p4 p5 p6 st mV mT mW mR mN mH s ov ot or' ev mv g l7 l8 self (nI (fb_ct (bt cc) 30)) (nI 30)) (by omega) ?_ ?_ fu 0 0 (by omega) (by unfold fu; omega) rfl
  · intro self t l ht hI hself
    have key : ∀ x : Int32, x = nI (fb_ct (bt cc) (t + 1)) → fX8_would_b69 p1 p2 p3 p4 p5 p6 st mV mT mW mR mN mH s ov ot or' ev mv g l7 l8 self l (nI t) = self x (nI (t + 1)) → ∃ self', fX8_would_b69 p1 p2 p3 p4 p5 p6 st mV mT mW mR mN mH s ov ot or' ev mv g l7 l8 self l (nI t) = fX8_would_b69 p1 p2 p3 p4 p5 p6 st mV mT mW mR mN mH s ov ot or' ev mv g l7 l8 self' (nI (fb_ct (bt cc) 30)) (nI 30) := fun x hx he => by
      rw [he]
      exact hself x hx
    rcases m_circleOf (WB_fin hF) (MW_of hF hM) ht with ⟨k, hk, he⟩ | ⟨hk, he⟩
    · refine key (nI (fb_ct (bt cc) t + 1)) (by rw [fb_ct_succ, (h1 t ht).mpr ⟨k, hk⟩]; rfl) ?_
      unfold fX8_would_b69 fX8_would_j92
      rw [if_neg (ge30 ht), he, bd1_e, if_neg (show ¬ nI k ≤ 0 from nI_ge (b := k) (a := 0) (by have := hk.1; omega) (by have := hk.2.1; omega)), hI, nI_1, nI_1]
    · have hb : bt cc t = false := by
        cases q : bt cc t
        · rfl
        · obtain ⟨k, h9⟩ := (h1 t ht).mp q
          exact absurd h9 (hk k)
      refine key (nI (fb_ct (bt cc) t)) (by rw [fb_ct_succ, hb]; rfl) ?_
      unfold fX8_would_b69 fX8_would_j92
      rw [if_neg (ge30 ht), he, bd1_e, if_pos (show (0 : Int32) ≤ 0 by decide), hI, nI_1, Int32.add_zero]
  · intro self l hI
    rw [hI]
    exact ⟨self, rfl⟩
theorem q_would {F : Fo} {parts hist st mV mT mW mR mN mH u g ov ot or' : Nat → Int32} {n nx : RKT} {hs wc ev mv s mev mmv ic um a1 a2 a3 a4 a5 x1 x2 x3 x4 x5 : Int32} (p1 p2 p3 p4 p5 p6 : Int32) (h : SR F parts n hist hs wc ev mv st mV mT mW mR mN mH s mev mmv ic u um) :
    ∃ r parts' nx' b1 b2 b3 b4 b5 y1 y2 y3 y4 y5 st' a b w e m k s' v1 v2 v3 mev' mmv' g', fX7_would parts n nx a1 a2 a3 a4 a5 x1 x2 x3 x4 x5 p1 p2 p3 p4 p5 p6 = some (r, parts', nx', b1, b2, b3, b4, b5, y1, y2, y3, y4, y5) ∧ fX8_would st mV mT mW mR mN mH s ov ot or' mev mmv g p1 p2 p3 p4 p5 p6 = some (r, st', a, b, w, e, m, k, s', v1, v2, v3, mev', mmv', g') ∧ SR F parts' n hist hs wc ev mv st' a b w e m k s' mev' mmv' ic u um ∧ ∀ k, 120 ≤ k → k < 600 → st' k = st k := by
  unfold fX7_would fX8_would fX0_tell
  rw [bd5_e]
  rcases allow p1 p2 p3 p4 p5 with ⟨e1, e2⟩ | ⟨c, f, hA, e1, e2⟩
  · rw [e1, e2, bd1_e, bd1_e, if_pos (show (0 : Int32) = 0 from rfl), if_pos (show (0 : Int32) = 0 from rfl)]
    exact ⟨_, _, _, _, _, _, _, _, _, _, _, _, _, _, _, _, _, _, _, _, _, _, _, _, _, _, _, rfl, rfl, h, fun _ _ _ => rfl⟩
  rw [e1, e2, bd1_e, bd1_e, if_neg (show ¬ (1 : Int32) = 0 by decide), if_neg (show ¬ (1 : Int32) = 0 by decide)]
  rcases three_cs p6 with ⟨h1, h2⟩ | ⟨⟨h1, h3⟩, h2, h4⟩
  · rw [h2, bd1_e, if_pos (show (0 : Int32) = 0 from rfl)]
    rcases h1 with h1 | ⟨h1, h3⟩
    · rw [if_pos h1]; exact ⟨_, _, _, _, _, _, _, _, _, _, _, _, _, _, _, _, _, _, _, _, _, _, _, _, _, _, _, rfl, rfl, h, fun _ _ _ => rfl⟩
    · rw [if_neg h1, if_neg h3]; exact ⟨_, _, _, _, _, _, _, _, _, _, _, _, _, _, _, _, _, _, _, _, _, _, _, _, _, _, _, rfl, rfl, h, fun _ _ _ => rfl⟩
  rw [h2, bd1_e, if_neg (show ¬ (1 : Int32) = 0 by decide), if_neg h1, if_pos h3]
  obtain ⟨hF, hC, hP, hN, hS, hH, q3, hw, q4, q5⟩ := h
  obtain ⟨g', g1, g2⟩ := m_formulaIs (g := g) hA
  obtain ⟨o, o1, o2⟩ := c_take hC hA
  obtain ⟨hc, hv, rfl, hA'⟩ := hA
  have hF' := VFs_up (c := c) hF hv
  obtain ⟨t0, t1, t2, t3⟩ := hC c hc
  have htell : fX0_tellAsIn x1 x2 x3 x4 x5 parts (nI c) = some (nI c, nI (F c).1, nI (F c).2.1, nI (F c).2.2.1, nI (F c).2.2.2) := by
    unfold fX0_tellAsIn fX0_tell
    rw [show fX1_part parts (nI c) 0 = some (nI (F c).1) from (f_part (k := 0) hc (by omega)).trans (by rw [Nat.add_zero, t0]), show fX1_part parts (nI c) 1 = some (nI (F c).2.1) from (f_part (k := 1) hc (by omega)).trans (by rw [t1]), show fX1_part parts (nI c) 2 = some (nI (F c).2.2.1) from (f_part (k := 2) hc (by omega)).trans (by rw [t2]), show fX1_part parts (nI c) 3 = some (nI (F c).2.2.2) from (f_part (k := 3) hc (by omega)).trans (by rw [t3]), bd1_e, bd1_e, bd1_e, bd1_e, bd5_e]
  obtain ⟨o', o3, o4⟩ := c_take o2 (AF_of hc (hF c hc))
  rw [up_back] at o4
  obtain ⟨V, H, R, W, kn, cc, cs, r1, r2⟩ := c_NR o2 hF' (rkV nx) (rkH nx) (rkR nx) (rkW nx) (rkK nx) (rkC nx) (rkN nx)
  have hN' := r2 (rkA nx)
  obtain ⟨x, m1, m2⟩ := c_moved hN hN'.1
  have m1 : fX3_movedTo (rkV n) (rkK n) V kn = some x := m1
  have hcc : ∀ d, d < 30 → (bt cc d = true ↔ ∃ k, Cir (fin (up F c f)) d k) := hN'.2.1
  have hch : hi0 cc := hN'.2.2.1
  obtain ⟨st1, s1, s2, s3⟩ := m_copies (st := st) (o1 := 0) (o2 := 600) (by omega) (by omega) (by omega)
  have hP1 : PM F st1 0 := PM_of hP (fun k hk => s3 _ (by omega))
  obtain ⟨st2, a, b, w, e, m, k, v1, v2, v3, c1, c2, c3, c4⟩ := m_changes (ov := ov) (ot := ot) (or' := or') (ev0 := mev) (mv0 := mmv) hP1 hF hS g2 hv hc (RB_of hN.1) m2
  obtain ⟨st3, s4, s5, s6⟩ := m_copies (st := st2) (o1 := 600) (o2 := 0) (by omega) (by omega) (by omega)
  have hP3 : PM F st3 0 := PM_of hP (fun k hk => by rw [s5 k hk, c3 _ (by omega), s2 k hk])
  obtain ⟨a', b', w', e', m', k', z1, z2⟩ := m_settles hP3 hF a b w e m k
  rw [htell, bd5_e, o1, bd1_e, r1, bd7_e, o3, bd1_e, show fX8_copies st 0 600 = some st1 from s1, bd1_e, g1, bd1_e, c1, bd13_e]
  have hev := ev_hi (x := x) hF hN hc
  obtain ⟨self, hs9⟩ := m_would (p1 := nI c) (p2 := p2) (p3 := p3) (p4 := p4) (p5 := p5) (p6 := p6) (st := st2) (ov := v1) (ot := v2) (or' := v3) (g := g') (s := 1) (ev := rdF (rkR n) x ||| bI c) (mv := x) (l7 := mev) (l8 := mmv) hF' c4 hcc hch
  have fin1 : ∀ r : Int32, fX8_would_j134 (nI c) p2 p3 p4 p5 p6 st2 a b w e m k 1 v1 v2 v3 (rdF (rkR n) x ||| bI c) x g' mev mmv r = some (r, st3, a', b', w', e', m', k', 1, v1, v2, v3, mev, mmv, g') := fun r => by
    unfold fX8_would_j134
    rw [show fX8_copies st2 600 0 = some st3 from s4, bd1_e, z1, bd6_e]
  have hSR : SR F o' n hist hs wc ev mv st3 a' b' w' e' m' k' 1 mev mmv ic u um := ⟨hF, o4, hP3, hN, Or.inr ⟨rfl, z2⟩, hH, q3, hw, q4, q5⟩
  have hst : ∀ k, 120 ≤ k → k < 600 → st3 k = st k := fun k h5 h6 => by rw [s6 k (by omega), c3 k h5, s3 k (by omega)]
  rw [hs9]
  unfold fX8_would_b69 fX7_would_j137
  rw [if_pos le30, fin1, m_bitsOf hev, bd1_e, fin1, m_bitsOf m2.2, bd1_e, fin1]
  rcases h4 with rfl | rfl | rfl
  · rw [if_pos (show (0 : Int32) = 0 from rfl), if_neg (show ¬ (0 : Int32) = 2 by decide), m1, bd1_e, if_neg (show ¬ (0 : Int32) = 1 by decide), (rdF_e x (AL_fin hF) (RB_of hN.1)).1, bd1_e, f_bit, bd1_e, bitCount_pop, bd1_e]
    exact ⟨_, _, _, _, _, _, _, _, _, _, _, _, _, _, _, _, _, _, _, _, _, _, _, _, _, _, _, rfl, rfl, hSR, hst⟩
  · rw [if_neg (show ¬ (1 : Int32) = 0 by decide), if_pos (show (1 : Int32) = 1 from rfl), if_neg (show ¬ (1 : Int32) = 2 by decide), m1, bd1_e, if_pos (show (1 : Int32) = 1 from rfl), bitCount_pop, bd1_e]
    exact ⟨_, _, _, _, _, _, _, _, _, _, _, _, _, _, _, _, _, _, _, _, _, _, _, _, _, _, _, rfl, rfl, hSR, hst⟩
  · rw [if_neg (show ¬ (2 : Int32) = 0 by decide), if_neg (show ¬ (2 : Int32) = 1 by decide), if_pos (show (2 : Int32) = 2 from rfl), bitCount_pop, bd1_e]
    exact ⟨_, _, _, _, _, _, _, _, _, _, _, _, _, _, _, _, _, _, _, _, _, _, _, _, _, _, _, rfl, rfl, hSR, hst⟩
