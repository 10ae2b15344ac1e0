/-! STEPS: storm, its rounds -/
theorem ask_draws {a1 a2 a3 a4 a5 : Int32} {D1 D2 D3 : Nat} (h1 : D1 < 32768) (h2 : D2 < 32768) (h3 : D3 < 32768) : ∃ f y3 y4 y5 z3 z4, fX7_askByDraws a1 a2 a3 a4 a5 (nI D1) (nI D2) (nI D3) = some (nI (D1 % 30), nI (D1 / 32 % 9), y3, y4, y5) ∧ AF (D1 % 30) f (nI (D1 % 30)) (nI (D1 / 32 % 9)) y3 y4 y5 ∧ AF (D1 % 30) f (nI (D1 % 30)) (nI (D1 / 32 % 9)) z3 z4 (nI (D3 % 30)) ∧ (((D1 / 32 % 9 = 6 ∨ D1 / 32 % 9 = 7) ∧ D2 / 32 % 30 < D2 % 30 ∧ z3 = nI (D2 / 32 % 30) ∧ z4 = nI (D2 % 30)) ∨ (((D1 / 32 % 9 = 6 ∨ D1 / 32 % 9 = 7) ∧ D2 % 30 ≤ D2 / 32 % 30 ∨ (D1 / 32 % 9 ≠ 6 ∧ D1 / 32 % 9 ≠ 7)) ∧ z3 = nI (D2 % 30) ∧ z4 = nI (D2 / 32 % 30))) := by
  have d1 : nI D1 / 32 = nI (D1 / 32) := pk_div (d := 32) (by omega) (by omega) (by omega)
  have d2 : nI D2 / 32 = nI (D2 / 32) := pk_div (d := 32) (by omega) (by omega) (by omega)
  have e1 : nI (D1 / 32) - nI (D1 / 32) / 9 * 9 = nI (D1 / 32 % 9) := pk_rem (d := 9) (by omega) (by omega) (by omega)
  have e2 : nI (D2 / 32) - nI (D2 / 32) / 30 * 30 = nI (D2 / 32 % 30) := pk_rem (d := 30) (by omega) (by omega) (by omega)
  have e3 : nI D1 - nI D1 / 30 * 30 = nI (D1 % 30) := pk_rem (d := 30) (by omega) (by omega) (by omega)
  have e4 : nI D2 - nI D2 / 30 * 30 = nI (D2 % 30) := pk_rem (d := 30) (by omega) (by omega) (by omega)
  have e5 : nI D3 - nI D3 / 30 * 30 = nI (D3 % 30) := pk_rem (d := 30) (by omega) (by omega) (by omega)
  unfold fX7_askByDraws fX0_tell
  rw [d1, d2, e1, e2, e3, e4, e5]
  have hc : D1 % 30 < 30 := Nat.mod_lt _ (by omega)
  have hK : D1 / 32 % 9 < 9 := Nat.mod_lt _ (by omega)
  have hp : D2 % 30 < 30 := Nat.mod_lt _ (by omega)
  have hq : D2 / 32 % 30 < 30 := Nat.mod_lt _ (by omega)
  have hr : D3 % 30 < 30 := Nat.mod_lt _ (by omega)
  generalize D1 % 30 = c at *
  generalize D1 / 32 % 9 = K at *
  generalize D2 % 30 = p at *
  generalize D2 / 32 % 30 = q at *
  generalize D3 % 30 = r at *
  rw [f_isSpan (by omega), bd1_e]
  by_cases hs : K = 6 ∨ K = 7
  · rw [if_pos hs, if_neg (show ¬ (1 : Int32) = 0 by decide), bd5_e]
    by_cases hpq : q < p
    · obtain ⟨f, hf⟩ := AF_span (K := K) hc (Nat.le_of_lt hpq) hp hs
      rw [if_pos (nI_lt hpq (by omega)), if_neg (nI_nlt (by omega) (by omega))]
      exact ⟨f, _, _, _, _, _, rfl, hf _, hf _, Or.inl ⟨hs, hpq, rfl, rfl⟩⟩
    · obtain ⟨f, hf⟩ := AF_span (K := K) hc (show p ≤ q by omega) hq hs
      rw [if_neg (nI_nlt (by omega) (by omega))]
      have hy : (if nI p < nI q then nI q else nI p) = nI q := by
        by_cases z : p < q
        · rw [if_pos (nI_lt z (by omega))]
        · rw [if_neg (nI_nlt (by omega) (by omega)), show p = q by omega]
      rw [hy]
      exact ⟨f, _, _, _, _, _, rfl, hf _, hf _, Or.inr ⟨Or.inl ⟨hs, by omega⟩, rfl, rfl⟩⟩
  · obtain ⟨f, hf⟩ := AF_draw hc hK hp hq hr (fun z => hs (Or.inl z)) (fun z => hs (Or.inr z))
    rw [if_neg hs, if_pos (show (0 : Int32) = 0 from rfl), bd5_e]
    exact ⟨f, _, _, _, _, _, rfl, hf, hf, Or.inr ⟨Or.inr ⟨fun z => hs (Or.inl z), fun z => hs (Or.inr z)⟩, rfl, rfl⟩⟩
set_option maxHeartbeats 2000000 in
theorem storm_j {P : Nat} {q1 q1' : Int32} (hP : P ≤ 20) : ∀ (r t : Nat), r + t = P → ∀ (k1 k2 : Nat), r < k1 → r < k2 → ∀ (F : Fo) (parts hist st mV mT mW mR mN mH u g ov ot or' : Nat → Int32) (n nx : RKT) (hs wc ev mv s mev mmv ic um a1 a2 a3 a4 a5 x1 x2 x3 x4 x5 seed tot : Int32), SR F parts n hist hs wc ev mv st mV mT mW mR mN mH s mev mmv ic u um →
    ∃ F' R parts' n' nx' b1 b2 b3 b4 b5 y1 y2 y3 y4 y5 hist' hs' wc' ev' mv' st' a b w e m k s' v1 v2 v3 mev' mmv' ic' u' um' g', lq21 (fX7_storm_b21 q1 (nI P)) k1 parts n nx a1 a2 a3 a4 a5 x1 x2 x3 x4 x5 hist hs wc ev mv seed tot (nI t) = some (R, parts', n', nx', b1, b2, b3, b4, b5, y1, y2, y3, y4, y5, hist', hs', wc', ev', mv') ∧ lq20 (fX8_storm_b22 q1' (nI P)) k2 st mV mT mW mR mN mH s ov ot or' mev mmv ic u um g seed tot (nI t) = some (R, st', a, b, w, e, m, k, s', v1, v2, v3, mev', mmv', ic', u', um', g') ∧ SR F' parts' n' hist' hs' wc' ev' mv' st' a b w e m k s' mev' mmv' ic' u' um' ∧ ∀ k, 120 ≤ k → st' k = st k := by
  intro r
  induction r with
  | zero =>
    intro t ht k1 k2 hk1 hk2 F parts hist st mV mT mW mR mN mH u g ov ot or' n nx hs wc ev mv s mev mmv ic um a1 a2 a3 a4 a5 x1 x2 x3 x4 x5 seed tot h
    obtain ⟨k1, rfl⟩ : ∃ k', k1 = k' + 1 := ⟨k1 - 1, by omega⟩
    obtain ⟨k2, rfl⟩ : ∃ k', k2 = k' + 1 := ⟨k2 - 1, by omega⟩
    rw [lq21_s, lq20_s]
    unfold fX7_storm_b21 fX8_storm_b22
    rw [if_pos (nI_le (show P ≤ t by omega) (by omega)), if_pos (nI_le (show P ≤ t by omega) (by omega))]
    exact ⟨F, _, _, _, _, _, _, _, _, _, _, _, _, _, _, _, _, _, _, _, _, _, _, _, _, _, _, _, _, _, _, _, _, _, _, _, _, rfl, rfl, h, fun _ _ => rfl⟩
  | succ r ih =>
    intro t ht k1 k2 hk1 hk2 F parts hist st mV mT mW mR mN mH u g ov ot or' n nx hs wc ev mv s mev mmv ic um a1 a2 a3 a4 a5 x1 x2 x3 x4 x5 seed tot h
    obtain ⟨k1, rfl⟩ : ∃ k', k1 = k' + 1 := ⟨k1 - 1, by omega⟩
    obtain ⟨k2, rfl⟩ : ∃ k', k2 = k' + 1 := ⟨k2 - 1, by omega⟩
    rw [lq21_s, lq20_s]
    generalize hcl : lq21 (fX7_storm_b21 q1 (nI P)) k1 = self1
    generalize hml : lq20 (fX8_storm_b22 q1' (nI P)) k2 = self2
    unfold fX7_storm_b21 fX8_storm_b22 fX7_stir fX8_drawn
    rw [if_neg (nI_ge (show t < P by omega) (by omega)), if_neg (nI_ge (show t < P by omega) (by omega)), bd1_e, bd1_e]
    generalize seed * 1103515245 + 12345 = s1
    rw [draw_eq, bd1_e, bd1_e, bd1_e]
    generalize s1 * 1103515245 + 12345 = s2
    rw [draw_eq, bd1_e, bd1_e, bd1_e]
    generalize s2 * 1103515245 + 12345 = s3
    rw [draw_eq, bd1_e]
    obtain ⟨D1, h1, e1⟩ := dw_nI s1
    obtain ⟨D2, h2, e2⟩ := dw_nI s2
    obtain ⟨D3, h3, e3⟩ := dw_nI s3
    rw [e1, e2, e3]
    unfold dw at e1 e2 e3
    rw [e1, e2, e3]
    obtain ⟨f, y3, y4, y5, z3, z4, w1, w2, w3, w4⟩ := ask_draws (a1 := a1) (a2 := a2) (a3 := a3) (a4 := a4) (a5 := a5) h1 h2 h3
    obtain ⟨y1, y2, y3', y4', y5', hist', hs', r', parts', n', ev', mv', g', st', a, b, w, e, m, k, v1, v2, v3, u', o1, o2, o3, o4, o5⟩ := s_put2 (nx := nx) (x1 := x1) (x2 := x2) (x3 := x3) (x4 := x4) (x5 := x5) (g := g) (ov := ov) (ot := ot) (or' := or') h w2 w3
    rw [w1, bd5_e, o1, bd7_e, o2, bd7_e]
    have d1 : nI D1 / 32 = nI (D1 / 32) := pk_div (d := 32) (by omega) (by omega) (by omega)
    have d2 : nI D2 / 32 = nI (D2 / 32) := pk_div (d := 32) (by omega) (by omega) (by omega)
    have f1 : nI (D1 / 32) - nI (D1 / 32) / 9 * 9 = nI (D1 / 32 % 9) := pk_rem (d := 9) (by omega) (by omega) (by omega)
    have f2 : nI (D2 / 32) - nI (D2 / 32) / 30 * 30 = nI (D2 / 32 % 30) := pk_rem (d := 30) (by omega) (by omega) (by omega)
    have f3 : nI D1 - nI D1 / 30 * 30 = nI (D1 % 30) := pk_rem (d := 30) (by omega) (by omega) (by omega)
    have f4 : nI D2 - nI D2 / 30 * 30 = nI (D2 % 30) := pk_rem (d := 30) (by omega) (by omega) (by omega)
    have f5 : nI D3 - nI D3 / 30 * 30 = nI (D3 % 30) := pk_rem (d := 30) (by omega) (by omega) (by omega)
    unfold fX8_storm_j114 fX8_storm_j125 fX8_storm_j126 fX8_storm_j150 fX8_storm_j162
    rw [d1, d2, f1, f2, f3, f4, f5, if_pos (show (0 : Int32) = 0 from rfl), if_neg (show ¬ (1 : Int32) = 0 by decide), nI_1]
    have hp : D2 % 30 < 30 := Nat.mod_lt _ (by omega)
    have hq : D2 / 32 % 30 < 30 := Nat.mod_lt _ (by omega)
    have hK : D1 / 32 % 9 < 9 := Nat.mod_lt _ (by omega)
    obtain ⟨F', R, parts2, n2, nx2, b1, b2, b3, b4, b5, y21, y22, y23, y24, y25, hist2, hs2, wc2, ev2, mv2, st2, a', b', w', e', m', k', s', v1', v2', v3', mev', mmv', ic', u2, um', g2, i1, i2, i3, i4⟩ := ih (t + 1) (by omega) k1 k2 (by omega) (by omega) (up F (D1 % 30) f) parts' hist' st' a b w e m k u' g' v1 v2 v3 n' n hs' 1 ev' mv' 1 ev' mv' 1 hs' (nI (D1 % 30)) (nI (D1 / 32 % 9)) y3 y4 y5 y1 y2 y3' y4' y5' s3 (tot + r') o4
    rw [hcl] at i1
    rw [hml] at i2
    refine ⟨F', R, parts2, n2, nx2, b1, b2, b3, b4, b5, y21, y22, y23, y24, y25, hist2, hs2, wc2, ev2, mv2, st2, a', b', w', e', m', k', s', v1', v2', v3', mev', mmv', ic', u2, um', g2, i1, ?_, i3, fun k hk => (i4 k hk).trans (o5 k hk)⟩
    have n6 : nI (D1 / 32 % 9) = 6 ↔ D1 / 32 % 9 = 6 := ⟨fun z => nI_inj (b := 6) z (by omega) (by omega), fun z => by rw [z]; rfl⟩
    have n7 : nI (D1 / 32 % 9) = 7 ↔ D1 / 32 % 9 = 7 := ⟨fun z => nI_inj (b := 7) z (by omega) (by omega), fun z => by rw [z]; rfl⟩
    rcases w4 with ⟨c1, c2, rfl, rfl⟩ | ⟨c1, rfl, rfl⟩
    · rw [if_neg (nI_ge c2 (by omega)), o3, bd18_e, i2]
      rcases c1 with z | z
      · rw [if_pos (n6.mpr z)]; exact if_neg (show ¬ (1 : Int32) = 0 by decide)
      · rw [if_neg (fun q => by have := n6.mp q; omega), if_pos (n7.mpr z)]; exact if_neg (show ¬ (1 : Int32) = 0 by decide)
    · rw [o3, bd18_e, i2]
      rcases c1 with ⟨c1, c2⟩ | ⟨c1, c2⟩
      · rw [if_pos (nI_le c2 (by omega))]
        rcases c1 with z | z
        · rw [if_pos (n6.mpr z)]; exact if_pos (show (0 : Int32) = 0 from rfl)
        · rw [if_neg (fun q => by have := n6.mp q; omega), if_pos (n7.mpr z)]; exact if_pos (show (0 : Int32) = 0 from rfl)
      · rw [if_neg (fun q => c1 (n6.mp q)), if_neg (fun q => c2 (n7.mp q))]; exact if_pos (show (0 : Int32) = 0 from rfl)
theorem q_storm {F : Fo} {parts hist st mV mT mW mR mN mH u g ov ot or' : Nat → Int32} {n nx : RKT} {hs wc ev mv s mev mmv ic um a1 a2 a3 a4 a5 x1 x2 x3 x4 x5 : Int32} (p1 p2 : Int32) (h : SR F parts n hist hs wc ev mv st mV mT mW mR mN mH s mev mmv ic u um) :
    ∃ F' R parts' n' nx' b1 b2 b3 b4 b5 y1 y2 y3 y4 y5 hist' hs' wc' ev' mv' st' a b w e m k s' v1 v2 v3 mev' mmv' ic' u' um' g', fX7_storm parts n nx a1 a2 a3 a4 a5 x1 x2 x3 x4 x5 hist hs wc ev mv p1 p2 = some (R, parts', n', nx', b1, b2, b3, b4, b5, y1, y2, y3, y4, y5, hist', hs', wc', ev', mv') ∧ fX8_storm st mV mT mW mR mN mH s ov ot or' mev mmv ic u um g p1 p2 = some (R, st', a, b, w, e, m, k, s', v1, v2, v3, mev', mmv', ic', u', um', g') ∧ SR F' parts' n' hist' hs' wc' ev' mv' st' a b w e m k s' mev' mmv' ic' u' um' ∧ ∀ k, 120 ≤ k → st' k = st k := by
  unfold fX7_storm fX8_storm
  have hi : fX8_in p2.toInt64 1 20 = some (if 1 ≤ p2.toInt ∧ p2.toInt ≤ 20 then 1 else 0) := by rw [f_in, to64]; rfl
  have h1 : (1 : Int32).toInt = 1 := rfl
  have h20 : (20 : Int32).toInt = 20 := rfl
  rw [hi, bd1_e]
  by_cases c1 : p2.toInt < 1
  · rw [if_pos (show p2 < 1 from Int32.lt_iff_toInt_lt.mpr (by omega)), if_neg (show ¬ (1 ≤ p2.toInt ∧ p2.toInt ≤ 20) by omega), if_pos (show (0 : Int32) = 0 from rfl)]
    exact ⟨F, _, _, _, _, _, _, _, _, _, _, _, _, _, _, _, _, _, _, _, _, _, _, _, _, _, _, _, _, _, _, _, _, _, _, _, _, rfl, rfl, h, fun _ _ => rfl⟩
  · rw [if_neg (show ¬ p2 < 1 from fun z => by have := Int32.lt_iff_toInt_lt.mp z; omega)]
    by_cases c2 : p2.toInt ≤ 20
    · rw [if_pos (show p2 ≤ 20 from Int32.le_iff_toInt_le.mpr (by omega)), if_pos (show 1 ≤ p2.toInt ∧ p2.toInt ≤ 20 by omega), if_neg (show ¬ (1 : Int32) = 0 by decide)]
      obtain ⟨P, hP, rfl⟩ : ∃ P : Nat, P ≤ 20 ∧ p2 = nI P := ⟨p2.toInt.toNat, by omega, Int32.toInt_inj.mp (by rw [nI_toInt (by omega)]; omega)⟩
      exact storm_j hP P 0 rfl fu fu (by unfold fu; omega) (by unfold fu; omega) F parts hist st mV mT mW mR mN mH u g ov ot or' n nx hs wc ev mv s mev mmv ic um a1 a2 a3 a4 a5 x1 x2 x3 x4 x5 p1 0 h
    · rw [if_neg (show ¬ p2 ≤ 20 from fun z => by have := Int32.le_iff_toInt_le.mp z; omega), if_neg (show ¬ (1 ≤ p2.toInt ∧ p2.toInt ≤ 20) by omega), if_pos (show (0 : Int32) = 0 from rfl)]
      exact ⟨F, _, _, _, _, _, _, _, _, _, _, _, _, _, _, _, _, _, _, _, _, _, _, _, _, _, _, _, _, _, _, _, _, _, _, _, _, rfl, rfl, h, fun _ _ => rfl⟩
