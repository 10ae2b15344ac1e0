/-! READ: the class looks first, to its end -/
theorem c_look {t0 t1 t2 t3 mi : Nat → Int32} {l0 z0 l1 z1 l2 z2 l3 z3 : Int32} {i L Z B P C : Nat} {tn : Int32} {parts hist : Nat → Int32} {n nx : RKT} {x1 x2 x3 x4 x5 hs wc ev mv : Int32} (hi : i < 4) (hit : ∀ k, k < 40 → pick i t0 t1 t2 t3 k = mi (40 * i + k)) (hl : pickI i l0 l1 l2 l3 = nI L) (hL : L < 3) (hz : pickI i z0 z1 z2 z3 = nI Z) (hZ : Z ≤ 40) (hB : B < 40) (hP : P ≤ 8) (hC : C ≤ P) (hok : RC mi i B Z C) :
    ∀ (r t : Nat), r + t = C → ∀ k, r + 2 ≤ k → ∀ a1 a2 a3 a4 a5, ∃ b1 b2 b3 b4 b5, (C = P → lq7 (fX7_read_b38 t0 l0 z0 t1 l1 z1 t2 l2 z2 t3 l3 z3 (nI i) (nI L) (nI B) (nI P) parts n nx x1 x2 x3 x4 x5 hist hs wc ev mv tn) k a1 a2 a3 a4 a5 (nI t) 0 = fX7_read_j114 t0 l0 z0 t1 l1 z1 t2 l2 z2 t3 l3 z3 (nI i) (nI L) (nI B) (nI P) parts n nx b1 b2 b3 b4 b5 x1 x2 x3 x4 x5 hist hs wc ev mv tn (nI C) 0) ∧ (C < P → ¬ B + 5 * C + 4 < Z → lq7 (fX7_read_b38 t0 l0 z0 t1 l1 z1 t2 l2 z2 t3 l3 z3 (nI i) (nI L) (nI B) (nI P) parts n nx x1 x2 x3 x4 x5 hist hs wc ev mv tn) k a1 a2 a3 a4 a5 (nI t) 0 = fX7_read_j114 t0 l0 z0 t1 l1 z1 t2 l2 z2 t3 l3 z3 (nI i) (nI L) (nI B) (nI P) parts n nx b1 b2 b3 b4 b5 x1 x2 x3 x4 x5 hist hs wc ev mv tn (nI C) 2) ∧ (C < P → B + 5 * C + 4 < Z → RF mi i B C → lq7 (fX7_read_b38 t0 l0 z0 t1 l1 z1 t2 l2 z2 t3 l3 z3 (nI i) (nI L) (nI B) (nI P) parts n nx x1 x2 x3 x4 x5 hist hs wc ev mv tn) k a1 a2 a3 a4 a5 (nI t) 0 = some (-20 - nI C, parts, n, nx, mi (40 * i + (B + 5 * C)), mi (40 * i + (B + 5 * C + 1)), mi (40 * i + (B + 5 * C + 2)), mi (40 * i + (B + 5 * C + 3)), mi (40 * i + (B + 5 * C + 4)), x1, x2, x3, x4, x5, hist, hs, wc, ev, mv, tn)) := by
  have hx : ∀ t, nI B + 5 * nI t = nI (B + 5 * t) := fun t => by rw [show (5 : Int32) * nI t = nI (5 * t) from pk_mul 5 t, nI_add]
  have hne : nI L ≠ (-1 : Int32) := nI_ne_m1 (by omega)
  intro r
  induction r with
  | zero =>
    intro t ht k hk a1 a2 a3 a4 a5
    have htC : t = C := by omega
    subst htC
    obtain ⟨k, rfl⟩ : ∃ k', k = k' + 1 + 1 := ⟨k - 2, by omega⟩
    refine ⟨a1, a2, a3, a4, a5, fun h => ?_, fun h1 h2 => ?_, fun h1 h2 h3 => ?_⟩
    · rw [lq7_s]
      unfold fX7_read_b38
      rw [if_pos (nI_le (show P ≤ t by omega) (by omega))]
    · rw [lq7_s, c_b38 hi h1 hP, hx, hl, hz, c_foc hne hZ (by omega), if_neg h2, bd1_e, if_neg (show ¬ (2 : Int32) = 0 by decide), lq7_s]
      unfold fX7_read_b38
      rw [if_neg (nI_ge h1 (by omega)), if_neg (show ¬ (2 : Int32) = 0 by decide)]
    · rw [lq7_s, c_b38 hi h1 hP, hx, hl, hz, c_foc hne hZ (by omega), if_pos h2, bd1_e, if_pos (show (0 : Int32) = 0 from rfl), c_askFrom (by omega), bd5_e, hit (B + 5 * t) (by omega), hit (B + 5 * t + 1) (by omega), hit (B + 5 * t + 2) (by omega), hit (B + 5 * t + 3) (by omega), hit (B + 5 * t + 4) (by omega), h3.1, bd1_e, if_pos (show (0 : Int32) = 0 from rfl)]
  | succ r ih =>
    intro t ht k hk a1 a2 a3 a4 a5
    obtain ⟨k, rfl⟩ : ∃ k', k = k' + 1 := ⟨k - 1, by omega⟩
    obtain ⟨hb, c, f, hA⟩ := hok t (by omega)
    have hal : fX0_isAllowed (mi (40 * i + (B + 5 * t))) (mi (40 * i + (B + 5 * t + 1))) (mi (40 * i + (B + 5 * t + 2))) (mi (40 * i + (B + 5 * t + 3))) (mi (40 * i + (B + 5 * t + 4))) = some 1 := by
      rcases allow (mi (40 * i + (B + 5 * t))) (mi (40 * i + (B + 5 * t + 1))) (mi (40 * i + (B + 5 * t + 2))) (mi (40 * i + (B + 5 * t + 3))) (mi (40 * i + (B + 5 * t + 4))) with ⟨_, h2⟩ | ⟨_, _, _, h1, _⟩
      · rw [AF_ok hA] at h2
        exact absurd h2 (by decide)
      · exact h1
    rw [lq7_s, c_b38 hi (by omega) hP, hx, hl, hz, c_foc hne hZ (by omega), if_pos hb, bd1_e, if_pos (show (0 : Int32) = 0 from rfl), c_askFrom (by omega), bd5_e, hit (B + 5 * t) (by omega), hit (B + 5 * t + 1) (by omega), hit (B + 5 * t + 2) (by omega), hit (B + 5 * t + 3) (by omega), hit (B + 5 * t + 4) (by omega), hal, bd1_e, if_neg (show ¬ (1 : Int32) = 0 by decide)]
    exact ih (t + 1) (by omega) k (by omega) _ _ _ _ _
