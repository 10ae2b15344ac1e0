/-! STEPS: feed, end, sheet -/
def TR (by_ : Nat → Int32) (sz : Int32) (tp : Nat → Int32) (td : Int32) : Prop := ∃ T, T ≤ 320 ∧ sz = nI T ∧ td = nI T ∧ ∀ k, k < T → ∃ v, v < 128 ∧ by_ k = nI v ∧ tp k = nI v
theorem nar_b : ∀ v, v < 128 → vp_nar .byte ((nI v).toInt8.toInt32) = nI v := by decide +kernel
theorem rng_cs (p : Int32) (M : Nat) (hM : M < 2 ^ 31) (m : Int32) (hm : m = nI M) (h : m.toInt64.toInt = (M : Int)) : ((p < 0 ∨ (¬ p < 0 ∧ ¬ p ≤ m)) ∧ fX8_in p.toInt64 0 m.toInt64 = some 0) ∨ ((¬ p < 0 ∧ p ≤ m) ∧ fX8_in p.toInt64 0 m.toInt64 = some 1 ∧ ∃ v, v ≤ M ∧ p = nI v) := by
  have hi : fX8_in p.toInt64 0 m.toInt64 = some (if 0 ≤ p.toInt ∧ p.toInt ≤ (M : Int) then 1 else 0) := by rw [f_in, to64, h]; rfl
  have h0 : (0 : Int32).toInt = 0 := rfl
  have h2 : m.toInt = (M : Int) := by rw [← to64]; exact h
  rw [hi]
  by_cases a : p.toInt < 0
  · exact Or.inl ⟨Or.inl (Int32.lt_iff_toInt_lt.mpr (by omega)), by rw [if_neg (by omega)]⟩
  · have na : ¬ p < 0 := fun z => by have := Int32.lt_iff_toInt_lt.mp z; omega
    by_cases b : p.toInt ≤ (M : Int)
    · exact Or.inr ⟨⟨na, Int32.le_iff_toInt_le.mpr (by omega)⟩, by rw [if_pos (by omega)], p.toInt.toNat, by omega, Int32.toInt_inj.mp (by rw [nI_toInt (by omega)]; omega)⟩
    · exact Or.inl ⟨Or.inr ⟨na, fun z => by have := Int32.le_iff_toInt_le.mp z; omega⟩, by rw [if_neg (by omega)]⟩
theorem q_feed {by_ tp : Nat → Int32} {sz td : Int32} (p : Int32) (h : TR by_ sz tp td) : ∃ r b' s' t' d', fX7_feed by_ sz p = some (r, b', s') ∧ fX8_feed tp td p = some (r, t', d') ∧ TR b' s' t' d' := by
  have h' := h
  obtain ⟨T, hT, rfl, rfl, hb⟩ := h'
  unfold fX7_feed fX8_feed
  rcases rng_cs p 127 (by omega) 127 rfl rfl with ⟨h1, h2⟩ | ⟨⟨h1, h3⟩, h2, v, hv, rfl⟩
  · rw [show fX8_in p.toInt64 0 127 = some 0 from h2, bd1_e, if_pos (show (0 : Int32) = 0 from rfl)]
    rcases h1 with h1 | ⟨h1, h3⟩
    · rw [if_pos h1]; exact ⟨_, _, _, _, _, rfl, rfl, h⟩
    · rw [if_neg h1, if_neg h3]; exact ⟨_, _, _, _, _, rfl, rfl, h⟩
  · rw [show fX8_in (nI v).toInt64 0 127 = some 1 from h2, bd1_e, if_neg (show ¬ (1 : Int32) = 0 by decide), if_neg h1, if_pos h3]
    by_cases e : T = 320
    · subst e
      rw [if_neg (show ¬ nI 320 < 320 by decide), if_pos (show nI 320 = 320 from rfl)]
      exact ⟨_, _, _, _, _, rfl, rfl, h⟩
    · unfold fX5_append
      rw [if_pos (show nI T < 320 from nI_lt (b := 320) (by omega) (by omega)), if_neg (show ¬ (320 : Int32) ≤ nI T from nI_ge (b := 320) (by omega) (by omega)), wrN (by omega) (by omega), bd2_e, if_neg (show ¬ nI T = 320 from fun z => e (nI_inj (b := 320) z (by omega) (by omega))), wrN (by omega) (by omega), nI_1, nar_b v (by omega)]
      refine ⟨_, _, _, _, _, rfl, rfl, T + 1, by omega, rfl, rfl, fun k hk => ?_⟩
      by_cases z : k = T
      · rw [z, us, us]; exact ⟨v, by omega, rfl, rfl⟩
      · rw [un _ _ z, un _ _ z]; exact hb k (by omega)
theorem q_end {by_ tp : Nat → Int32} {sz td : Int32} (p : Int32) (h : TR by_ sz tp td) : ∃ r s' d', fX7_end sz p = some (r, s') ∧ fX8_end td p = some (r, d') ∧ TR by_ s' tp d' := by
  have h' := h
  obtain ⟨T, hT, rfl, rfl, hb⟩ := h'
  unfold fX7_end fX8_end
  rcases rng_cs p T (by omega) (nI T) rfl (by rw [to64, nI_toInt (by omega)]) with ⟨h1, h2⟩ | ⟨⟨h1, h3⟩, h2, v, hv, rfl⟩
  · rw [h2, bd1_e, if_pos (show (0 : Int32) = 0 from rfl)]
    rcases h1 with h1 | ⟨h1, h3⟩
    · rw [if_pos h1]; exact ⟨_, _, _, rfl, rfl, h⟩
    · rw [if_neg h1, if_neg h3]; exact ⟨_, _, _, rfl, rfl, h⟩
  · rw [h2, bd1_e, if_neg (show ¬ (1 : Int32) = 0 by decide), if_neg h1, if_pos h3]
    exact ⟨_, _, _, rfl, rfl, v, by omega, rfl, rfl, fun k hk => hb k (by omega)⟩
/-- a row of items -/
def RW (i : Nat) (it : Nat → Int32) (l z : Int32) (la le mi : Nat → Int32) : Prop := LN l (la i) ∧ z = le i ∧ (∃ Z, Z ≤ 40 ∧ z = nI Z) ∧ ∀ k, k < 40 → it k = mi (40 * i + k)
def RW4 (t0 : Nat → Int32) (l0 z0 : Int32) (t1 : Nat → Int32) (l1 z1 : Int32) (t2 : Nat → Int32) (l2 z2 : Int32) (t3 : Nat → Int32) (l3 z3 : Int32) (la le mi : Nat → Int32) : Prop := RW 0 t0 l0 z0 la le mi ∧ RW 1 t1 l1 z1 la le mi ∧ RW 2 t2 l2 z2 la le mi ∧ RW 3 t3 l3 z3 la le mi
theorem RW_keep {i j : Nat} {it la le mi mi' : Nat → Int32} {l z x y : Int32} (h : RW j it l z la le mi) (hij : j ≠ i) (hk : ∀ k, (k < 40 * i ∨ 40 * i + 40 ≤ k) → mi' k = mi k) : RW j it l z (upd la i x) (upd le i y) mi' := by
  obtain ⟨a, b, c, d⟩ := h
  exact ⟨by rw [un _ _ hij]; exact a, by rw [un _ _ hij]; exact b, c, fun k h9 => by rw [hk _ (by omega)]; exact d k h9⟩
theorem m_sheet {i : Nat} {la le mi : Nat → Int32} {p2 p3 : Int32} (hi : i < 4) : ∃ mi', lq2 (fX8_sheet_b56 (nI i) p2 p3 la le) fu mi 0 = some (1, la, le, mi') ∧ (∀ k, k < 40 → mi' (40 * i + k) = 0) ∧ (∀ k, (k < 40 * i ∨ 40 * i + 40 ≤ k) → mi' k = mi k) := by
  refine fr1 (fX8_sheet_b56 (nI i) p2 p3 la le) 40 (fun t x => (∀ k, k < t → x (40 * i + k) = 0) ∧ (∀ k, (k < 40 * i ∨ 40 * i + 40 ≤ k) → x k = mi k)) (fun r => ∃ mi', r = some (1, la, le, mi') ∧ (∀ k, k < 40 → mi' (40 * i + k) = 0) ∧ (∀ k, (k < 40 * i ∨ 40 * i + 40 ≤ k) → mi' k = mi k)) (by omega) ?_ ?_ fu 0 mi (by omega) (by unfold fu; omega) ⟨fun k hk => by omega, fun k _ => rfl⟩
  · intro self t x ht ⟨i1, i2⟩ hself
    unfold fX8_sheet_b56
    rw [if_neg (show ¬ (40 : Int32) ≤ nI t from nI_ge (b := 40) ht (by omega)), show (40 : Int32) * nI i = nI (40 * i) from pk_mul 40 i, nI_add, wrN (by omega) (by omega), nI_1]
    refine hself _ ⟨fun k hk => ?_, fun k hk => by rw [un _ _ (by omega)]; exact i2 k hk⟩
    by_cases z : k = t
    · rw [z, us]
    · rw [un _ _ (by omega)]; exact i1 k (by omega)
  · intro self x hI
    unfold fX8_sheet_b56
    rw [if_pos (show (40 : Int32) ≤ nI 40 by decide)]
    exact ⟨x, rfl, hI⟩
theorem c_renew {it : Nat → Int32} {l z p q : Int32} : ∃ it', fX4_renew it l z p q = some (it', p, q) ∧ ∀ k, k < 40 → it' k = 0 := by
  unfold fX4_renew
  obtain ⟨a, a1, a2⟩ := f_fill (a := it) (N := 40) (v := 0) (by omega) (by unfold fu; omega)
  rw [a1, bd1_e]
  exact ⟨a, rfl, a2⟩
theorem lt_cs (p : Int32) (M : Nat) (hM : M + 1 < 2 ^ 31) (m m' : Int32) (hm : m = nI M) (hm' : m' = nI (M + 1)) (h : m.toInt64.toInt = (M : Int)) : ((p < 0 ∨ (¬ p < 0 ∧ m' ≤ p)) ∧ fX8_in p.toInt64 0 m.toInt64 = some 0) ∨ ((¬ p < 0 ∧ ¬ m' ≤ p ∧ p < m') ∧ fX8_in p.toInt64 0 m.toInt64 = some 1 ∧ ∃ v, v ≤ M ∧ p = nI v) := by
  have h9 : m'.toInt = (M : Int) + 1 := by rw [hm', nI_toInt (by omega)]; rfl
  have h8 : m.toInt = (M : Int) := by rw [← to64]; exact h
  rcases rng_cs p M (by omega) m hm h with ⟨h1, h2⟩ | ⟨⟨h1, h3⟩, h2, hv⟩
  · refine Or.inl ⟨h1.imp id (fun ⟨a, b⟩ => ⟨a, ?_⟩), h2⟩
    rw [Int32.le_iff_toInt_le] at b ⊢
    omega
  · refine Or.inr ⟨⟨h1, fun z => ?_, ?_⟩, h2, hv⟩
    · rw [Int32.le_iff_toInt_le] at z h3
      omega
    · rw [Int32.le_iff_toInt_le] at h3
      rw [Int32.lt_iff_toInt_lt]
      omega
theorem q_sheet {t0 t1 t2 t3 la le mi : Nat → Int32} {l0 z0 l1 z1 l2 z2 l3 z3 : Int32} (p q r : Int32) (h : RW4 t0 l0 z0 t1 l1 z1 t2 l2 z2 t3 l3 z3 la le mi) : ∃ o t0' l0' z0' t1' l1' z1' t2' l2' z2' t3' l3' z3' la' le' mi', fX7_sheet t0 l0 z0 t1 l1 z1 t2 l2 z2 t3 l3 z3 p q r = some (o, t0', l0', z0', t1', l1', z1', t2', l2', z2', t3', l3', z3') ∧ fX8_sheet la le mi p q r = some (o, la', le', mi') ∧ RW4 t0' l0' z0' t1' l1' z1' t2' l2' z2' t3' l3' z3' la' le' mi' := by
  have h' := h
  obtain ⟨w0, w1, w2, w3⟩ := h'
  unfold fX7_sheet fX8_sheet
  rcases lt_cs p 3 (by omega) 3 4 rfl rfl rfl with ⟨h1, h2⟩ | ⟨⟨h1, h3, h4⟩, h2, i, hi, rfl⟩
  · rw [show fX8_in p.toInt64 0 3 = some 0 from h2, bd1_e, if_pos (show (0 : Int32) = 0 from rfl)]
    rcases h1 with h1 | ⟨h1, h3⟩
    · rw [if_pos h1]; exact ⟨_, _, _, _, _, _, _, _, _, _, _, _, _, _, _, _, rfl, rfl, h⟩
    · rw [if_neg h1, if_pos h3]; exact ⟨_, _, _, _, _, _, _, _, _, _, _, _, _, _, _, _, rfl, rfl, h⟩
  rw [show fX8_in (nI i).toInt64 0 3 = some 1 from h2, bd1_e, if_neg (show ¬ (1 : Int32) = 0 by decide), if_neg h1, if_neg h3]
  rcases lt_cs q 2 (by omega) 2 3 rfl rfl rfl with ⟨j1, j2⟩ | ⟨⟨j1, j3, j4⟩, j2, L, hL, rfl⟩
  · rw [show fX8_in q.toInt64 0 2 = some 0 from j2, bd1_e, if_pos (show (0 : Int32) = 0 from rfl)]
    rcases j1 with j1 | ⟨j1, j3⟩
    · rw [if_pos j1]; exact ⟨_, _, _, _, _, _, _, _, _, _, _, _, _, _, _, _, rfl, rfl, h⟩
    · rw [if_neg j1, if_pos j3]; exact ⟨_, _, _, _, _, _, _, _, _, _, _, _, _, _, _, _, rfl, rfl, h⟩
  rw [show fX8_in (nI L).toInt64 0 2 = some 1 from j2, bd1_e, if_neg (show ¬ (1 : Int32) = 0 by decide), if_neg j1, if_neg j3]
  by_cases c1 : r ≤ 40
  · rw [if_pos c1, if_pos c1]
    rcases nn_cs r with c2 | ⟨Z, hZ, rfl, c2⟩
    · rw [if_neg c2, if_neg c2]; exact ⟨_, _, _, _, _, _, _, _, _, _, _, _, _, _, _, _, rfl, rfl, h⟩
    · have hZ40 : Z ≤ 40 := by
        have := Int32.le_iff_toInt_le.mp c1
        rw [nI_toInt hZ] at this
        have h40 : (40 : Int32).toInt = 40 := rfl
        omega
      rw [if_pos c2, if_pos c2, wrN (show i < 4 by omega) (by omega), wrN (show i < 4 by omega) (by omega)]
      obtain ⟨mi', m1, m2, m3⟩ := m_sheet (la := upd la i (nI L)) (le := upd le i (nI Z)) (mi := mi) (p2 := nI L) (p3 := nI Z) (show i < 4 by omega)
      rw [m1]
      have new : ∀ it' : Nat → Int32, (∀ k, k < 40 → it' k = 0) → RW i it' (nI L) (nI Z) (upd la i (nI L)) (upd le i (nI Z)) mi' := fun it' hz => ⟨Or.inr ⟨L, by omega, rfl, us _ _ _⟩, (us _ _ _).symm, ⟨Z, hZ40, rfl⟩, fun k hk => by rw [hz k hk, m2 k hk]⟩
      have hi4 : i = 0 ∨ i = 1 ∨ i = 2 ∨ i = 3 := by omega
      rcases hi4 with rfl | rfl | rfl | rfl
      · obtain ⟨it', r1, r2⟩ := c_renew (it := t0) (l := l0) (z := z0) (p := nI L) (q := nI Z)
        rw [if_pos (show nI 0 = 0 from rfl), r1, bd3_e]
        exact ⟨_, _, _, _, _, _, _, _, _, _, _, _, _, _, _, _, rfl, rfl, new it' r2, RW_keep w1 (by omega) m3, RW_keep w2 (by omega) m3, RW_keep w3 (by omega) m3⟩
      · obtain ⟨it', r1, r2⟩ := c_renew (it := t1) (l := l1) (z := z1) (p := nI L) (q := nI Z)
        rw [if_neg (show ¬ nI 1 = 0 by decide), if_pos (show nI 1 = 1 from rfl), r1, bd3_e]
        exact ⟨_, _, _, _, _, _, _, _, _, _, _, _, _, _, _, _, rfl, rfl, RW_keep w0 (by omega) m3, new it' r2, RW_keep w2 (by omega) m3, RW_keep w3 (by omega) m3⟩
      · obtain ⟨it', r1, r2⟩ := c_renew (it := t2) (l := l2) (z := z2) (p := nI L) (q := nI Z)
        rw [if_neg (show ¬ nI 2 = 0 by decide), if_neg (show ¬ nI 2 = 1 by decide), if_pos (show nI 2 = 2 from rfl), r1, bd3_e]
        exact ⟨_, _, _, _, _, _, _, _, _, _, _, _, _, _, _, _, rfl, rfl, RW_keep w0 (by omega) m3, RW_keep w1 (by omega) m3, new it' r2, RW_keep w3 (by omega) m3⟩
      · obtain ⟨it', r1, r2⟩ := c_renew (it := t3) (l := l3) (z := z3) (p := nI L) (q := nI Z)
        rw [if_neg (show ¬ nI 3 = 0 by decide), if_neg (show ¬ nI 3 = 1 by decide), if_neg (show ¬ nI 3 = 2 by decide), if_pos (show nI 3 = 3 from rfl), r1, bd3_e]
        exact ⟨_, _, _, _, _, _, _, _, _, _, _, _, _, _, _, _, rfl, rfl, RW_keep w0 (by omega) m3, RW_keep w1 (by omega) m3, RW_keep w2 (by omega) m3, new it' r2⟩
  · rw [if_neg c1, if_neg c1]; exact ⟨_, _, _, _, _, _, _, _, _, _, _, _, _, _, _, _, rfl, rfl, h⟩
