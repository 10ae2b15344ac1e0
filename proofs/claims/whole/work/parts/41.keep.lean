/-! STEPS: keep, back, would -/
theorem m_copies {st : Nat → Int32} {o1 o2 : Nat} (h1 : o1 + 120 ≤ 720) (h2 : o2 + 120 ≤ 720) (hd : o1 + 120 ≤ o2 ∨ o2 + 120 ≤ o1) : ∃ st', fX8_copies st (nI o1) (nI o2) = some st' ∧ (∀ k, k < 120 → st' (o2 + k) = st (o1 + k)) ∧ (∀ k, k < o2 ∨ o2 + 120 ≤ k → st' k = st k) := by
  unfold fX8_copies
  refine fr1 (fX8_copies_b2 (nI o1) (nI o2)) 120 (fun t x => (∀ k, k < t → x (o2 + k) = st (o1 + k)) ∧ (∀ k, k < o2 ∨ o2 + t ≤ k → x k = st k)) (fun r => ∃ st', r = some st' ∧ (∀ k, k < 120 → st' (o2 + k) = st (o1 + k)) ∧ (∀ k, k < o2 ∨ o2 + 120 ≤ k → st' k = st k)) (by omega) ?_ ?_ fu 0 st (by omega) (by unfold fu; omega) ⟨fun k hk => by omega, fun k _ => rfl⟩
  · intro self t x ht ⟨i1, i2⟩ hself
    unfold fX8_copies_b2
    rw [if_neg (show ¬ (120 : Int32) ≤ nI t from nI_ge (b := 120) ht (by omega)), nI_add, nI_add, rdN (by omega) (by omega), wrN (by omega) (by omega), nI_1, i2 (o1 + t) (by omega)]
    refine hself _ ⟨fun k hk => ?_, fun k hk => ?_⟩
    · by_cases z : k = t
      · rw [z, us]
      · rw [un _ _ (by omega)]; exact i1 k (by omega)
    · rw [un _ _ (by omega)]; exact i2 k (by omega)
  · intro self x hI
    unfold fX8_copies_b2
    rw [if_pos (show (120 : Int32) ≤ nI 120 by decide)]
    exact ⟨x, rfl, hI⟩
theorem PM_of {F : Fo} {st st' : Nat → Int32} {o1 o2 : Nat} (h : PM F st o1) (hk : ∀ k, k < 120 → st' (o2 + k) = st (o1 + k)) : PM F st' o2 := fun c hc => by
  obtain ⟨a0, a1, a2, a3⟩ := h c hc
  refine ⟨(hk c (by omega)).trans a0, ?_, ?_, ?_⟩
  · rw [Nat.add_assoc] at a1 ⊢; exact (hk (30 + c) (by omega)).trans a1
  · rw [Nat.add_assoc] at a2 ⊢; exact (hk (60 + c) (by omega)).trans a2
  · rw [Nat.add_assoc] at a3 ⊢; exact (hk (90 + c) (by omega)).trans a3
theorem c_become {F : Fo} {v w : Nat → Int32} (h : PC F w) : ∃ o, fX1_become v w = some o ∧ PC F o := by
  unfold fX1_become cpy
  rw [if_pos (by decide)]
  refine ⟨_, rfl, fun c hc => ?_⟩
  have e : ∀ k, k < 120 → va_cpy w v 0 0 120 k = w k := fun k hk => by
    unfold va_cpy
    rw [if_pos (by omega)]
    congr 1
    omega
  show va_cpy w v 0 0 120 (4 * c) = _ ∧ va_cpy w v 0 0 120 (4 * c + 1) = _ ∧ va_cpy w v 0 0 120 (4 * c + 2) = _ ∧ va_cpy w v 0 0 120 (4 * c + 3) = _
  rw [e _ (by omega), e _ (by omega), e _ (by omega), e _ (by omega)]
  exact h c hc
/-- images -/
def IR (i0 i1 ik ik' st : Nat → Int32) : Prop := (ik 0 = ik' 0 ∧ ik 1 = ik' 1) ∧ ((ik 0 = 0 ∨ ik 0 = 1) ∧ (ik 1 = 0 ∨ ik 1 = 1)) ∧ (ik 0 = 1 → ∃ G, VFs G ∧ PC G i0 ∧ PM G st 120) ∧ (ik 1 = 1 → ∃ G, VFs G ∧ PC G i1 ∧ PM G st 240)
theorem IR_st {i0 i1 ik ik' st st' : Nat → Int32} (h : IR i0 i1 ik ik' st) (hk : ∀ k, 120 ≤ k → k < 360 → st' k = st k) : IR i0 i1 ik ik' st' := by
  obtain ⟨a, b, c, d⟩ := h
  refine ⟨a, b, fun z => ?_, fun z => ?_⟩
  · obtain ⟨G, g1, g2, g3⟩ := c z
    exact ⟨G, g1, g2, PM_of g3 (fun k h9 => hk _ (by omega) (by omega))⟩
  · obtain ⟨G, g1, g2, g3⟩ := d z
    exact ⟨G, g1, g2, PM_of g3 (fun k h9 => hk _ (by omega) (by omega))⟩
theorem two_cs (p : Int32) : ((p < 0 ∨ (¬ p < 0 ∧ ¬ p < 2)) ∧ fX8_in p.toInt64 0 1 = some 0) ∨ ((¬ p < 0 ∧ p < 2) ∧ fX8_in p.toInt64 0 1 = some 1 ∧ (p = 0 ∨ p = 1)) := by
  have hi : fX8_in p.toInt64 0 1 = some (if 0 ≤ p.toInt ∧ p.toInt ≤ 1 then 1 else 0) := by rw [f_in, to64]; rfl
  have h0 : (0 : Int32).toInt = 0 := rfl
  have h2 : (2 : Int32).toInt = 2 := rfl
  have h1 : (1 : Int32).toInt = 1 := rfl
  rw [hi]
  by_cases a : p.toInt < 0
  · exact Or.inl ⟨Or.inl (Int32.lt_iff_toInt_lt.mpr (by omega)), by rw [if_neg (by omega)]⟩
  · have na : ¬ p < 0 := fun z => by have := Int32.lt_iff_toInt_lt.mp z; omega
    by_cases b : p.toInt < 2
    · refine Or.inr ⟨⟨na, Int32.lt_iff_toInt_lt.mpr (by omega)⟩, by rw [if_pos (by omega)], ?_⟩
      by_cases z : p.toInt = 0
      · exact Or.inl (Int32.toInt_inj.mp (by omega))
      · exact Or.inr (Int32.toInt_inj.mp (by omega))
    · exact Or.inl ⟨Or.inr ⟨na, fun z => by have := Int32.lt_iff_toInt_lt.mp z; omega⟩, by rw [if_neg (by omega)]⟩
theorem q_keep {F : Fo} {parts i0 i1 ik ik' st : Nat → Int32} (p : Int32) (hF : VFs F) (hC : PC F parts) (hP : PM F st 0) (hI : IR i0 i1 ik ik' st) : ∃ r i0' i1' ik2 st' ik2', fX7_keep parts i0 i1 ik p = some (r, i0', i1', ik2) ∧ fX8_keep st ik' p = some (r, st', ik2') ∧ IR i0' i1' ik2 ik2' st' ∧ (∀ k, (k < 120 ∨ 360 ≤ k) → st' k = st k) := by
  have hI' := hI
  obtain ⟨⟨k0, k1⟩, ⟨z0, z1⟩, g0, g1⟩ := hI'
  unfold fX7_keep fX8_keep
  rcases two_cs p with ⟨h1, h2⟩ | ⟨⟨h1, h3⟩, h2, rfl | rfl⟩
  · rw [h2, bd1_e, if_pos (show (0 : Int32) = 0 from rfl)]
    rcases h1 with h1 | ⟨h1, h3⟩
    · rw [if_pos h1]; exact ⟨_, _, _, _, _, _, rfl, rfl, hI, fun _ _ => rfl⟩
    · rw [if_neg h1, if_neg h3]; exact ⟨_, _, _, _, _, _, rfl, rfl, hI, fun _ _ => rfl⟩
  · obtain ⟨o, o1, o2⟩ := c_become (v := i0) hC
    obtain ⟨st', s1, s2, s3⟩ := m_copies (st := st) (o1 := 0) (o2 := 120) (by omega) (by omega) (by omega)
    have fin1 : ∀ x : Int32, ∃ r i0' i1' ik2 st' ik2', fX7_keep_j25 parts 0 i0 i1 ik x = some (r, i0', i1', ik2) ∧ fX8_keep_j26 0 st ik' x = some (r, st', ik2') ∧ IR i0' i1' ik2 ik2' st' ∧ (∀ k, (k < 120 ∨ 360 ≤ k) → st' k = st k) := fun x => by
      unfold fX7_keep_j25 fX8_keep_j26
      rw [if_pos (show (0 : Int32) = 0 from rfl), o1, bd1_e, show (120 : Int32) * 0 + 120 = nI 120 from rfl, show fX8_copies st 0 (nI 120) = some st' from s1, bd1_e, wrC 0 0 rfl (by omega) (by omega), wrC 0 0 rfl (by omega) (by omega)]
      refine ⟨_, _, _, _, _, _, rfl, rfl, ⟨⟨by rw [us, us], by rw [un _ _ (by omega), un _ _ (by omega)]; exact k1⟩, ⟨Or.inr (us _ _ _), by rw [un _ _ (by omega)]; exact z1⟩, fun _ => ⟨F, hF, o2, PM_of hP s2⟩, fun z => ?_⟩, fun k hk => s3 k (by omega)⟩
      rw [un _ _ (by omega)] at z
      obtain ⟨G, g2, g3, g4⟩ := g1 z
      exact ⟨G, g2, g3, PM_of g4 (fun k h9 => s3 _ (by omega))⟩
    rw [h2, bd1_e, if_neg (show ¬ (1 : Int32) = 0 by decide), if_neg h1, if_pos h3, rdC 0 0 rfl (by omega) (by omega), rdC 0 0 rfl (by omega) (by omega), ← k0]
    by_cases z : ik 0 = 0
    · rw [if_pos z, if_pos z]; exact fin1 0
    · rw [if_neg z, if_neg z]; exact fin1 1
  · obtain ⟨o, o1, o2⟩ := c_become (v := i1) hC
    obtain ⟨st', s1, s2, s3⟩ := m_copies (st := st) (o1 := 0) (o2 := 240) (by omega) (by omega) (by omega)
    have fin1 : ∀ x : Int32, ∃ r i0' i1' ik2 st' ik2', fX7_keep_j25 parts 1 i0 i1 ik x = some (r, i0', i1', ik2) ∧ fX8_keep_j26 1 st ik' x = some (r, st', ik2') ∧ IR i0' i1' ik2 ik2' st' ∧ (∀ k, (k < 120 ∨ 360 ≤ k) → st' k = st k) := fun x => by
      unfold fX7_keep_j25 fX8_keep_j26
      rw [if_neg (show ¬ (1 : Int32) = 0 by decide), if_pos (show (1 : Int32) = 1 from rfl), o1, bd1_e, show (120 : Int32) * 1 + 120 = nI 240 from rfl, show fX8_copies st 0 (nI 240) = some st' from s1, bd1_e, wrC 1 1 rfl (by omega) (by omega), wrC 1 1 rfl (by omega) (by omega)]
      refine ⟨_, _, _, _, _, _, rfl, rfl, ⟨⟨by rw [un _ _ (by omega), un _ _ (by omega)]; exact k0, by rw [us, us]⟩, ⟨by rw [un _ _ (by omega)]; exact z0, Or.inr (us _ _ _)⟩, fun z => ?_, fun _ => ⟨F, hF, o2, PM_of hP s2⟩⟩, fun k hk => s3 k (by omega)⟩
      rw [un _ _ (by omega)] at z
      obtain ⟨G, g2, g3, g4⟩ := g0 z
      exact ⟨G, g2, g3, PM_of g4 (fun k h9 => s3 _ (by omega))⟩
    rw [h2, bd1_e, if_neg (show ¬ (1 : Int32) = 0 by decide), if_neg h1, if_pos h3, rdC 1 1 rfl (by omega) (by omega), rdC 1 1 rfl (by omega) (by omega), ← k1]
    by_cases z : ik 1 = 0
    · rw [if_pos z, if_pos z]; exact fin1 0
    · rw [if_neg z, if_neg z]; exact fin1 1
theorem HI_0 (h u : Nat → Int32) : HI h u 0 := ⟨by omega, fun k hk => by omega, fun i hi => by omega⟩
/-- the class begins anew with other formulas -/
theorem c_begin {G : Fo} {parts v : Nat → Int32} {n : RKT} {hs wc : Int32} (hG : VFs G) (hC : PC G v) : ∃ parts' n', fX7_beginWith parts n hs wc v = some (parts', n', 0, 0) ∧ PC G parts' ∧ NR G n' := by
  obtain ⟨o, o1, o2⟩ := c_become (v := parts) hC
  obtain ⟨V, H, R, W, kn, cc, cs, r1, r2⟩ := c_NR o2 hG (rkV n) (rkH n) (rkR n) (rkW n) (rkK n) (rkC n) (rkN n)
  unfold fX7_beginWith fX2_clear
  rw [o1, bd1_e, r1, bd7_e, bd1_e]
  exact ⟨_, _, rfl, o2, r2 _⟩
theorem q_back {F : Fo} {parts hist st mV mT mW mR mN mH u i0 i1 ik ik' : Nat → Int32} {n : RKT} {hs wc ev mv s mev mmv ic um : Int32} (p : Int32) (h : SR F parts n hist hs wc ev mv st mV mT mW mR mN mH s mev mmv ic u um) (hI : IR i0 i1 ik ik' st) :
    ∃ F' r parts' n' hs' wc' st' a b w e m k ic' um', fX7_back parts n hs i0 i1 ik wc p = some (r, parts', n', hs', wc') ∧ fX8_back st mV mT mW mR mN mH ic um ik' p = some (r, st', a, b, w, e, m, k, ic', um') ∧ SR F' parts' n' hist hs' wc' ev mv st' a b w e m k s mev mmv ic' u um' ∧ ∀ k, 120 ≤ k → st' k = st k := by
  have h' := h
  obtain ⟨hF, hC, hP, hN, hS, ⟨N, q1, q2, hH⟩, q3, hw, q4, q5⟩ := h'
  have hI' := hI
  obtain ⟨⟨k0, k1⟩, ⟨z0, z1⟩, g0, g1⟩ := hI'
  have srs : ∀ {G : Fo} {a b w e m k : Nat → Int32}, MR (fin G) a b w e m k → MRS F mV mT mW mR mN mH s → MRS G a b w e m k s := fun hm hs => by
    rcases hs with z | ⟨z, _⟩
    · exact Or.inl z
    · exact Or.inr ⟨z, hm⟩
  unfold fX7_back fX8_back
  rcases two_cs p with ⟨h1, h2⟩ | ⟨⟨h1, h3⟩, h2, rfl | rfl⟩
  · rw [h2, bd1_e, if_pos (show (0 : Int32) = 0 from rfl)]
    rcases h1 with h1 | ⟨h1, h3⟩
    · rw [if_pos h1]; exact ⟨F, _, _, _, _, _, _, _, _, _, _, _, _, _, _, rfl, rfl, h, fun _ _ => rfl⟩
    · rw [if_neg h1, if_neg h3]; exact ⟨F, _, _, _, _, _, _, _, _, _, _, _, _, _, _, rfl, rfl, h, fun _ _ => rfl⟩
  · rw [h2, bd1_e, if_neg (show ¬ (1 : Int32) = 0 by decide), if_neg h1, if_pos h3, rdC 0 0 rfl (by omega) (by omega), rdC 0 0 rfl (by omega) (by omega), ← k0]
    by_cases z : ik 0 = 0
    · rw [if_pos z, if_pos z]; exact ⟨F, _, _, _, _, _, _, _, _, _, _, _, _, _, _, rfl, rfl, h, fun _ _ => rfl⟩
    · obtain ⟨G, hG, hG1, hG2⟩ := g0 (z0.resolve_left z)
      obtain ⟨parts', n', c1, c2, c3⟩ := c_begin (parts := parts) (n := n) (hs := hs) (wc := wc) hG hG1
      obtain ⟨st', s1, s2, s3⟩ := m_copies (st := st) (o1 := 120) (o2 := 0) (by omega) (by omega) (by omega)
      have hP' : PM G st' 0 := PM_of hG2 s2
      obtain ⟨a, b, w, e, m, k, m1, m2⟩ := m_settles hP' hG mV mT mW mR mN mH
      rw [if_neg z, if_neg z, if_pos (show (0 : Int32) = 0 from rfl), c1, bd4_e, c_countTold hG c2, bd1_e, show (120 : Int32) * 0 + 120 = nI 120 from rfl, show fX8_copies st (nI 120) 0 = some st' from s1, bd1_e, m1, bd6_e, m_formulas hG hP', bd1_e]
      exact ⟨G, _, _, _, _, _, _, _, _, _, _, _, _, _, _, rfl, rfl, ⟨hG, c2, hP', c3, srs m2 hS, ⟨0, rfl, rfl, HI_0 _ _⟩, rfl, Or.inl rfl, q4, q5⟩, fun k hk => s3 k (by omega)⟩
  · rw [h2, bd1_e, if_neg (show ¬ (1 : Int32) = 0 by decide), if_neg h1, if_pos h3, rdC 1 1 rfl (by omega) (by omega), rdC 1 1 rfl (by omega) (by omega), ← k1]
    by_cases z : ik 1 = 0
    · rw [if_pos z, if_pos z]; exact ⟨F, _, _, _, _, _, _, _, _, _, _, _, _, _, _, rfl, rfl, h, fun _ _ => rfl⟩
    · obtain ⟨G, hG, hG1, hG2⟩ := g1 (z1.resolve_left z)
      obtain ⟨parts', n', c1, c2, c3⟩ := c_begin (parts := parts) (n := n) (hs := hs) (wc := wc) hG hG1
      obtain ⟨st', s1, s2, s3⟩ := m_copies (st := st) (o1 := 240) (o2 := 0) (by omega) (by omega) (by omega)
      have hP' : PM G st' 0 := PM_of hG2 s2
      obtain ⟨a, b, w, e, m, k, m1, m2⟩ := m_settles hP' hG mV mT mW mR mN mH
      rw [if_neg z, if_neg z, if_neg (show ¬ (1 : Int32) = 0 by decide), if_pos (show (1 : Int32) = 1 from rfl), c1, bd4_e, c_countTold hG c2, bd1_e, show (120 : Int32) * 1 + 120 = nI 240 from rfl, show fX8_copies st (nI 240) 0 = some st' from s1, bd1_e, m1, bd6_e, m_formulas hG hP', bd1_e]
      exact ⟨G, _, _, _, _, _, _, _, _, _, _, _, _, _, _, rfl, rfl, ⟨hG, c2, hP', c3, srs m2 hS, ⟨0, rfl, rfl, HI_0 _ _⟩, rfl, Or.inl rfl, q4, q5⟩, fun k hk => s3 k (by omega)⟩
