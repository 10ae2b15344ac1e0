/-! A PUT: history, make -/
def HE (h : Nat → Int32) (i : Nat) : Prop := ∃ c f, c < 30 ∧ VF f ∧ h (5 * i) = nI c ∧ h (5 * i + 1) = nI f.1 ∧ h (5 * i + 2) = nI f.2.1 ∧ h (5 * i + 3) = nI f.2.2.1 ∧ h (5 * i + 4) = nI f.2.2.2
def HI (h u : Nat → Int32) (N : Nat) : Prop := N ≤ 20 ∧ (∀ k, k < 5 * N → h k = u k) ∧ ∀ i, i < N → HE h i
def nxt (N : Nat) : Nat := if N = 20 then 20 else N + 1
def PU (h h' : Nat → Int32) (N c : Nat) (f : Fq) : Prop := (∀ k, k < 5 * (nxt N - 1) → h' k = if N = 20 then h (k + 5) else h k) ∧ h' (5 * (nxt N - 1)) = nI c ∧ h' (5 * (nxt N - 1) + 1) = nI f.1 ∧ h' (5 * (nxt N - 1) + 2) = nI f.2.1 ∧ h' (5 * (nxt N - 1) + 3) = nI f.2.2.1 ∧ h' (5 * (nxt N - 1) + 4) = nI f.2.2.2
theorem HI_push {h u h' u' : Nat → Int32} {N c : Nat} {f : Fq} (hI : HI h u N) (a : PU h h' N c f) (b : PU u u' N c f) (hc : c < 30) (hf : VF f) : HI h' u' (nxt N) := by
  obtain ⟨i1, i2, i3⟩ := hI
  obtain ⟨a0, a1, a2, a3, a4, a5⟩ := a
  obtain ⟨b0, b1, b2, b3, b4, b5⟩ := b
  have hn : (N = 20 ∧ nxt N = 20) ∨ (N < 20 ∧ nxt N = N + 1) := by
    unfold nxt
    by_cases e : N = 20
    · exact Or.inl ⟨e, if_pos e⟩
    · exact Or.inr ⟨by omega, if_neg e⟩
  refine ⟨by omega, fun k hk => ?_, fun i hi => ?_⟩
  · by_cases e : k < 5 * (nxt N - 1)
    · rw [a0 k e, b0 k e]
      rcases hn with ⟨n1, n2⟩ | ⟨n1, n2⟩
      · rw [if_pos n1, if_pos n1]; exact i2 _ (by omega)
      · rw [if_neg (by omega), if_neg (by omega)]; exact i2 _ (by omega)
    · have : k = 5 * (nxt N - 1) ∨ k = 5 * (nxt N - 1) + 1 ∨ k = 5 * (nxt N - 1) + 2 ∨ k = 5 * (nxt N - 1) + 3 ∨ k = 5 * (nxt N - 1) + 4 := by omega
      rcases this with z | z | z | z | z <;> rw [z]
      · rw [a1, b1]
      · rw [a2, b2]
      · rw [a3, b3]
      · rw [a4, b4]
      · rw [a5, b5]
  · by_cases e : i = nxt N - 1
    · rw [e]; exact ⟨c, f, hc, hf, a1, a2, a3, a4, a5⟩
    · rcases hn with ⟨n1, n2⟩ | ⟨n1, n2⟩
      · obtain ⟨c', f', d1, d2, d3, d4, d5, d6, d7⟩ := i3 (i + 1) (by omega)
        refine ⟨c', f', d1, d2, ?_, ?_, ?_, ?_, ?_⟩
        · rw [a0 _ (by omega), if_pos n1]; exact d3
        · rw [a0 _ (by omega), if_pos n1]; exact d4
        · rw [a0 _ (by omega), if_pos n1]; exact d5
        · rw [a0 _ (by omega), if_pos n1]; exact d6
        · rw [a0 _ (by omega), if_pos n1]; exact d7
      · obtain ⟨c', f', d1, d2, d3, d4, d5, d6, d7⟩ := i3 i (by omega)
        refine ⟨c', f', d1, d2, ?_, ?_, ?_, ?_, ?_⟩
        · rw [a0 _ (by omega), if_neg (by omega)]; exact d3
        · rw [a0 _ (by omega), if_neg (by omega)]; exact d4
        · rw [a0 _ (by omega), if_neg (by omega)]; exact d5
        · rw [a0 _ (by omega), if_neg (by omega)]; exact d6
        · rw [a0 _ (by omega), if_neg (by omega)]; exact d7
theorem c_push39 {h : Nat → Int32} {m c : Nat} {f : Fq} (hm : m < 20) : ∃ h', fX2_push_j39 (nI c) (nI f.1) (nI f.2.1) (nI f.2.2.1) (nI f.2.2.2) h (nI m) = some (h', nI (m + 1)) ∧ (∀ k, k < 5 * m → h' k = h k) ∧ h' (5 * m) = nI c ∧ h' (5 * m + 1) = nI f.1 ∧ h' (5 * m + 2) = nI f.2.1 ∧ h' (5 * m + 3) = nI f.2.2.1 ∧ h' (5 * m + 4) = nI f.2.2.2 := by
  have e0 : nI m * 5 = nI (5 * m) := by rw [show (5 : Int32) = nI 5 from rfl, pk_mul, Nat.mul_comm]
  unfold fX2_push_j39
  rw [e0, wrN (by omega) (by omega), wrC (nI (5 * m) + 1) (5 * m + 1) (nI_add (5 * m) 1) (by omega) (by omega), wrC (nI (5 * m) + 2) (5 * m + 2) (nI_add (5 * m) 2) (by omega) (by omega), wrC (nI (5 * m) + 3) (5 * m + 3) (nI_add (5 * m) 3) (by omega) (by omega), wrC (nI (5 * m) + 4) (5 * m + 4) (nI_add (5 * m) 4) (by omega) (by omega), nI_1]
  refine ⟨_, rfl, fun k hk => ?_, ?_, ?_, ?_, ?_, ?_⟩
  · rw [un _ _ (by omega), un _ _ (by omega), un _ _ (by omega), un _ _ (by omega), un _ _ (by omega)]
  · rw [un _ _ (by omega), un _ _ (by omega), un _ _ (by omega), un _ _ (by omega), us]
  · rw [un _ _ (by omega), un _ _ (by omega), un _ _ (by omega), us]
  · rw [un _ _ (by omega), un _ _ (by omega), us]
  · rw [un _ _ (by omega), us]
  · rw [us]
theorem c_push {h : Nat → Int32} {N c : Nat} {f : Fq} (hN : N ≤ 20) : ∃ h', fX2_push h (nI N) (nI c) (nI f.1) (nI f.2.1) (nI f.2.2.1) (nI f.2.2.2) = some (h', nI (nxt N)) ∧ PU h h' N c f := by
  unfold fX2_push
  by_cases e : N = 20
  · subst e
    rw [if_pos (show nI 20 = 20 from rfl)]
    unfold cpy
    rw [if_pos (by decide), show nI 20 - 1 = nI 19 from rfl]
    obtain ⟨h', h1, h2, h3⟩ := c_push39 (h := va_cpy h h (Int32.toNatClampNeg 5) (Int32.toNatClampNeg 0) (Int32.toNatClampNeg 95)) (m := 19) (c := c) (f := f) (by omega)
    refine ⟨h', h1, fun k hk => ?_, h3⟩
    have hk : k < 95 := hk
    rw [h2 k hk, if_pos rfl]
    show va_cpy h h 5 0 95 k = h (k + 5)
    unfold va_cpy
    rw [if_pos (by omega)]
    congr 1
    omega
  · rw [if_neg (show ¬ nI N = 20 from fun z => e (nI_inj (b := 20) z (by omega) (by omega)))]
    obtain ⟨h', h1, h2, h3⟩ := c_push39 (h := h) (m := N) (c := c) (f := f) (by omega)
    have hn : nxt N = N + 1 := if_neg e
    refine ⟨h', by rw [hn]; exact h1, fun k hk => ?_, ?_⟩
    · rw [hn] at hk
      rw [if_neg e]; exact h2 k (by omega)
    · rw [hn]; exact h3
theorem c_remember {F : Fo} {parts h : Nat → Int32} {N c : Nat} {x1 x2 x3 x4 x5 : Int32} (hC : PC F parts) (hc : c < 30) (hN : N ≤ 20) : ∃ h', fX7_remember parts (nI c) x1 x2 x3 x4 x5 h (nI N) = some (nI c, nI (F c).1, nI (F c).2.1, nI (F c).2.2.1, nI (F c).2.2.2, h', nI (nxt N)) ∧ PU h h' N c (F c) := by
  obtain ⟨t0, t1, t2, t3⟩ := hC c hc
  unfold fX7_remember fX0_tellAsIn fX0_tell
  rw [show fX1_part parts (nI c) 0 = some (nI (F c).1) from (f_part (k := 0) hc (by omega)).trans (by rw [Nat.add_zero, t0]), show fX1_part parts (nI c) 1 = some (nI (F c).2.1) from (f_part (k := 1) hc (by omega)).trans (by rw [t1]), show fX1_part parts (nI c) 2 = some (nI (F c).2.2.1) from (f_part (k := 2) hc (by omega)).trans (by rw [t2]), show fX1_part parts (nI c) 3 = some (nI (F c).2.2.2) from (f_part (k := 3) hc (by omega)).trans (by rw [t3]), bd1_e, bd1_e, bd1_e, bd1_e, bd5_e, bd5_e]
  obtain ⟨h', h1, h2⟩ := c_push (h := h) (c := c) (f := F c) hN
  rw [h1, bd2_e]
  exact ⟨h', rfl, h2⟩
theorem c_make {F : Fo} {parts : Nat → Int32} {n nx : RKT} {c : Nat} {f : Fq} {p1 p2 p3 p4 p5 wc ev mv : Int32} (hC : PC F parts) (hF : VFs F) (hN : NR F n) (hA : AF c f p1 p2 p3 p4 p5) : ∃ parts' n' x, fX7_make parts n nx p1 p2 p3 p4 p5 wc ev mv = some (nI (pop (rdF (rkR n) x ||| bI c)), parts', n', n, 1, rdF (rkR n) x ||| bI c, x) ∧ PC (up F c f) parts' ∧ NR (up F c f) n' ∧ mvS F (up F c f) x := by
  obtain ⟨o, o1, o2⟩ := c_take hC hA
  have hF' := VFs_up (c := c) hF hA.2.1
  obtain ⟨V, H, R, W, kn, cc, cs, r1, r2⟩ := c_NR o2 hF' (rkV nx) (rkH nx) (rkR nx) (rkW nx) (rkK nx) (rkC nx) (rkN nx)
  obtain ⟨x, x1, x2⟩ := c_moved hN (r2 (rkA nx)).1
  have x1 : fX3_movedTo (rkV n) (rkK n) V kn = some x := x1
  unfold fX7_make
  rw [o1, bd1_e, r1, bd7_e, x1, bd1_e, (rdF_e x (AL_fin hF) (RB_of hN.1)).1, bd1_e, hA.2.2.1, f_bit, bd1_e, bitCount_pop, bd1_e]
  exact ⟨_, _, x, rfl, o2, r2 _, x2⟩
theorem ev_hi {F : Fo} {n : RKT} {x : Int32} {c : Nat} (hF : VFs F) (hN : NR F n) (hc : c < 30) : hi0 (rdF (rkR n) x ||| bI c) := fun d hd => by
  by_cases y : d < 32
  · rw [b_or, (rdF_e x (AL_fin hF) (RB_of hN.1)).2.2 d hd, bt_bI c (by omega) d y, decide_eq_false (by omega)]; rfl
  · exact b_big (by omega)
theorem m_puts47 {F : Fo} {g st mV mT mW mR mN mH ov ot or' u : Nat → Int32} {m c : Nat} {s ev mv ic : Int32} (hP : PM F st 0) (hc : c < 30) (hm : m < 20) : ∃ u', fX8_puts_j47 g (nI c) st mV mT mW mR mN mH s ov ot or' ev mv ic u (nI m) = (bd13 (fX8_changes st mV mT mW mR mN mH s ov ot or' ev mv g (nI c)) fun st mV mT mW mR mN mH s ov ot or' ev mv => bd1 (fX8_bitsOf ev) fun r => some (r, st, mV, mT, mW, mR, mN, mH, s, ov, ot, or', ev, mv, 1, u', nI (m + 1))) ∧ (∀ k, k < 5 * m → u' k = u k) ∧ u' (5 * m) = nI c ∧ u' (5 * m + 1) = nI (F c).1 ∧ u' (5 * m + 2) = nI (F c).2.1 ∧ u' (5 * m + 3) = nI (F c).2.2.1 ∧ u' (5 * m + 4) = nI (F c).2.2.2 := by
  obtain ⟨s0, s1, s2, s3⟩ := hP c hc
  simp only [Nat.zero_add] at s0 s1 s2 s3
  have e0 : 5 * nI m = nI (5 * m) := by rw [show (5 : Int32) = nI 5 from rfl, pk_mul]
  unfold fX8_puts_j47
  rw [e0, wrN (by omega) (by omega)]
  refine fr1 (fX8_puts_b61 g (nI c) st mV mT mW mR mN mH s ov ot or' ev mv ic (nI m)) 4 (fun t x => (∀ k, k < 5 * m → x k = u k) ∧ x (5 * m) = nI c ∧ ∀ j, j < t → x (5 * m + 1 + j) = st (30 * j + c)) (fun r => ∃ u', r = (bd13 (fX8_changes st mV mT mW mR mN mH s ov ot or' ev mv g (nI c)) fun st mV mT mW mR mN mH s ov ot or' ev mv => bd1 (fX8_bitsOf ev) fun r => some (r, st, mV, mT, mW, mR, mN, mH, s, ov, ot, or', ev, mv, 1, u', nI (m + 1))) ∧ (∀ k, k < 5 * m → u' k = u k) ∧ u' (5 * m) = nI c ∧ u' (5 * m + 1) = nI (F c).1 ∧ u' (5 * m + 2) = nI (F c).2.1 ∧ u' (5 * m + 3) = nI (F c).2.2.1 ∧ u' (5 * m + 4) = nI (F c).2.2.2) (by omega) ?_ ?_ fu 0 _ (by omega) (by unfold fu; omega) ⟨fun k hk => un _ _ (by omega), us _ _ _, fun j hj => by omega⟩
  · intro self t x ht ⟨i1, i2, i3⟩ hself
    unfold fX8_puts_b61
    rw [if_neg (show ¬ (4 : Int32) ≤ nI t from nI_ge (b := 4) ht (by omega)), show (30 : Int32) = nI 30 from rfl, pk_mul, nI_add, rdN (by omega) (by omega), e0, wrC _ (5 * m + 1 + t) (by rw [nI_1, nI_add]) (by omega) (by omega), nI_1]
    refine hself _ ⟨fun k hk => by rw [un _ _ (by omega)]; exact i1 k hk, by rw [un _ _ (by omega)]; exact i2, fun j hj => ?_⟩
    by_cases z : j = t
    · rw [z, us]
    · rw [un _ _ (by omega)]; exact i3 j (by omega)
  · intro self x ⟨i1, i2, i3⟩
    unfold fX8_puts_b61
    rw [if_pos (show (4 : Int32) ≤ nI 4 by decide), nI_1]
    refine ⟨x, rfl, i1, i2, ?_, ?_, ?_, ?_⟩
    · have := i3 0 (by omega); rw [this, ← s0]; congr 1; omega
    · have := i3 1 (by omega); rw [this, ← s1]
    · have := i3 2 (by omega); rw [this, ← s2]
    · have := i3 3 (by omega); rw [this, ← s3]
theorem m_puts {F : Fo} {g st mV mT mW mR mN mH ov ot or' u : Nat → Int32} {N c : Nat} {s ev mv ic : Int32} (hP : PM F st 0) (hc : c < 30) (hN : N ≤ 20) : ∃ u', fX8_puts st mV mT mW mR mN mH s ov ot or' ev mv ic u (nI N) g (nI c) = (bd13 (fX8_changes st mV mT mW mR mN mH s ov ot or' ev mv g (nI c)) fun st mV mT mW mR mN mH s ov ot or' ev mv => bd1 (fX8_bitsOf ev) fun r => some (r, st, mV, mT, mW, mR, mN, mH, s, ov, ot, or', ev, mv, 1, u', nI (nxt N))) ∧ PU u u' N c (F c) := by
  unfold fX8_puts
  by_cases e : N = 20
  · subst e
    rw [if_pos (show nI 20 = 20 from rfl)]
    refine fr1 (fX8_puts_b11 g (nI c) st mV mT mW mR mN mH s ov ot or' ev mv ic (nI 20)) 95 (fun t x => (∀ k, k < t → x k = u (k + 5)) ∧ (∀ k, t ≤ k → x k = u k)) (fun r => ∃ u', r = (bd13 (fX8_changes st mV mT mW mR mN mH s ov ot or' ev mv g (nI c)) fun st mV mT mW mR mN mH s ov ot or' ev mv => bd1 (fX8_bitsOf ev) fun r => some (r, st, mV, mT, mW, mR, mN, mH, s, ov, ot, or', ev, mv, 1, u', nI (nxt 20))) ∧ PU u u' 20 c (F c)) (by omega) ?_ ?_ fu 0 u (by omega) (by unfold fu; omega) ⟨fun k hk => by omega, fun k _ => rfl⟩
    · intro self t x ht ⟨i1, i2⟩ hself
      unfold fX8_puts_b11
      rw [if_neg (show ¬ (95 : Int32) ≤ nI t from nI_ge (b := 95) ht (by omega)), rdC (nI t + 5) (t + 5) (nI_add t 5) (by omega) (by omega), wrN (by omega) (by omega), nI_1]
      refine hself _ ⟨fun k hk => ?_, fun k hk => by rw [un _ _ (by omega)]; exact i2 k (by omega)⟩
      by_cases z : k = t
      · rw [z, us]; exact i2 _ (by omega)
      · rw [un _ _ z]; exact i1 k (by omega)
    · intro self x ⟨i1, i2⟩
      unfold fX8_puts_b11
      rw [if_pos (show (95 : Int32) ≤ nI 95 by decide), show nI 20 - 1 = nI 19 from rfl]
      obtain ⟨u', h1, h2, h3⟩ := m_puts47 (g := g) (mV := mV) (mT := mT) (mW := mW) (mR := mR) (mN := mN) (mH := mH) (ov := ov) (ot := ot) (or' := or') (u := x) (s := s) (ev := ev) (mv := mv) (ic := ic) (m := 19) hP hc (by omega)
      refine ⟨u', h1, fun k hk => ?_, h3⟩
      have hk : k < 95 := hk
      rw [h2 k hk, i1 k hk, if_pos rfl]
  · rw [if_neg (show ¬ nI N = 20 from fun z => e (nI_inj (b := 20) z (by omega) (by omega)))]
    obtain ⟨u', h1, h2, h3⟩ := m_puts47 (g := g) (mV := mV) (mT := mT) (mW := mW) (mR := mR) (mN := mN) (mH := mH) (ov := ov) (ot := ot) (or' := or') (u := u) (s := s) (ev := ev) (mv := mv) (ic := ic) (m := N) hP hc (by omega)
    have hn : nxt N = N + 1 := if_neg e
    refine ⟨u', by rw [hn]; exact h1, fun k hk => ?_, ?_⟩
    · rw [hn] at hk
      rw [if_neg e]; exact h2 k (by omega)
    · rw [hn]; exact h3
