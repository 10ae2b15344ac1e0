/-! TEXT: a line -/
def OV (K w : Nat) (f : Fq) : Prop := f.1 = K ∧ (w ≤ 3 → f.2.2.2 = 0) ∧ (w ≤ 2 → f.2.2.1 = 0) ∧ (1 < w → f.2.1 ≤ (if K = 1 then 999 else 29)) ∧ (2 < w → f.2.2.1 < 30 ∧ ((K = 6 ∨ K = 7) → f.2.1 ≤ f.2.2.1)) ∧ (3 < w → f.2.2.2 < 30)
theorem OV_VF {K : Nat} {f : Fq} (h1 : 1 ≤ K) (h8 : K ≤ 8) (h : OV K (opN K + 1) f) : VF f := by
  obtain ⟨a, b, c, d, e, g⟩ := h
  have hc : K = 1 ∨ (K = 2 ∨ K = 3 ∨ K = 4) ∨ K = 5 ∨ (K = 6 ∨ K = 7) ∨ K = 8 := by omega
  unfold opN at b c d e g
  rcases hc with q | q | q | q | q
  · rw [if_neg (by omega), if_pos (by omega)] at b c d e g
    rw [if_pos q] at d
    exact Or.inr (Or.inl ⟨by omega, d (by omega), c (by omega), b (by omega)⟩)
  · rw [if_neg (by omega), if_neg (by omega), if_neg (by omega)] at b c d e g
    rw [if_neg (by omega)] at d
    exact Or.inr (Or.inr (Or.inl ⟨by omega, by have := d (by omega); omega, (e (by omega)).1, b (by omega)⟩))
  · rw [if_neg (by omega), if_pos (by omega)] at b c d e g
    rw [if_neg (by omega)] at d
    exact Or.inr (Or.inr (Or.inr (Or.inl ⟨by omega, by have := d (by omega); omega, c (by omega), b (by omega)⟩)))
  · rw [if_neg (by omega), if_neg (by omega), if_neg (by omega)] at b c d e g
    exact Or.inr (Or.inr (Or.inr (Or.inr (Or.inl ⟨by omega, (e (by omega)).2 q, (e (by omega)).1, b (by omega)⟩))))
  · rw [if_neg (by omega), if_neg (by omega), if_pos (by omega)] at b c d e g
    rw [if_neg (by omega)] at d
    exact Or.inr (Or.inr (Or.inr (Or.inr (Or.inr ⟨by omega, by have := d (by omega); omega, (e (by omega)).1, g (by omega)⟩))))
def sf (f : Fq) (w v : Nat) : Fq := (f.1, if w = 1 then v else f.2.1, if w = 2 then v else f.2.2.1, if w = 3 then v else f.2.2.2)
theorem PC_sf {G : Fo} {d : Nat → Int32} {c w v : Nat} {f : Fq} (h : PC (up G c f) d) (hc : c < 30) (h1 : 1 ≤ w) (h3 : w ≤ 3) : PC (up G c (sf f w v)) (upd d (4 * c + w) (nI v)) := fun e he => by
  obtain ⟨a, b, b2, b3⟩ := h e he
  by_cases q : e = c
  · subst q
    rw [up_s] at a b b2 b3 ⊢
    unfold sf
    have hw : w = 1 ∨ w = 2 ∨ w = 3 := by omega
    rcases hw with rfl | rfl | rfl
    · exact ⟨by rw [un _ _ (by omega)]; exact a, us _ _ _, by rw [un _ _ (by omega)]; exact b2, by rw [un _ _ (by omega)]; exact b3⟩
    · exact ⟨by rw [un _ _ (by omega)]; exact a, by rw [un _ _ (by omega)]; exact b, us _ _ _, by rw [un _ _ (by omega)]; exact b3⟩
    · exact ⟨by rw [un _ _ (by omega)]; exact a, by rw [un _ _ (by omega)]; exact b, by rw [un _ _ (by omega)]; exact b2, us _ _ _⟩
  · rw [up_n _ _ q] at a b b2 b3 ⊢
    exact ⟨by rw [un _ _ (by omega)]; exact a, by rw [un _ _ (by omega)]; exact b, by rw [un _ _ (by omega)]; exact b2, by rw [un _ _ (by omega)]; exact b3⟩
theorem PM_sf {G : Fo} {d : Nat → Int32} {c w v : Nat} {f : Fq} (h : PM (up G c f) d 360) (hc : c < 30) (h1 : 1 ≤ w) (h3 : w ≤ 3) : PM (up G c (sf f w v)) (upd d (360 + 30 * w + c) (nI v)) 360 := fun e he => by
  obtain ⟨a, b, b2, b3⟩ := h e he
  by_cases q : e = c
  · subst q
    rw [up_s] at a b b2 b3 ⊢
    unfold sf
    have hw : w = 1 ∨ w = 2 ∨ w = 3 := by omega
    rcases hw with rfl | rfl | rfl
    · exact ⟨by rw [un _ _ (by omega)]; exact a, us _ _ _, by rw [un _ _ (by omega)]; exact b2, by rw [un _ _ (by omega)]; exact b3⟩
    · exact ⟨by rw [un _ _ (by omega)]; exact a, by rw [un _ _ (by omega)]; exact b, us _ _ _, by rw [un _ _ (by omega)]; exact b3⟩
    · exact ⟨by rw [un _ _ (by omega)]; exact a, by rw [un _ _ (by omega)]; exact b, by rw [un _ _ (by omega)]; exact b2, us _ _ _⟩
  · rw [up_n _ _ q] at a b b2 b3 ⊢
    exact ⟨by rw [un _ _ (by omega)]; exact a, by rw [un _ _ (by omega)]; exact b, by rw [un _ _ (by omega)]; exact b2, by rw [un _ _ (by omega)]; exact b3⟩
/-- how a line ends: with the same fault, or taken by both -/
def LR (by_ tp : Nat → Int32) (T x : Nat) (fl : Int32) (st : Nat → Int32) (o1 : Option (Int32 × (Nat → Int32) × Int32 × Int32 × Int32 × Int32 × Int32)) (o2 : Option ((Nat → Int32) × Int32 × Int32 × Int32 × Int32 × Int32 × Int32)) : Prop :=
  (∃ (d' : Nat → Int32) (e a : Int32) (z' : Nat) (tc n' : Int32) (st' : Nat → Int32) (sp he tm nm : Int32), (e = 1 ∨ e = 2 ∨ e = 3) ∧ o1 = some (0, d', e, a, nI z', tc, n') ∧ o2 = some (st', e, nI z', sp, he, tm, nm) ∧ ∀ j, (j < 360 ∨ 480 ≤ j) → st' j = st j) ∨
  (∃ (G' : Fo) (d' st' : Nat → Int32) (x' : Nat) (s t n : Int32) (y z C N : Nat) (tm nm ba' : Int32), VFs G' ∧ PC G' d' ∧ PM G' st' 360 ∧ x < x' ∧ x' ≤ T ∧ o1 = some (1, d', fl, nI x', s, t, n) ∧ TOK by_ tp T x' y z C N tm nm ∧ o2 = some (st', brC C, baC C z ba', nI y, nI z, tm, nm) ∧ ∀ j, (j < 360 ∨ 480 ≤ j) → st' j = st j)
theorem LR.st {by_ tp : Nat → Int32} {T x x0 : Nat} {fl : Int32} {st st0 : Nat → Int32} {o1 : Option (Int32 × (Nat → Int32) × Int32 × Int32 × Int32 × Int32 × Int32)} {o2 : Option ((Nat → Int32) × Int32 × Int32 × Int32 × Int32 × Int32 × Int32)} (h : LR by_ tp T x fl st o1 o2) (hk : ∀ j, (j < 360 ∨ 480 ≤ j) → st j = st0 j) (hx : x0 ≤ x) : LR by_ tp T x0 fl st0 o1 o2 := by
  rcases h with ⟨d', e, a, z', tc, n', st', sp, he, tm, nm, h1, h2, h3, h4⟩ | ⟨G', d', st', x', s, t, n, y, z, C, N, tm, nm, ba', h1, h2, h3, h4, h5, h6, h7, h8, h9⟩
  · exact Or.inl ⟨d', e, a, z', tc, n', st', sp, he, tm, nm, h1, h2, h3, fun j hj => (h4 j hj).trans (hk j hj)⟩
  · exact Or.inr ⟨G', d', st', x', s, t, n, y, z, C, N, tm, nm, ba', h1, h2, h3, by omega, h5, h6, h7, h8, fun j hj => (h9 j hj).trans (hk j hj)⟩
theorem ops_j {by_ tp en le : Nat → Int32} {tb : Nat → Nat} {T K c : Nat} {G : Fo} (h : TP by_ tp tb T) (h1 : 1 ≤ K) (h8 : K ≤ 8) (hc : c < 30) (hG : VFs G) : ∀ r w, w + r = opN K + 1 → 2 ≤ w → ∀ k1 k2, r < k1 → r < k2 → ∀ (f : Fq) (x y z C N : Nat) (tm nm : Int32) (d st : Nat → Int32) (fl s t n ba : Int32), OV K w f → PC (up G c f) d → PM (up G c f) st 360 → TOK by_ tp T x y z C N tm nm →
    LR by_ tp T x fl st (lq7 (fX6_takesLine_b67 by_ (nI T) (nI K) (nI c) (nI (if K = 1 then 999 else 29)) (nI (opN K))) k1 d fl (nI x) s t n (nI w)) (lq8 (fX8_readLine_b102 tp (nI T) en le (nI K) (nI c) (nI f.2.1)) k2 st (brC C) (baC C z ba) (nI y) (nI z) tm nm (nI w)) := by
  have hO := opN_le K (by omega)
  intro r
  induction r with
  | zero =>
    intro w hw h2 k1 k2 hk1 hk2 f x y z C N tm nm d st fl s t n ba hV hP hM hK
    obtain ⟨k1, rfl⟩ : ∃ q, k1 = q + 1 := ⟨k1 - 1, by omega⟩
    obtain ⟨k2, rfl⟩ : ∃ q, k2 = q + 1 := ⟨k2 - 1, by omega⟩
    obtain ⟨t1, t2, t3, t4, t5, t6, t7, t8, t9⟩ := hK
    obtain ⟨n', a1, a2⟩ := t8 s t n
    have hw' : w = opN K + 1 := by omega
    rw [lq7_s, lq8_s]
    unfold fX6_takesLine_b67 fX8_readLine_b102 fX6_fails fX6_fails_j14 fX8_readLine_j176
    rw [if_pos (nI_lt (show opN K < w by omega) (by omega)), m_ops K (by omega), bd1_e, if_pos (nI_lt (show opN K < w by omega) (by omega)), a1, bd4_e]
    by_cases e4 : C = 4
    · subst e4
      rw [show brC 4 = 1 from rfl, show baC 4 z ba = nI z from rfl, if_neg (show ¬ nI 4 = 3 by decide), if_pos (show nI 4 = 4 from rfl), bd2_e, if_pos (show (0 : Int32) = 0 from rfl), if_neg (show ¬ (1 : Int32) = 0 by decide), m_broken (Or.inl rfl), bd6_e]
      exact Or.inl ⟨_, 1, _, z, _, _, _, _, _, _, _, Or.inl rfl, rfl, rfl, fun _ _ => rfl⟩
    · have n4 : ¬ nI C = 4 := fun w => e4 (nI_inj (b := 4) w (by omega) (by omega))
      rw [show brC C = 0 from if_neg e4, show baC C z ba = ba from if_neg e4, if_pos (show (0 : Int32) = 0 from rfl), t7 e4]
      by_cases e3 : C = 3
      · subst e3
        obtain ⟨y2, z2, C2, N2, tm2, nm2, hK2⟩ := tok h t3
        rw [if_pos (show nI 3 = 3 from rfl), if_pos (show nI 3 = 3 from rfl), hK2.2.2.2.2.2.2.2.2, bd6_e]
        refine Or.inr ⟨up G c f, _, _, y, _, _, _, y2, z2, C2, N2, tm2, nm2, ba, VFs_up hG (OV_VF h1 h8 (by rw [← hw']; exact hV)), hP, hM, by have := t5 (by omega); omega, t3, rfl, hK2, rfl, fun _ _ => rfl⟩
      · have n3 : ¬ nI C = 3 := fun w => e3 (nI_inj (b := 3) w (by omega) (by omega))
        unfold fX8_fails
        rw [if_neg n3, if_neg n3, if_neg n4, bd2_e, if_pos (show (0 : Int32) = 0 from rfl), if_pos (show (0 : Int32) = 0 from rfl), bd2_e, m_broken (Or.inr (Or.inl rfl)), bd6_e]
        exact Or.inl ⟨_, 2, _, z, _, _, _, _, _, _, _, Or.inr (Or.inl rfl), rfl, rfl, fun _ _ => rfl⟩
  | succ r ih =>
    intro w hw h2 k1 k2 hk1 hk2 f x y z C N tm nm d st fl s t n ba hV hP hM hK
    obtain ⟨k1, rfl⟩ : ∃ q, k1 = q + 1 := ⟨k1 - 1, by omega⟩
    obtain ⟨k2, rfl⟩ : ∃ q, k2 = q + 1 := ⟨k2 - 1, by omega⟩
    have hn1 : K ≠ 1 := fun q => by rw [q] at hw; have : opN 1 = 1 := rfl; omega
    have hM29 : (if K = 1 then 999 else 29) = 29 := if_neg hn1
    have hd1 : d (4 * c + 1) = nI f.2.1 := by have := (hP c hc).2.1; rwa [up_s] at this
    have hlo : ∃ lo, lo < 2 ^ 31 ∧ (if (K = 6 ∨ K = 7) ∧ w = 2 then d (4 * c + 1) else 0) = nI lo ∧ (if K = 6 ∨ K = 7 then nI f.2.1 else 0) = nI lo ∧ ((K = 6 ∨ K = 7) → f.2.1 = lo) := by
      by_cases q : K = 6 ∨ K = 7
      · have : w = 2 := by
          have : opN K = 2 := by rcases q with rfl | rfl <;> rfl
          omega
        have hv := hV.2.2.2.1 (by omega)
        rw [hM29] at hv
        exact ⟨f.2.1, by omega, by rw [if_pos ⟨q, this⟩, hd1], by rw [if_pos q], fun _ => rfl⟩
      · exact ⟨0, by omega, by rw [if_neg (fun w => q w.1)]; rfl, by rw [if_neg q]; rfl, fun w => absurd w q⟩
    obtain ⟨lo, l0, l1, l2, l3⟩ := hlo
    have hy : y ≤ T := hK.2.2.1
    have hx1 : x ≤ y := Nat.le_trans hK.1 hK.2.1
    rw [c_op (by omega) hc (by omega) (by omega), m_op (by omega) hc (by omega) (by omega), l1, l2, hM29, show (29 : Int32) = nI 29 from rfl]
    rcases num hK l0 (show 29 < 2 ^ 31 by omega) fl s t n ba with ⟨e, n', tc, he, q1, q2⟩ | ⟨q0, q1, q2, q3, q4⟩
    · obtain ⟨st', m1, m2⟩ := m_tail (tp := tp) (en := en) (le := le) (T := nI T) (sp := nI y) (he := nI z) (tm := tm) (nm := nm) (ba := nI z) (p := nI f.2.1) (show K < 9 by omega) hc he r (w + 1) k2 (upd st (360 + 30 * w + c) (nI lo)) (by omega) (by omega)
      rw [q1, bd6_e, if_pos (show (0 : Int32) = 0 from rfl), q2, bd7_e, m1]
      refine Or.inl ⟨_, e, _, z, _, _, _, _, _, _, _, he, rfl, rfl, fun j hj => ?_⟩
      rw [m2 j hj, un _ _ (by omega)]
    · obtain ⟨y2, z2, C2, N2, tm2, nm2, hK2⟩ := tok h hy
      rw [q3, bd6_e, if_neg (show ¬ (1 : Int32) = 0 by decide), q4 _ _ _ _ _ _ hK2, bd7_e]
      have hw3 : w = 2 ∨ w = 3 := by omega
      have hsf : (sf f w N).2.1 = f.2.1 := by unfold sf; exact if_neg (by omega)
      have := ih (w + 1) (by omega) (by omega) k1 k2 (by omega) (by omega) (sf f w N) y y2 z2 C2 N2 tm2 nm2 (upd d (4 * c + w) (nI N)) (upd st (360 + 30 * w + c) (nI N)) fl (nI z) 2 (nI N) ba ?_ (PC_sf hP hc (by omega) (by omega)) (PM_sf hM hc (by omega) (by omega)) hK2
      · rw [hsf, hM29] at this
        exact this.st (fun j hj => un _ _ (by omega)) hx1
      · obtain ⟨v1, v2, v3, v4, v5, v6⟩ := hV
        unfold sf
        rcases hw3 with rfl | rfl
        · exact ⟨v1, fun q => v2 (by omega), fun q => by omega, fun q => v4 (by omega), fun q => ⟨by show N < 30; omega, fun g => by show f.2.1 ≤ N; rw [l3 g]; exact q1⟩, fun q => by omega⟩
        · exact ⟨v1, fun q => by omega, fun q => by omega, fun q => v4 (by omega), fun q => v5 (by omega), fun q => by show N < 30; omega⟩
theorem c_beginK {G : Fo} {d : Nat → Int32} {c K : Nat} (h : PC G d) (hc : c < 30) : ∃ d', fX1_begin d (nI c) (nI K) = some d' ∧ PC (up G c (K, 0, 0, 0)) d' := by
  have ha : ∀ w : Nat, nI c * 4 + nI w = nI (4 * c + w) := fun w => by rw [show (4 : Int32) = nI 4 from rfl, pk_mul, nI_add, Nat.mul_comm]
  unfold fX1_begin
  rw [show nI c * 4 + (0 : Int32) = nI (4 * c + 0) from ha 0, show nI c * 4 + (1 : Int32) = nI (4 * c + 1) from ha 1, show nI c * 4 + (2 : Int32) = nI (4 * c + 2) from ha 2, show nI c * 4 + (3 : Int32) = nI (4 * c + 3) from ha 3, wrN (by omega) (by omega), wrN (by omega) (by omega), wrN (by omega) (by omega), wrN (by omega) (by omega)]
  refine ⟨_, rfl, fun e he => ?_⟩
  by_cases q : e = c
  · subst q
    rw [up_s]
    refine ⟨?_, ?_, ?_, ?_⟩
    · rw [un _ _ (by omega), un _ _ (by omega), un _ _ (by omega)]; exact us _ _ _
    · rw [un _ _ (by omega), un _ _ (by omega)]; exact us _ _ _
    · rw [un _ _ (by omega)]; exact us _ _ _
    · exact us _ _ _
  · rw [up_n _ _ q]
    obtain ⟨a, b, b2, b3⟩ := h e he
    refine ⟨?_, ?_, ?_, ?_⟩
    · rw [un _ _ (by omega), un _ _ (by omega), un _ _ (by omega), un _ _ (by omega)]; exact a
    · rw [un _ _ (by omega), un _ _ (by omega), un _ _ (by omega), un _ _ (by omega)]; exact b
    · rw [un _ _ (by omega), un _ _ (by omega), un _ _ (by omega), un _ _ (by omega)]; exact b2
    · rw [un _ _ (by omega), un _ _ (by omega), un _ _ (by omega), un _ _ (by omega)]; exact b3
theorem line {by_ tp en le : Nat → Int32} {tb : Nat → Nat} {T x y z C N : Nat} {G : Fo} {d st : Nat → Int32} {tm nm : Int32} (h : TP by_ tp tb T) (hE : EL en le) (hG : VFs G) (hP : PC G d) (hM : PM G st 360) (hK : TOK by_ tp T x y z C N tm nm) (h4 : C ≠ 4) (fl n0 ba : Int32) : LR by_ tp T z fl st (fX6_takesLine d fl by_ (nI T) (nI y) (nI z) (nI C) n0) (fX8_readLine st tp (nI T) 0 ba (nI y) (nI z) tm nm en le) := by
  have hT := h.1
  obtain ⟨t1, t2, t3, t4, t5, t6, t7, t8, t9⟩ := hK
  rw [t7 h4]
  unfold fX6_takesLine fX8_readLine
  rcases kinds h hE t2 t3 (show C ≤ 3 by omega) with ⟨k1, k2⟩ | ⟨K, h1, h8, hC1, k1, k2⟩
  · unfold fX6_fails fX6_fails_j14 fX8_fails
    rw [k1, k2, bd1_e, bd1_e, if_pos (show (0 : Int32) = 0 from rfl), if_pos (show (-4 : Int32) = -4 from rfl), if_neg (show ¬ nI C = 4 from fun w => h4 (nI_inj (b := 4) w (by omega) (by omega))), bd2_e, ckT (Or.inl rfl), if_pos (show (0 : Int32) = 0 from rfl), bd2_e]
    exact Or.inl ⟨_, 2, _, z, _, _, _, _, _, _, _, Or.inr (Or.inl rfl), rfl, rfl, fun _ _ => rfl⟩
  · have hO := opN_le K (by omega)
    have hO1 : 1 ≤ opN K := by unfold opN; repeat' split
                               all_goals omega
    obtain ⟨y1, z1, C1, N1, tm1, nm1, hK1⟩ := tok h t3
    have hy1 : y1 ≤ T := hK1.2.2.1
    have hyy : y ≤ y1 := Nat.le_trans hK1.1 hK1.2.1
    have hzy : z < y := t5 (by omega)
    rw [k1, k2, bd1_e, bd1_e, if_neg (nI_ne0 (by omega) (by omega)), if_neg (nI_ne_m4 (by omega)), hK1.2.2.2.2.2.2.2.2, bd6_e]
    have tail : ∀ (e ba sp he tm nm : Int32) (c : Nat) (st2 : Nat → Int32), c < 30 → (e = 1 ∨ e = 2 ∨ e = 3) → (∀ j, (j < 360 ∨ 480 ≤ j) → st2 j = st j) → ∃ st', lq8 (fX8_readLine_b102 tp (nI T) en le (nI K) (nI c) 0) fu st2 e ba sp he tm nm 2 = some (st', e, ba, sp, he, tm, nm) ∧ ∀ j, (j < 360 ∨ 480 ≤ j) → st' j = st j := fun e ba sp he tm nm c st2 hc he' hk => by
      obtain ⟨st', m1, m2⟩ := m_tail (tp := tp) (en := en) (le := le) (T := nI T) (sp := sp) (he := he) (tm := tm) (nm := nm) (ba := ba) (p := 0) (show K < 9 by omega) hc he' (opN K - 1) 2 fu st2 (by omega) (by unfold fu; omega)
      exact ⟨st', m1, fun j hj => (m2 j hj).trans (hk j hj)⟩
    rcases num hK1 (lo := 0) (hi := 29) (by omega) (by omega) fl (nI z) (nI C) n0 ba with ⟨e, n', tc, he, q1, q2⟩ | ⟨q0, q1, q2, q3, q4⟩
    · obtain ⟨st1, b1, b2, b3⟩ := m_b31 (tp := tp) (en := en) (le := le) (st := st) (T := nI T) (sp := nI y1) (he := nI z1) (tm := tm1) (nm := nm1) (br := e) (ba := nI z1) (K := K) (c := 0) (by omega) (by omega)
      rw [show fX6_takesNumber fl by_ (nI T) (nI y) (nI z) (nI C) n0 0 29 = _ from q1, bd6_e, if_pos (show (0 : Int32) = 0 from rfl), show fX8_numberRead tp (nI T) (if C1 = 4 then 1 else 0) (if C1 = 4 then nI z1 else ba) (nI y1) (nI z1) tm1 nm1 0 29 = _ from q2, bd7_e, b1]
      unfold fX8_readLine_j84
      rw [m_numB he, bd7_e, show (390 : Int32) + nI 0 = nI 390 from rfl, wrN (by omega) (by omega)]
      obtain ⟨st', m1, m2⟩ := tail e (nI z1) (nI y1) (nI z1) tm1 nm1 0 (upd st1 390 0) (by omega) he (fun j hj => by rw [un _ _ (by omega), b3 j (by omega) (by omega) (by omega) (by omega)])
      rw [m1]
      exact Or.inl ⟨_, e, _, z1, _, _, _, _, _, _, _, he, rfl, rfl, m2⟩
    · obtain ⟨y2, z2, C2, N2, tm2, nm2, hK2⟩ := tok h hy1
      have hy2 : y2 ≤ T := hK2.2.2.1
      have hyy2 : y1 ≤ y2 := Nat.le_trans hK2.1 hK2.2.1
      have hc : N1 < 30 := by omega
      obtain ⟨st1, b1, b2, b3⟩ := m_b31 (tp := tp) (en := en) (le := le) (st := st) (T := nI T) (sp := nI y2) (he := nI z2) (tm := tm2) (nm := nm2) (br := brC C2) (ba := baC C2 z2 ba) (K := K) (c := N1) (by omega) hc
      obtain ⟨d1, d2, d3⟩ := c_beginK (K := K) hP hc
      have hM1 : PM (up G N1 (K, 0, 0, 0)) st1 360 := fun e he => by
        by_cases q : e = N1
        · subst q
          rw [up_s]
          exact b2
        · rw [up_n _ _ q]
          obtain ⟨a, b, c2, c3⟩ := hM e he
          exact ⟨by rw [b3 _ (by omega) (by omega) (by omega) (by omega)]; exact a, by rw [b3 _ (by omega) (by omega) (by omega) (by omega)]; exact b, by rw [b3 _ (by omega) (by omega) (by omega) (by omega)]; exact c2, by rw [b3 _ (by omega) (by omega) (by omega) (by omega)]; exact c3⟩
      have hk1 : ∀ j, (j < 360 ∨ 480 ≤ j) → st1 j = st j := fun j hj => b3 j (by omega) (by omega) (by omega) (by omega)
      rw [show fX6_takesNumber fl by_ (nI T) (nI y) (nI z) (nI C) n0 0 29 = _ from q3, bd6_e, if_neg (show ¬ (1 : Int32) = 0 by decide), show fX8_numberRead tp (nI T) (if C1 = 4 then 1 else 0) (if C1 = 4 then nI z1 else ba) (nI y1) (nI z1) tm1 nm1 0 29 = _ from q4 _ _ _ _ _ _ hK2, bd7_e, b1, d2, bd1_e]
      have hj56 : (if nI K = (1 : Int32) then fX6_takesLine_j56 by_ (nI T) d1 fl (nI y1) (nI z1) 2 (nI N1) (nI K) (nI N1) (999 : Int32) else fX6_takesLine_j56 by_ (nI T) d1 fl (nI y1) (nI z1) 2 (nI N1) (nI K) (nI N1) (29 : Int32)) = lq7 (fX6_takesLine_b67 by_ (nI T) (nI K) (nI N1) (nI (if K = 1 then 999 else 29)) (nI (opN K))) (999 + 1) d1 fl (nI y1) (nI z1) 2 (nI N1) (nI 1) := by
        unfold fX6_takesLine_j56
        rw [c_ops K (by omega), bd1_e]
        by_cases e : K = 1
        · rw [if_pos (show nI K = 1 by rw [e]; rfl), if_pos e]; rfl
        · rw [if_neg (show ¬ nI K = 1 from fun w => e (nI_inj (b := 1) w (by omega) (by omega))), if_neg e]; rfl
      rw [hj56, c_op (by omega) hc hO1 (by omega), if_neg (fun w => by omega)]
      unfold fX8_readLine_j84
      rcases num hK2 (lo := 0) (hi := if K = 1 then 999 else 29) (by omega) (by split <;> omega) fl (nI z1) 2 (nI N1) ba with ⟨e, n', tc, he, p1, p2⟩ | ⟨p0, p1, p2, p3, p4⟩
      · rw [show fX6_takesNumber fl by_ (nI T) (nI y1) (nI z1) 2 (nI N1) 0 (nI (if K = 1 then 999 else 29)) = _ from p1, bd6_e, if_pos (show (0 : Int32) = 0 from rfl), show fX8_numberRead tp (nI T) (brC C2) (baC C2 z2 ba) (nI y2) (nI z2) tm2 nm2 0 (nI (if K = 1 then 999 else 29)) = _ from p2, bd7_e, show (390 : Int32) + nI N1 = nI (390 + N1) from nI_add 390 N1, wrN (by omega) (by omega)]
        obtain ⟨st', m1, m2⟩ := tail e (nI z2) (nI y2) (nI z2) tm2 nm2 N1 (upd st1 (390 + N1) (nI 0)) hc he (fun j hj => by rw [un _ _ (by omega)]; exact hk1 j hj)
        rw [show lq8 (fX8_readLine_b102 tp (nI T) en le (nI K) (nI N1) (nI 0)) fu (upd st1 (390 + N1) (nI 0)) e (nI z2) (nI y2) (nI z2) tm2 nm2 2 = _ from m1]
        exact Or.inl ⟨_, e, _, z2, _, _, _, _, _, _, _, he, rfl, rfl, m2⟩
      · obtain ⟨y3, z3, C3, N3, tm3, nm3, hK3⟩ := tok h hy2
        rw [show fX6_takesNumber fl by_ (nI T) (nI y1) (nI z1) 2 (nI N1) 0 (nI (if K = 1 then 999 else 29)) = _ from p3, bd6_e, if_neg (show ¬ (1 : Int32) = 0 by decide), show fX8_numberRead tp (nI T) (brC C2) (baC C2 z2 ba) (nI y2) (nI z2) tm2 nm2 0 (nI (if K = 1 then 999 else 29)) = _ from p4 _ _ _ _ _ _ hK3, bd7_e, show (390 : Int32) + nI N1 = nI (390 + N1) from nI_add 390 N1, wrN (by omega) (by omega)]
        have hp : (sf (K, 0, 0, 0) 1 N2).2.1 = N2 := rfl
        have key := ops_j (en := en) (le := le) h h1 h8 hc hG (opN K - 1) 2 (by omega) (by omega) 999 fu (by omega) (by unfold fu; omega) (sf (K, 0, 0, 0) 1 N2) y2 y3 z3 C3 N3 tm3 nm3 (upd d1 (4 * N1 + 1) (nI N2)) (upd st1 (360 + 30 * 1 + N1) (nI N2)) fl (nI z2) 2 (nI N2) ba ⟨rfl, fun _ => rfl, fun _ => rfl, fun _ => p2, fun q => by omega, fun q => by omega⟩ (PC_sf d3 hc (by omega) (by omega)) (PM_sf hM1 hc (by omega) (by omega)) hK3
        exact key.st (fun j hj => by rw [un _ _ (by omega)]; exact hk1 j hj) (by omega)
