/-! QUESTIONS: value, reads, reader, far, circle -/
def FI (F : Fo) (A : AS) : Prop := ∀ d, 0 < aN A d → aL A d 0 = (F d).2.1
theorem ocL_0 (f : Fq) (V : Nat → Int32) : ocL f V 0 = f.2.1 := by
  unfold ocL
  split
  · exact Nat.add_zero _
  · exact if_pos rfl
theorem FI_vs {F : Fo} {A : AS} {c : Nat} (h : FI F A) : FI F (vs F c A) := by
  have key : ∀ d, 0 < up (aN A) c (ocN (F c) (aT A) (aV A)) d → up (aL A) c (ocL (F c) (aV A)) d 0 = (F d).2.1 := fun d hd => by
    by_cases e : d = c
    · subst e; rw [up_s]; exact ocL_0 _ _
    · rw [up_n _ _ e] at hd ⊢; exact h d hd
  cases hT : aT A c with
  | true => rw [vs_t hT]; exact h
  | false =>
    cases hr : ocR (F c) (aT A) (aV A) with
    | some r => rw [vs_s hT hr]; exact key
    | none => rw [vs_n hT hr]; exact key
theorem FI_sw {F : Fo} {A : AS} (h : FI F A) : ∀ k, FI F (sw F k A)
  | 0 => h
  | k + 1 => FI_vs (FI_sw h k)
theorem FI_gr {F : Fo} : ∀ {n : Nat} {A : AS}, FI F A → FI F (gr F n A)
  | 0, _, h => h
  | n + 1, A, h => by
    rw [gr]
    split
    · exact FI_sw h 30
    · exact FI_gr (FI_sw h 30)
theorem FI_fin (F : Fo) : FI F (fin F) := FI_gr (fun d hd => absurd hd (Nat.not_lt_zero _))
theorem WB_fin {F : Fo} (hF : VFs F) : WB (fin F) := fun d hd ht => (AI_fin hF).2.2.2 d hd ht (fin_seen hF d hd)
theorem AL_fin {F : Fo} (hF : VFs F) : AL (fin F) := (AI_fin hF).2.1
/-- the class's rows -/
def NR (F : Fo) (n : RKT) : Prop := CR (fin F) (rkV n) (rkH n) (rkR n) (rkW n) (rkK n) ∧ (∀ d, d < 30 → (bt (rkC n) d = true ↔ ∃ k, Cir (fin F) d k)) ∧ hi0 (rkC n) ∧ ∀ fs : Nat → Bool, (∀ d, d < 30 → (fs d = true ↔ ∃ k, Cir (fin F) d k ∧ mnW (fin F) d k = d)) → rkN n = nI (fb_ct fs 30)
theorem WR_of {F : Fo} {V H R W : Nat → Int32} {kn : Int32} (hF : VFs F) (h : CR (fin F) V H R W kn) : WR (fin F) W := fun d hd => by
  cases hT : aT (fin F) d
  · rw [if_neg (by decide)]; exact h.2.2.2.2.1 d hd hT (fin_seen hF d hd)
  · rw [if_pos rfl]; exact (h.2.2.1 d hd hT).2.2
theorem RB_of {F : Fo} {V H R W : Nat → Int32} {kn : Int32} (h : CR (fin F) V H R W kn) : RB (fin F) R := h.2.2.2.2.2
theorem MW_of {F : Fo} {mV mT mW mR mN mH : Nat → Int32} (hF : VFs F) (h : MR (fin F) mV mT mW mR mN mH) : MW (fin F) mT mW := fun d hd => ⟨h.1 d hd, fun ht => h.2.2.2.1 d hd ht (fin_seen hF d hd)⟩
theorem ML_of {F : Fo} {mV mT mW mR mN mH : Nat → Int32} (hF : VFs F) (h : MR (fin F) mV mT mW mR mN mH) : ML (fin F) mR mN := fun d hd => h.2.2.2.2 d hd (fin_seen hF d hd)
/-- the reference's rows -/
def MRS (F : Fo) (mV mT mW mR mN mH : Nat → Int32) (s : Int32) : Prop := s = 0 ∨ (s = 1 ∧ MR (fin F) mV mT mW mR mN mH)
theorem m_starts {F : Fo} {st mV mT mW mR mN mH : Nat → Int32} {s : Int32} (hP : PM F st 0) (hF : VFs F) (h : MRS F mV mT mW mR mN mH s) : ∃ a b w e m g, fX8_starts st mV mT mW mR mN mH s = some (a, b, w, e, m, g, 1) ∧ MR (fin F) a b w e m g := by
  unfold fX8_starts
  rcases h with rfl | ⟨rfl, h⟩
  · rw [if_pos rfl]
    obtain ⟨a, b, w, e, m, g, h1, h2⟩ := m_settles hP hF mV mT mW mR mN mH
    rw [h1, bd6_e]
    exact ⟨a, b, w, e, m, g, rfl, h2⟩
  · rw [if_neg (by decide)]
    exact ⟨_, _, _, _, _, _, rfl, h⟩
theorem to64 (x : Int32) : x.toInt64.toInt = x.toInt := Int32.toInt_toInt64 x
theorem cell_cs (x : Int32) : (fX7_isCell x = some 0 ∧ fX8_isCell x = some 0) ∨ ∃ c, c < 30 ∧ x = nI c ∧ fX7_isCell x = some 1 ∧ fX8_isCell x = some 1 := by
  unfold fX8_isCell
  rw [f_isCell, f_in, to64, bd1_e]
  have h0 : (0 : Int64).toInt = 0 := rfl
  have h29 : (29 : Int64).toInt = 29 := rfl
  rw [h0, h29]
  rcases ix30 x with h | ⟨c, hc, rfl⟩
  · rw [if_neg (by omega), if_neg (by omega)]
    exact Or.inl ⟨rfl, by rw [ckT (Or.inl rfl)]⟩
  · have := nI_toInt (n := c) (by omega)
    refine Or.inr ⟨c, hc, rfl, ?_, ?_⟩
    · rw [if_pos (by omega)]
    · rw [if_pos (by omega), ckT (Or.inr rfl)]
theorem nn_cs (x : Int32) : (¬ (0 : Int32) ≤ x) ∨ ∃ P, P < 2 ^ 31 ∧ x = nI P ∧ (0 : Int32) ≤ x := by
  by_cases h : (0 : Int32) ≤ x
  · refine Or.inr ⟨x.toInt.toNat, ?_, ?_, h⟩
    · have := toInt_rg x; omega
    · have h2 := Int32.le_iff_toInt_le.mp h
      have h3 : (0 : Int32).toInt = 0 := rfl
      have := toInt_rg x
      apply Int32.toInt_inj.mp
      rw [nI_toInt (by omega)]
      omega
  · exact Or.inl h
abbrev Q8 : Type := Int32 × (Nat → Int32) × (Nat → Int32) × (Nat → Int32) × (Nat → Int32) × (Nat → Int32) × (Nat → Int32) × Int32
/-- both answer, and answer the same -/
def QA (F : Fo) (r8 : Option Q8) (r7 : Option Int32) : Prop := ∃ r a b w e m g s, r8 = some (r, a, b, w, e, m, g, s) ∧ MRS F a b w e m g s ∧ r7 = some r
theorem q_value {F : Fo} {st mV mT mW mR mN mH : Nat → Int32} {s : Int32} {n : RKT} (hP : PM F st 0) (hF : VFs F) (hS : MRS F mV mT mW mR mN mH s) (hN : NR F n) (p : Int32) : QA F (fX8_value st mV mT mW mR mN mH s p) (fX7_value n p) := by
  unfold fX8_value fX7_value
  obtain ⟨a, b, w, e, m, g, h1, h2⟩ := m_starts hP hF hS
  rw [h1, bd7_e]
  rcases cell_cs p with ⟨e1, e2⟩ | ⟨c, hc, rfl, e1, e2⟩
  · rw [e1, e2, bd1_e, bd1_e, if_pos rfl, if_pos rfl]
    exact ⟨_, _, _, _, _, _, _, _, rfl, Or.inr ⟨rfl, h2⟩, rfl⟩
  · rw [e1, e2, bd1_e, bd1_e, if_neg (show ¬ (1 : Int32) = 0 by decide), if_neg (show ¬ (1 : Int32) = 0 by decide), has_bt (by omega), rdN hc (by omega), rdN hc (by omega)]
    refine ⟨_, _, _, _, _, _, _, _, rfl, Or.inr ⟨rfl, h2⟩, ?_⟩
    cases hT : aT (fin F) c
    · rw [if_neg (by rw [← hN.1.1 c hc, hT]; decide), (h2.2.2.1 c hc hT).1]
    · rw [if_pos (by rw [← hN.1.1 c hc, hT]), (h2.2.1 c hc hT).1, (hN.1.2.2.1 c hc hT).1]
theorem q_reads {F : Fo} {st mV mT mW mR mN mH parts : Nat → Int32} {s : Int32} {n : RKT} (hP : PM F st 0) (hC : PC F parts) (hF : VFs F) (hS : MRS F mV mT mW mR mN mH s) (hN : NR F n) (p q : Int32) : QA F (fX8_reads st mV mT mW mR mN mH s p q) (fX7_reads parts n p q) := by
  unfold fX8_reads fX7_reads
  rcases cell_cs p with ⟨e1, e2⟩ | ⟨c, hc, rfl, e1, e2⟩
  · rw [e1, e2, bd1_e, bd1_e, if_pos rfl, if_pos rfl]
    exact ⟨_, _, _, _, _, _, _, _, rfl, hS, rfl⟩
  rw [e1, e2, bd1_e, bd1_e, if_neg (show ¬ (1 : Int32) = 0 by decide), if_neg (show ¬ (1 : Int32) = 0 by decide)]
  rcases nn_cs q with h | ⟨P, hP31, rfl, h⟩
  · rw [if_neg h, if_neg h]
    exact ⟨_, _, _, _, _, _, _, _, rfl, hS, rfl⟩
  rw [if_pos h, if_pos h]
  obtain ⟨a, b, w, e, m, g, h1, h2⟩ := m_starts hP hF hS
  have hL := AL_fin hF
  have hR := RB_of hN.1
  obtain ⟨l1, l2⟩ := ML_of hF h2 c hc
  obtain ⟨k1, k2, k3, k4⟩ := hL c hc
  rw [h1, bd7_e, rdN hc (by omega), l1, rdN hc (by omega)]
  have hpop := pop_R hL hR hc
  by_cases h0 : aN (fin F) c = 0
  · have hz : rkR n c = 0 := by
      refine b_ext (fun j hj => ?_)
      rw [hR c hc j hj, b_0]
      exact decide_eq_false (fun ⟨i, hi, _⟩ => by omega)
    rw [h0, if_pos (show nI 0 ≤ nI P from nI_le (Nat.zero_le _) hP31), hz, if_pos rfl]
    exact ⟨_, _, _, _, _, _, _, _, rfl, Or.inr ⟨rfl, h2⟩, rfl⟩
  · have hz : ¬ rkR n c = 0 := fun z => by
      have := (RB_iff hR hc (j := aL (fin F) c 0) (by have := k2 0 (by omega); omega)).mpr ⟨0, by omega, rfl⟩
      rw [z, b_0] at this; cases this
    have hfi := FI_fin F c (by omega)
    have hpt : fX1_part parts (nI c) (1 : Int32) = some (nI (F c).2.1) := by
      rw [show (1 : Int32) = nI 1 from rfl, f_part hc (by omega), (hC c hc).2.1]
    rw [if_neg hz, hpt, bd1_e, ← hfi]
    by_cases hP0 : P = 0
    · subst hP0
      rw [if_neg (nI_ge (by omega) (by omega)), if_pos (show nI 0 = 0 from rfl), show (30 : Int32) = nI 30 from rfl, pk_mul, nI_add, rdN (by omega) (by omega), l2 0 (by omega)]
      exact ⟨_, _, _, _, _, _, _, _, rfl, Or.inr ⟨rfl, h2⟩, rfl⟩
    · rw [if_neg (show ¬ nI P = 0 from fun z => hP0 (nI_inj (b := 0) z hP31 (by omega))), f_bit, bd1_e, show nI P - 1 = nI (P - 1) from pk_sub (a := P) (b := 1) (by omega)]
      have h30 : aL (fin F) c 0 < 30 := k2 0 (by omega)
      generalize hx : rkR n c &&& (bI (aL (fin F) c 0) ^^^ -1) = x
      have hbx : ∀ y, y < 30 → (bt x y = true ↔ ∃ i, i < aN (fin F) c - 1 ∧ aL (fin F) c (i + 1) = y) := fun y hy => by
        rw [← hx, b_and, b_xor, bt_bI _ (by omega) y (by omega), b_m1 y (by omega), Bool.and_eq_true, RB_iff hR hc (by omega)]
        constructor
        · rintro ⟨⟨i, hi, z⟩, q⟩
          have hne : i ≠ 0 := fun u => by
            rw [u] at z
            rw [decide_eq_true z.symm] at q
            cases q
          exact ⟨i - 1, by omega, by rw [show i - 1 + 1 = i by omega]; exact z⟩
        · rintro ⟨i, hi, z⟩
          refine ⟨⟨i + 1, by omega, z⟩, ?_⟩
          have hne : y ≠ aL (fin F) c 0 := fun u => k3 0 (i + 1) (by omega) (by omega) (by rw [z, u])
          rw [decide_eq_false hne]; rfl
      have a1 : ∀ i, i < aN (fin F) c - 1 → aL (fin F) c (i + 1) < 30 := fun i hi => k2 (i + 1) (by omega)
      have a2 : ∀ i j, i < j → j < aN (fin F) c - 1 → aL (fin F) c (i + 1) < aL (fin F) c (j + 1) := fun i j hi hj => k4 (i + 1) (j + 1) (by omega) (by omega) (by omega)
      have hn := ct_asc_n (p := bt x) (l := fun i => aL (fin F) c (i + 1)) a1 a2 hbx
      rcases c_nth x (P := P - 1) (by omega) with ⟨y, hy, b1, b2, b3⟩ | ⟨b1, b2⟩
      · obtain ⟨i, hi, z⟩ := (hbx y hy).mp b1
        have hi2 := ct_asc_i (p := bt x) (l := fun i => aL (fin F) c (i + 1)) a1 a2 hbx hi
        have hi3 : fb_ct (bt x) (aL (fin F) c (i + 1)) = i := hi2
        rw [z, b2] at hi3
        rw [b3, bd1_e, if_neg (nI_ge (by omega) (by omega)), show (30 : Int32) = nI 30 from rfl, pk_mul, nI_add, rdN (by omega) (by omega), l2 P (by omega)]
        refine ⟨_, _, _, _, _, _, _, _, rfl, Or.inr ⟨rfl, h2⟩, ?_⟩
        rw [← z, show i + 1 = P by omega]
      · rw [b2, bd1_e, if_pos (nI_le (by omega) hP31)]
        exact ⟨_, _, _, _, _, _, _, _, rfl, Or.inr ⟨rfl, h2⟩, rfl⟩
theorem nth_one {p : Nat → Bool} {P y y' : Nat} (h1 : p y = true) (h2 : p y' = true) (e1 : fb_ct p y = P) (e2 : fb_ct p y' = P) : y = y' := fb_ct_kth_one h1 h2 (e1.trans e2.symm)
theorem q_reader {F : Fo} {st mV mT mW mR mN mH : Nat → Int32} {s : Int32} {n : RKT} (hP : PM F st 0) (hF : VFs F) (hS : MRS F mV mT mW mR mN mH s) (hN : NR F n) (p q : Int32) : QA F (fX8_reader st mV mT mW mR mN mH s p q) (fX7_reader n p q) := by
  unfold fX8_reader fX7_reader
  rcases cell_cs p with ⟨e1, e2⟩ | ⟨c, hc, rfl, e1, e2⟩
  · rw [e1, e2, bd1_e, bd1_e, if_pos rfl, if_pos rfl]
    exact ⟨_, _, _, _, _, _, _, _, rfl, hS, rfl⟩
  rw [e1, e2, bd1_e, bd1_e, if_neg (show ¬ (1 : Int32) = 0 by decide), if_neg (show ¬ (1 : Int32) = 0 by decide)]
  rcases nn_cs q with h | ⟨P, hP31, rfl, h⟩
  · rw [if_neg h, if_neg h]
    exact ⟨_, _, _, _, _, _, _, _, rfl, hS, rfl⟩
  rw [if_pos h, if_pos h]
  obtain ⟨a, b, w, e, m, g, h1, h2⟩ := m_starts hP hF hS
  have hL := AL_fin hF
  have hR := RB_of hN.1
  have hM := ML_of hF h2
  obtain ⟨x, x1, x2, x3⟩ := c_readers1 hL hR hc
  rw [h1, bd7_e, f_bit, bd1_e, x1, bd1_e]
  have hct : ∀ t, t ≤ 30 → fb_ct (bt x) t = fb_ct (fun d => bt (rkR n d) c) t := fun t ht => fb_ct_cong (fun k hk => x2 k (by omega))
  refine fr1 (fX8_reader_b22 st (nI c) (nI P) a b w e m g 1) 30 (fun t l => fb_ct (bt x) t ≤ P ∧ l = nI (P - fb_ct (bt x) t)) (fun r => QA F r (bd1 (fX7_nthOf x (nI P)) fun r => some r)) (by omega) ?_ ?_ fu 0 (nI P) (by omega) (by unfold fu; omega) ⟨Nat.zero_le _, rfl⟩
  · intro self t l ht ⟨i1, i2⟩ hself
    unfold fX8_reader_b22 fX8_reader_j49
    rw [if_neg (ge30 ht), m_isReading hL hR hM ht hc, bd1_e, nI_1, ← x2 t ht, i2]
    cases hb : bt x t
    · rw [if_neg (show ¬ false = true by decide), if_pos rfl]
      have e : fb_ct (bt x) (t + 1) = fb_ct (bt x) t := by rw [fb_ct_succ, hb]; rfl
      exact hself _ ⟨by omega, by rw [e]⟩
    · rw [if_pos (show true = true from rfl), if_neg (show ¬ (1 : Int32) = 0 by decide)]
      have e : fb_ct (bt x) (t + 1) = fb_ct (bt x) t + 1 := by rw [fb_ct_succ, hb]; rfl
      by_cases z : fb_ct (bt x) t = P
      · rw [z, Nat.sub_self, if_pos (show nI 0 = 0 from rfl)]
        refine ⟨_, _, _, _, _, _, _, _, rfl, Or.inr ⟨rfl, h2⟩, ?_⟩
        rcases c_nth x hP31 with ⟨y, hy, b1, b2, b3⟩ | ⟨b1, b2⟩
        · rw [b3, bd1_e, nth_one b1 hb b2 z]
        · have := fb_ct_mono (bt x) (m := t + 1) (n := 30) (by omega)
          omega
      · rw [if_neg (show ¬ nI (P - fb_ct (bt x) t) = 0 from fun u => by have := nI_inj (b := 0) u (by omega) (by omega); omega)]
        refine hself _ ⟨by omega, ?_⟩
        rw [e]
        have : nI (P - fb_ct (bt x) t) - nI 1 = nI (P - fb_ct (bt x) t - 1) := pk_sub (by omega)
        rw [show P - (fb_ct (bt x) t + 1) = P - fb_ct (bt x) t - 1 by omega, ← this]
        exact (Int32.sub_eq_add_neg _ _).symm
  · intro self l ⟨i1, i2⟩
    unfold fX8_reader_b22
    rw [if_pos le30]
    refine ⟨_, _, _, _, _, _, _, _, rfl, Or.inr ⟨rfl, h2⟩, ?_⟩
    rcases c_nth x hP31 with ⟨y, hy, b1, b2, b3⟩ | ⟨b1, b2⟩
    · have h9 := fb_ct_mono (bt x) (m := y + 1) (n := 30) (by omega)
      have h8 : fb_ct (bt x) (y + 1) = fb_ct (bt x) y + 1 := by rw [fb_ct_succ, b1]; rfl
      omega
    · rw [b2, bd1_e]
theorem q_far {F : Fo} {st mV mT mW mR mN mH : Nat → Int32} {s : Int32} {n : RKT} (hP : PM F st 0) (hF : VFs F) (hS : MRS F mV mT mW mR mN mH s) (hN : NR F n) (p q : Int32) : QA F (fX8_far st mV mT mW mR mN mH s p q) (fX7_far n p q) := by
  unfold fX8_far fX7_far
  rcases cell_cs p with ⟨e1, e2⟩ | ⟨c, hc, rfl, e1, e2⟩
  · rw [e1, e2, bd1_e, bd1_e, if_pos rfl, if_pos rfl]
    exact ⟨_, _, _, _, _, _, _, _, rfl, hS, rfl⟩
  rw [e1, e2, bd1_e, bd1_e, if_neg (show ¬ (1 : Int32) = 0 by decide), if_neg (show ¬ (1 : Int32) = 0 by decide), f_in, to64, bd1_e, show (0 : Int64).toInt = 0 from rfl, show (1 : Int64).toInt = 1 from rfl]
  obtain ⟨a, b, w, e, m, g, h1, h2⟩ := m_starts hP hF hS
  have hL := AL_fin hF
  have hR := RB_of hN.1
  have hM := ML_of hF h2
  rcases nn_cs q with h | ⟨P, hP31, rfl, h⟩
  · have h9 : q.toInt < 0 := by
      by_cases z : q.toInt < 0
      · exact z
      · exact absurd (Int32.le_iff_toInt_le.mpr (show (0 : Int32).toInt ≤ q.toInt from (by show (0 : Int) ≤ q.toInt; omega))) h
    rw [if_neg (show ¬ (0 ≤ q.toInt ∧ q.toInt ≤ 1) by omega), if_pos rfl, if_pos (show q < 0 from Int32.lt_iff_toInt_lt.mpr h9)]
    exact ⟨_, _, _, _, _, _, _, _, rfl, hS, rfl⟩
  rw [nI_toInt hP31, if_neg (show ¬ nI P < 0 from nI_nlt (b := 0) (Nat.zero_le _) hP31)]
  by_cases hP1 : P ≤ 1
  · rw [if_pos (show 0 ≤ (P : Int) ∧ (P : Int) ≤ 1 by omega), if_neg (show ¬ (1 : Int32) = 0 by decide), h1, bd7_e, if_pos (show nI P ≤ 1 from nI_le (b := 1) hP1 (by omega))]
    by_cases hP0 : P = 0
    · subst hP0
      rw [if_pos (show nI 0 = 0 from rfl), if_pos (show nI 0 = 0 from rfl), m_needs hL hR hM hc, bd1_e, c_needed hc, bd1_e]
      exact ⟨_, _, _, _, _, _, _, _, rfl, Or.inr ⟨rfl, h2⟩, rfl⟩
    · have hne : ¬ nI P = 0 := fun z => hP0 (nI_inj (b := 0) z hP31 (by omega))
      rw [if_neg hne, if_neg hne, c_hanging hL hR, bd1_e]
      refine fr1 (fX8_far_b38 st (nI c) (nI P) a b w e m g 1) 30 (fun t l => (∀ o, o < t → (bt l o = true ↔ bt (nd (rkR n) o) c = true)) ∧ ∀ o, t ≤ o → bt l o = false) (fun r => QA F r (some (hg (rkR n) c))) (by omega) ?_ ?_ fu 0 0 (by omega) (by unfold fu; omega) ⟨fun o ho => by omega, fun o _ => b_0 o⟩
      · intro self t l ht ⟨i1, i2⟩ hself
        unfold fX8_far_b38 fX8_far_j68
        rw [if_neg (ge30 ht), m_needs hL hR hM ht, bd1_e, bsel (by omega), nI_1]
        cases hb : bt (nd (rkR n) t) c
        · rw [if_neg (show ¬ false = true by decide), if_neg (show ¬ (0 : Int32) = 1 by decide), Int32.or_zero]
          refine hself _ ⟨fun o ho => ?_, fun o ho => i2 o (by omega)⟩
          by_cases z : o = t
          · rw [z, i2 t (Nat.le_refl _), hb]
          · exact i1 o (by omega)
        · rw [if_pos (show true = true from rfl), if_pos rfl, show (1 : Int32) <<< (nI t &&& 31) = bI t from rfl]
          refine hself _ ⟨fun o ho => ?_, fun o ho => ?_⟩
          · rw [b_or, bt_bI t (by omega) o (by omega)]
            by_cases z : o = t
            · rw [z, decide_eq_true rfl, Bool.or_true, hb]
            · rw [decide_eq_false z, Bool.or_false]
              exact i1 o (by omega)
          · by_cases z : o < 32
            · rw [b_or, bt_bI t (by omega) o z, i2 o (by omega), decide_eq_false (by omega)]; rfl
            · exact b_big (by omega)
      · intro self l ⟨i1, i2⟩
        unfold fX8_far_b38
        rw [if_pos le30]
        refine ⟨_, _, _, _, _, _, _, _, rfl, Or.inr ⟨rfl, h2⟩, ?_⟩
        congr 1
        refine b_ext (fun o _ => ?_)
        by_cases z : o < 30
        · exact bool_eq ((nd_hg hL hR z hc).trans (i1 o z).symm)
        · rw [i2 o (by omega), (hg_all hL hR hc).2.2.1 o (by omega)]
  · rw [if_neg (show ¬ (0 ≤ (P : Int) ∧ (P : Int) ≤ 1) by omega), if_pos rfl, if_neg (show ¬ nI P ≤ 1 from nI_ge (a := 1) (by omega) hP31)]
    exact ⟨_, _, _, _, _, _, _, _, rfl, hS, rfl⟩
theorem q_circle {F : Fo} {st mV mT mW mR mN mH : Nat → Int32} {s : Int32} {n : RKT} (hP : PM F st 0) (hF : VFs F) (hS : MRS F mV mT mW mR mN mH s) (hN : NR F n) (p q : Int32) : QA F (fX8_circle st mV mT mW mR mN mH s p q) (fX7_circle n p q) := by
  unfold fX8_circle fX7_circle
  rcases cell_cs p with ⟨e1, e2⟩ | ⟨c, hc, rfl, e1, e2⟩
  · rw [e1, e2, bd1_e, bd1_e, if_pos rfl, if_pos rfl]
    exact ⟨_, _, _, _, _, _, _, _, rfl, hS, rfl⟩
  rw [e1, e2, bd1_e, bd1_e, if_neg (show ¬ (1 : Int32) = 0 by decide), if_neg (show ¬ (1 : Int32) = 0 by decide)]
  rcases nn_cs q with h | ⟨P, hP31, rfl, h⟩
  · rw [if_neg h, if_neg h]
    exact ⟨_, _, _, _, _, _, _, _, rfl, hS, rfl⟩
  rw [if_pos h, if_pos h]
  obtain ⟨a, b, w, e, m, g, h1, h2⟩ := m_starts hP hF hS
  have hB := WB_fin hF
  have hW := WR_of hF hN.1
  have hM := MW_of hF h2
  rw [h1, bd7_e]
  unfold fX3_nthOfCircle
  rw [has_bt (by omega)]
  rcases m_circleOf hB hM hc with ⟨k, hk, he⟩ | ⟨hk, he⟩
  · rw [he, bd1_e, if_pos ((hN.2.1 c hc).mpr ⟨k, hk⟩)]
    obtain ⟨k1, k2, k3, k4, k5⟩ := hk
    have hlt : ∀ j, j ≤ k → wk (fin F) c j < 30 := fun j hj => wk_lt hB hc (fun i hi => k3 i (by omega))
    by_cases hPk : P < k
    · rw [if_pos (nI_lt hPk (by omega)), if_pos (show nI P < 30 from nI_lt (b := 30) (by omega) (by omega))]
      have hc7 : lq2 (fX3_nthOfCircle_b25 (rkW n) (rkC n) (nI c) (nI P)) fu (nI c) 0 = some (nI (wk (fin F) c P)) := by
        refine fr1 (fX3_nthOfCircle_b25 (rkW n) (rkC n) (nI c) (nI P)) P (fun t l => l = nI (wk (fin F) c t)) (fun r => r = some (nI (wk (fin F) c P))) (by omega) ?_ ?_ fu 0 (nI c) (by omega) (by unfold fu; omega) rfl
        · intro self t l ht hI hself
          unfold fX3_nthOfCircle_b25
          rw [if_neg (nI_ge ht (by omega)), hI, rdN (hlt t (by omega)) (by omega), hW _ (hlt t (by omega)), k3 t (by omega), if_neg (show ¬ false = true by decide), nI_1, show nI (aW' (fin F) (wk (fin F) c t)) = nI (wk (fin F) c (t + 1)) from rfl]
          rw [if_neg (fun z => k5 (t + 1) (by omega) (by omega) (nI_inj z (by have := hlt (t + 1) (by omega); exact Nat.lt_trans this (by omega)) (by omega)))]
          exact hself _ rfl
        · intro self l hI
          unfold fX3_nthOfCircle_b25
          rw [if_pos (nI_le (Nat.le_refl _) (by omega)), hI]
      rw [hc7, bd1_e]
      refine fr1 (fX8_circle_b34 st (nI c) (nI P) a b w e m g 1) P (fun t l => l = nI (wk (fin F) c t)) (fun r => QA F r (some (nI (wk (fin F) c P)))) (by omega) ?_ ?_ fu 0 (nI c) (by omega) (by unfold fu; omega) rfl
      · intro self t l ht hI hself
        unfold fX8_circle_b34
        rw [if_neg (nI_ge ht (by omega)), hI, rdN (hlt t (by omega)) (by omega), (hM _ (hlt t (by omega))).2 (k3 t (by omega)), nI_1]
        exact hself _ rfl
      · intro self l hI
        unfold fX8_circle_b34
        rw [if_pos (nI_le (Nat.le_refl _) (by omega)), hI]
        exact ⟨_, _, _, _, _, _, _, _, rfl, Or.inr ⟨rfl, h2⟩, rfl⟩
    · rw [if_neg (nI_nlt (by omega) hP31)]
      refine ⟨_, _, _, _, _, _, _, _, rfl, Or.inr ⟨rfl, h2⟩, ?_⟩
      by_cases hP30 : P < 30
      · rw [if_pos (show nI P < 30 from nI_lt (b := 30) hP30 (by omega))]
        have hc7 : lq2 (fX3_nthOfCircle_b25 (rkW n) (rkC n) (nI c) (nI P)) fu (nI c) 0 = some (-4) := by
          refine fr1 (fX3_nthOfCircle_b25 (rkW n) (rkC n) (nI c) (nI P)) P (fun t l => t < k ∧ l = nI (wk (fin F) c t)) (fun r => r = some (-4)) (by omega) ?_ ?_ fu 0 (nI c) (by omega) (by unfold fu; omega) ⟨by omega, rfl⟩
          · intro self t l ht ⟨hI0, hI⟩ hself
            unfold fX3_nthOfCircle_b25
            rw [if_neg (nI_ge ht (by omega)), hI, rdN (hlt t (by omega)) (by omega), hW _ (hlt t (by omega)), k3 t (by omega), if_neg (show ¬ false = true by decide), nI_1, show nI (aW' (fin F) (wk (fin F) c t)) = nI (wk (fin F) c (t + 1)) from rfl]
            by_cases z : t + 1 = k
            · rw [if_pos (show nI (wk (fin F) c (t + 1)) = nI c from (by rw [← z] at k4; exact congrArg nI k4))]
            · rw [if_neg (fun z => k5 (t + 1) (by omega) (by omega) (nI_inj z (by have := hlt (t + 1) (by omega); exact Nat.lt_trans this (by omega)) (by omega)))]
              exact hself _ ⟨by omega, rfl⟩
          · intro self l ⟨hI0, hI⟩
            omega
        rw [hc7, bd1_e]
      · rw [if_neg (show ¬ nI P < 30 from nI_nlt (b := 30) (by omega) hP31)]
        rfl
  · rw [he, bd1_e, if_neg (show ¬ bt (rkC n) c = true from fun z => by obtain ⟨k, h9⟩ := (hN.2.1 c hc).mp z; exact hk k h9), if_neg (show ¬ nI P < 0 from nI_nlt (b := 0) (Nat.zero_le _) hP31)]
    exact ⟨_, _, _, _, _, _, _, _, rfl, Or.inr ⟨rfl, h2⟩, rfl⟩
