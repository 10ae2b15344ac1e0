/-! QUESTIONS: order, rule, count, cell -/
def sm (q : Nat → Nat) : Nat → Nat
  | 0 => 0
  | n + 1 => sm q n + q n
theorem sm_ct {q : Nat → Nat} {p : Nat → Bool} : ∀ {n : Nat}, (∀ d, d < n → q d = if p d = true then 1 else 0) → sm q n = fb_ct p n
  | 0, _ => rfl
  | n + 1, h => by rw [sm, fb_ct_succ, sm_ct (fun d hd => h d (by omega)), h n (by omega)]
theorem sm_mono (q : Nat → Nat) (a : Nat) : ∀ b, sm q a ≤ sm q (a + b)
  | 0 => Nat.le_refl _
  | b + 1 => by have := sm_mono q a b; rw [← Nat.add_assoc, sm]; omega
def hp (A : AS) (h d : Nat) : Bool := aT A d && decide (aG A d = h)
def sH (A : AS) (h : Nat) : Nat := sm (fun i => fb_ct (hp A i) 30) h
def OS (A : AS) (P : Nat) (r : Int32) : Prop := (∃ h y, h < 30 ∧ y < 30 ∧ hp A h y = true ∧ sH A h + fb_ct (hp A h) y = P ∧ r = nI y) ∨ (sH A 30 ≤ P ∧ r = -4)
theorem ct_lt {p : Nat → Bool} {y n : Nat} (h : p y = true) (hy : y < n) : fb_ct p y + 1 ≤ fb_ct p n := by
  have h1 := fb_ct_mono p (m := y + 1) (n := n) (by omega)
  have h2 : fb_ct p (y + 1) = fb_ct p y + 1 := by rw [fb_ct_succ, h]; rfl
  omega
theorem OS_lt {A : AS} {h h' y : Nat} (hh : h < h') (hy : y < 30) (e : hp A h y = true) : sH A h + fb_ct (hp A h) y < sH A h' := by
  have h1 := ct_lt e hy
  have h2 : sH A (h + 1) = sH A h + fb_ct (hp A h) 30 := rfl
  have h3 := sm_mono (fun i => fb_ct (hp A i) 30) (h + 1) (h' - (h + 1))
  rw [show h + 1 + (h' - (h + 1)) = h' by omega] at h3
  have h4 : sH A (h + 1) ≤ sH A h' := h3
  omega
theorem OS_one {A : AS} {P : Nat} {r r' : Int32} (a : OS A P r) (b : OS A P r') : r = r' := by
  rcases a with ⟨h, y, a1, a2, a3, a4, rfl⟩ | ⟨a1, rfl⟩
  · rcases b with ⟨h', y', b1, b2, b3, b4, rfl⟩ | ⟨b1, rfl⟩
    · by_cases e : h < h'
      · have := OS_lt e a2 a3; omega
      · by_cases e2 : h' < h
        · have := OS_lt e2 b2 b3; omega
        · have : h = h' := by omega
          subst this
          rw [fb_ct_kth_one a3 b3 (by omega)]
    · have := OS_lt a1 a2 a3; omega
  · rcases b with ⟨h', y', b1, b2, b3, b4, rfl⟩ | ⟨b1, rfl⟩
    · have := OS_lt b1 b2 b3; omega
    · rfl
theorem aG_lt {F : Fo} (hF : VFs F) {d : Nat} (hd : d < 30) (h : aT (fin F) d = true) : aG (fin F) d < 30 := by
  have := ((AI_fin hF).1 d hd h).1
  have := fb_ct_le (aT (fin F)) 30
  omega
theorem c_order {F : Fo} {n : RKT} (hF : VFs F) (hN : NR F n) {P : Nat} (hP : P < 2 ^ 31) : ∃ r, fX3_nthByHeight (rkH n) (rkK n) (nI P) = some r ∧ OS (fin F) P r := by
  unfold fX3_nthByHeight
  refine fr1 (fX3_nthByHeight_b4 (rkH n) (rkK n) (nI P)) 30 (fun h l => sH (fin F) h ≤ P ∧ l = nI (sH (fin F) h)) (fun o => ∃ r, o = some r ∧ OS (fin F) P r) (by omega) ?_ ?_ fu 0 0 (by omega) (by unfold fu; omega) ⟨Nat.zero_le _, rfl⟩
  · intro self h l hh ⟨i1, i2⟩ hself
    unfold fX3_nthByHeight_b4
    rw [if_neg (ge30 hh), i2]
    refine fr1 (fX3_nthByHeight_b13 (rkH n) (rkK n) (nI P) self (nI h)) 30 (fun t l => sH (fin F) h + fb_ct (hp (fin F) h) t ≤ P ∧ l = nI (sH (fin F) h + fb_ct (hp (fin F) h) t)) (fun o => ∃ r, o = some r ∧ OS (fin F) P r) (by omega) ?_ ?_ fu 0 _ (by omega) (by unfold fu; omega) ⟨i1, rfl⟩
    · intro self2 t l ht ⟨j1, j2⟩ hself2
      unfold fX3_nthByHeight_b13 fX3_nthByHeight_j54
      rw [if_neg (ge30 ht), has_bt (by omega), nI_1, j2, ← hN.1.1 t ht, rdN ht (by omega)]
      have no : hp (fin F) h t = false → sH (fin F) h + fb_ct (hp (fin F) h) (t + 1) = sH (fin F) h + fb_ct (hp (fin F) h) t := fun z => by rw [fb_ct_succ, z]; rfl
      cases hT : aT (fin F) t
      · rw [if_neg (show ¬ false = true by decide)]
        have := no (by unfold hp; rw [hT]; rfl)
        exact hself2 _ ⟨by omega, by rw [this]⟩
      · rw [if_pos (show true = true from rfl), (hN.1.2.2.1 t ht hT).2.1]
        have hg := aG_lt hF ht hT
        by_cases e : aG (fin F) t = h
        · have hh1 : hp (fin F) h t = true := by unfold hp; rw [hT, decide_eq_true e]; rfl
          have h2 : fb_ct (hp (fin F) h) (t + 1) = fb_ct (hp (fin F) h) t + 1 := by rw [fb_ct_succ, hh1]; rfl
          rw [e, if_pos rfl]
          by_cases z : sH (fin F) h + fb_ct (hp (fin F) h) t = P
          · rw [z, if_pos rfl]
            exact ⟨_, rfl, Or.inl ⟨h, t, hh, ht, hh1, z, rfl⟩⟩
          · rw [if_neg (fun q => z (nI_inj q (by omega) hP)), nI_1]
            exact hself2 _ ⟨by omega, by rw [h2]; rfl⟩
        · rw [if_neg (fun q => e (nI_inj q (by omega) (by omega)))]
          have := no (by unfold hp; rw [decide_eq_false e, Bool.and_false])
          exact hself2 _ ⟨by omega, by rw [this]⟩
    · intro self2 l ⟨j1, j2⟩
      unfold fX3_nthByHeight_b13
      rw [if_pos le30, nI_1]
      exact hself _ ⟨j1, j2⟩
  · intro self l ⟨i1, i2⟩
    unfold fX3_nthByHeight_b4
    rw [if_pos le30]
    exact ⟨_, rfl, Or.inr ⟨i1, rfl⟩⟩
theorem q_order {F : Fo} {st mV mT mW mR mN mH : Nat → Int32} {s : Int32} {n : RKT} (hP : PM F st 0) (hF : VFs F) (hS : MRS F mV mT mW mR mN mH s) (hN : NR F n) (p : Int32) : QA F (fX8_order st mV mT mW mR mN mH s p) (fX7_order n p) := by
  unfold fX8_order fX7_order
  rcases nn_cs p with h | ⟨P, hP31, rfl, h⟩
  · rw [if_neg h, if_neg h]
    exact ⟨_, _, _, _, _, _, _, _, rfl, hS, rfl⟩
  rw [if_pos h, if_pos h]
  obtain ⟨a, b, w, e, m, g, h1, h2⟩ := m_starts hP hF hS
  obtain ⟨r, c1, c2⟩ := c_order hF hN hP31
  rw [h1, bd7_e, c1, bd1_e]
  have fin1 : ∀ r', OS (fin F) P r' → QA F (some (r', a, b, w, e, m, g, 1)) (some r) := fun r' h9 => ⟨_, _, _, _, _, _, _, _, rfl, Or.inr ⟨rfl, h2⟩, by rw [OS_one c2 h9]⟩
  refine fr1 (fX8_order_b14 st (nI P) a b w e m g 1) 30 (fun h l => sH (fin F) h ≤ P ∧ l = nI (P - sH (fin F) h)) (fun o => QA F o (some r)) (by omega) ?_ ?_ fu 0 (nI P) (by omega) (by unfold fu; omega) ⟨Nat.zero_le _, rfl⟩
  · intro self h l hh ⟨i1, i2⟩ hself
    unfold fX8_order_b14
    rw [if_neg (ge30 hh), i2]
    refine fr1 (fX8_order_b23 st (nI P) self a b w e m g 1 (nI h)) 30 (fun t l => sH (fin F) h + fb_ct (hp (fin F) h) t ≤ P ∧ l = nI (P - (sH (fin F) h + fb_ct (hp (fin F) h) t))) (fun o => QA F o (some r)) (by omega) ?_ ?_ fu 0 _ (by omega) (by unfold fu; omega) ⟨i1, rfl⟩
    · intro self2 t l ht ⟨j1, j2⟩ hself2
      unfold fX8_order_b23 fX8_order_j51
      rw [if_neg (ge30 ht), rdN ht (by omega), nI_1, j2]
      have no : hp (fin F) h t = false → sH (fin F) h + fb_ct (hp (fin F) h) (t + 1) = sH (fin F) h + fb_ct (hp (fin F) h) t := fun z => by rw [fb_ct_succ, z]; rfl
      cases hT : aT (fin F) t
      · rw [(h2.2.2.1 t ht hT).2, if_neg (m4_ne (by omega))]
        have := no (by unfold hp; rw [hT]; rfl)
        exact hself2 _ ⟨by omega, by rw [this]⟩
      · rw [(h2.2.1 t ht hT).2.1]
        have hg := aG_lt hF ht hT
        by_cases e : aG (fin F) t = h
        · have hh1 : hp (fin F) h t = true := by unfold hp; rw [hT, decide_eq_true e]; rfl
          have h2 : fb_ct (hp (fin F) h) (t + 1) = fb_ct (hp (fin F) h) t + 1 := by rw [fb_ct_succ, hh1]; rfl
          rw [e, if_pos rfl]
          by_cases z : sH (fin F) h + fb_ct (hp (fin F) h) t = P
          · rw [z, Nat.sub_self, if_pos (show nI 0 = 0 from rfl)]
            exact fin1 _ (Or.inl ⟨h, t, hh, ht, hh1, z, rfl⟩)
          · rw [if_neg (show ¬ nI (P - (sH (fin F) h + fb_ct (hp (fin F) h) t)) = 0 from fun q => by have := nI_inj (b := 0) q (by omega) (by omega); omega)]
            refine hself2 _ ⟨by omega, ?_⟩
            have h3 : nI (P - (sH (fin F) h + fb_ct (hp (fin F) h) t)) - nI 1 = nI (P - (sH (fin F) h + fb_ct (hp (fin F) h) t) - 1) := pk_sub (by omega)
            rw [h2, show P - (sH (fin F) h + (fb_ct (hp (fin F) h) t + 1)) = P - (sH (fin F) h + fb_ct (hp (fin F) h) t) - 1 by omega, ← h3]
            exact (Int32.sub_eq_add_neg _ _).symm
        · rw [if_neg (fun q => e (nI_inj q (by omega) (by omega)))]
          have := no (by unfold hp; rw [decide_eq_false e, Bool.and_false])
          exact hself2 _ ⟨by omega, by rw [this]⟩
    · intro self2 l ⟨j1, j2⟩
      unfold fX8_order_b23
      rw [if_pos le30, nI_1]
      exact hself _ ⟨j1, j2⟩
  · intro self l ⟨i1, i2⟩
    unfold fX8_order_b14
    rw [if_pos le30]
    exact fin1 _ (Or.inr ⟨i1, rfl⟩)
def mxG (A : AS) : Nat → Nat
  | 0 => 0
  | d + 1 => if aT A d = true then max (mxG A d) (aG A d) else mxG A d
theorem mxG_lt {F : Fo} (hF : VFs F) : ∀ {t : Nat}, t ≤ 30 → mxG (fin F) t < 30
  | 0, _ => by rw [mxG]; omega
  | t + 1, ht => by
    have := mxG_lt hF (t := t) (by omega)
    rw [mxG]
    split
    · rename_i h
      have := aG_lt hF (d := t) (by omega) h
      omega
    · exact this
theorem c_great {F : Fo} {n : RKT} (hF : VFs F) (hN : NR F n) : fX3_greatestHeight (rkH n) (rkK n) = some (nI (mxG (fin F) 30)) := by
  unfold fX3_greatestHeight
  refine fr1 (fX3_greatestHeight_b4 (rkH n) (rkK n)) 30 (fun t l => l = nI (mxG (fin F) t)) (fun r => r = some (nI (mxG (fin F) 30))) (by omega) ?_ ?_ fu 0 0 (by omega) (by unfold fu; omega) rfl
  · intro self t l ht hI hself
    unfold fX3_greatestHeight_b4 fX3_greatestHeight_j32
    rw [if_neg (ge30 ht), has_bt (by omega), nI_1, hI, ← hN.1.1 t ht, rdN ht (by omega)]
    have hm := mxG_lt hF (t := t) (by omega)
    cases hT : aT (fin F) t
    · rw [if_neg (show ¬ false = true by decide)]
      refine hself _ ?_
      rw [mxG, hT, if_neg (by decide)]
    · rw [if_pos (show true = true from rfl), (hN.1.2.2.1 t ht hT).2.1]
      refine hself _ ?_
      have := aG_lt hF ht hT
      rw [mxG, hT, if_pos rfl]
      exact mxI_nI (by omega) (by omega)
  · intro self l hI
    unfold fX3_greatestHeight_b4
    rw [if_pos le30, hI]
theorem c_countReads {F : Fo} {n : RKT} (hF : VFs F) (hN : NR F n) : fX3_countReads (rkR n) = some (nI (sm (aN (fin F)) 30)) := by
  unfold fX3_countReads
  refine fr1 (fX3_countReads_b4 (rkR n)) 30 (fun t l => l = nI (sm (aN (fin F)) t)) (fun r => r = some (nI (sm (aN (fin F)) 30))) (by omega) ?_ ?_ fu 0 0 (by omega) (by unfold fu; omega) rfl
  · intro self t l ht hI hself
    unfold fX3_countReads_b4
    rw [if_neg (ge30 ht), rdN ht (by omega), bitCount_pop, bd1_e, nI_1, hI, pop_R (AL_fin hF) (RB_of hN.1) ht, nI_add]
    exact hself _ rfl
  · intro self l hI
    unfold fX3_countReads_b4
    rw [if_pos le30, hI]
def fT (F : Fo) (d : Nat) : Bool := !decide ((F d).1 = 0)
theorem kind_lt {F : Fo} (hF : VFs F) {d : Nat} (hd : d < 30) : (F d).1 < 9 := by
  rcases hF d hd with h | h | h | h | h | h <;> omega
theorem c_countTold {F : Fo} {parts : Nat → Int32} (hF : VFs F) (hC : PC F parts) : fX1_countTold parts = some (nI (fb_ct (fT F) 30)) := by
  unfold fX1_countTold
  refine fr1 (fX1_countTold_b4 parts) 30 (fun t l => l = nI (fb_ct (fT F) t)) (fun r => r = some (nI (fb_ct (fT F) 30))) (by omega) ?_ ?_ fu 0 0 (by omega) (by unfold fu; omega) rfl
  · intro self t l ht hI hself
    unfold fX1_countTold_b4 fX1_countTold_j25
    have hk := kind_lt hF ht
    rw [if_neg (ge30 ht), show fX1_part parts (nI t) 0 = some (nI (F t).1) from (f_part (k := 0) ht (by omega)).trans (by rw [Nat.add_zero, (hC t ht).1]), bd1_e, nI_1, hI]
    by_cases e : (F t).1 = 0
    · rw [if_pos (show nI (F t).1 = 0 by rw [e]; rfl), Int32.add_zero]
      refine hself _ ?_
      rw [fb_ct_succ, show fT F t = false by unfold fT; rw [decide_eq_true e]; rfl]; rfl
    · rw [if_neg (show ¬ nI (F t).1 = 0 from fun z => e (nI_inj (b := 0) z (by omega) (by omega))), nI_1]
      refine hself _ ?_
      rw [fb_ct_succ, show fT F t = true by unfold fT; rw [decide_eq_false e]; rfl]; rfl
  · intro self l hI
    unfold fX1_countTold_b4
    rw [if_pos le30, hI]
theorem m_formulas {F : Fo} {st : Nat → Int32} (hF : VFs F) (hP : PM F st 0) : fX8_formulas st = some (nI (fb_ct (fT F) 30)) := by
  unfold fX8_formulas
  refine fr1 (fX8_formulas_b4 st) 30 (fun t l => l = nI (fb_ct (fT F) t)) (fun r => r = some (nI (fb_ct (fT F) 30))) (by omega) ?_ ?_ fu 0 0 (by omega) (by unfold fu; omega) rfl
  · intro self t l ht hI hself
    unfold fX8_formulas_b4 fX8_formulas_j25
    have hk := kind_lt hF ht
    have h0 := (hP t ht).1
    rw [Nat.zero_add] at h0
    rw [if_neg (ge30 ht), rdN (by omega) (by omega), h0, nI_1, hI]
    by_cases e : (F t).1 = 0
    · rw [if_pos (show nI (F t).1 = 0 by rw [e]; rfl), Int32.add_zero]
      refine hself _ ?_
      rw [fb_ct_succ, show fT F t = false by unfold fT; rw [decide_eq_true e]; rfl]; rfl
    · rw [if_neg (show ¬ nI (F t).1 = 0 from fun z => e (nI_inj (b := 0) z (by omega) (by omega))), nI_1]
      refine hself _ ?_
      rw [fb_ct_succ, show fT F t = true by unfold fT; rw [decide_eq_false e]; rfl]; rfl
  · intro self l hI
    unfold fX8_formulas_b4
    rw [if_pos le30, hI]
theorem m4_le {k : Nat} (h : k < 2 ^ 31) : (-4 : Int32) ≤ nI k := by
  rw [Int32.le_iff_toInt_le, nI_toInt h]
  have : ((-4 : Int32)).toInt = -4 := rfl
  omega
theorem m_rule {F : Fo} {st a b w e m g : Nat → Int32} {um p : Int32} {q : Nat → Nat} (hF : VFs F) (h2 : MR (fin F) a b w e m g) (hq : ∀ d, d < 30 → fX8_ruled b w m p (nI d) = some (nI (q d))) : ∃ self, lq3 (fX8_rule_b11 st um p a b w e m g 1) fu 0 0 0 = fX8_rule_b11 st um p a b w e m g 1 self (nI (sm q 30)) (nI (mxG (fin F) 30)) (nI 30) := by
  refine fr2 (fX8_rule_b11 st um p a b w e m g 1) 30 (fun t l2 l3 => l2 = nI (sm q t) ∧ l3 = nI (mxG (fin F) t)) (fun o => ∃ self, o = fX8_rule_b11 st um p a b w e m g 1 self (nI (sm q 30)) (nI (mxG (fin F) 30)) (nI 30)) (by omega) ?_ ?_ fu 0 0 0 (by omega) (by unfold fu; omega) ⟨rfl, rfl⟩
  · intro self t l2 l3 ht ⟨i1, i2⟩ hself
    unfold fX8_rule_b11 fX8_rule_j50
    have hm := mxG_lt hF (t := t) (by omega)
    rw [if_neg (ge30 ht), hq t ht, bd1_e, rdN ht (by omega), i1, i2, nI_1, nI_add, rdN ht (by omega)]
    cases hT : aT (fin F) t
    · rw [(h2.2.2.1 t ht hT).2, if_pos (m4_le (by omega))]
      exact hself _ _ ⟨rfl, by rw [mxG, hT, if_neg (by decide)]⟩
    · have hg := aG_lt hF ht hT
      rw [(h2.2.1 t ht hT).2.1]
      by_cases z : aG (fin F) t ≤ mxG (fin F) t
      · rw [if_pos (nI_le z (by omega))]
        exact hself _ _ ⟨rfl, by rw [mxG, hT, if_pos rfl, Nat.max_eq_left z]⟩
      · rw [if_neg (nI_ge (by omega) (by omega))]
        exact hself _ _ ⟨rfl, by rw [mxG, hT, if_pos rfl, Nat.max_eq_right (by omega)]⟩
  · intro self l2 l3 ⟨i1, i2⟩
    rw [i1, i2]
    exact ⟨self, rfl⟩
theorem q_rule {F : Fo} {st mV mT mW mR mN mH parts : Nat → Int32} {s um : Int32} {n : RKT} (hP : PM F st 0) (hC : PC F parts) (hF : VFs F) (hS : MRS F mV mT mW mR mN mH s) (hN : NR F n) (p : Int32) : QA F (fX8_rule st mV mT mW mR mN mH s um p) (fX7_rule parts n um p) := by
  unfold fX8_rule fX7_rule
  obtain ⟨a, b, w, e, m, g, h1, h2⟩ := m_starts hP hF hS
  rw [h1, bd7_e]
  have hB := WB_fin hF
  have hM := MW_of hF h2
  have hL := ML_of hF h2
  have fin1 : ∀ r, QA F (some (r, a, b, w, e, m, g, 1)) (some r) := fun r => ⟨_, _, _, _, _, _, _, _, rfl, Or.inr ⟨rfl, h2⟩, rfl⟩
  have hin : ∀ k : Nat, 1 ≤ k → k ≤ 6 → fX8_in ((nI k).toInt64) 1 6 = some 1 := fun k h3 h4 => by
    rw [f_in, to64, nI_toInt (by omega), show (1 : Int64).toInt = 1 from rfl, show (6 : Int64).toInt = 6 from rfl, if_pos (by omega)]
  have qo : (¬ p = 1) → (¬ p = 2) → (¬ p = 3) → (¬ p = 4) → ∀ d, d < 30 → fX8_ruled b w m p (nI d) = some (nI (aN (fin F) d)) := fun n1 n2 n3 n4 d hd => by
    unfold fX8_ruled
    rw [if_neg n1, if_neg n2, if_neg n3, if_neg n4, rdN hd (by omega), (hL d hd).1]
  have hT : ∀ d, d < 30 → b d = if aT (fin F) d = true then 1 else 0 := fun d hd => (hM d hd).1
  by_cases c0 : p = 0
  · subst c0
    rw [if_pos (show (0 : Int32) = 0 from rfl)]
    obtain ⟨self, hs⟩ := m_rule (st := st) (um := um) (q := aN (fin F)) hF h2 (qo (by decide) (by decide) (by decide) (by decide))
    rw [hs]
    unfold fX8_rule_b11
    rw [if_pos le30, if_pos (show (0 : Int32) = 0 from rfl)]
    rw [m_formulas hF hP, bd1_e, c_countTold hF hC, bd1_e]
    exact fin1 _
  by_cases c1 : p = 1
  · subst c1
    rw [if_neg (show ¬ (1 : Int32) = 0 by decide), if_pos (show (1 : Int32) = 1 from rfl)]
    obtain ⟨self, hs⟩ := m_rule (st := st) (um := um) (q := fun d => if aT (fin F) d = true then 1 else 0) hF h2 (fun d hd => by
      unfold fX8_ruled
      rw [if_pos (show (1 : Int32) = 1 from rfl), rdN hd (by omega), hT d hd]
      cases aT (fin F) d <;> rfl)
    rw [hs]
    unfold fX8_rule_b11
    rw [if_pos le30, if_neg (show ¬ (1 : Int32) = 0 by decide), if_neg (show ¬ (1 : Int32) = 5 by decide), if_neg (show ¬ (1 : Int32) = 7 by decide), show fX8_in ((1 : Int32).toInt64) 1 6 = some 1 from hin 1 (by omega) (by omega), bd1_e, if_neg (show ¬ (1 : Int32) = 0 by decide)]
    rw [bitCount_pop, bd1_e, pop30 hN.1.2.1, sm_ct (p := aT (fin F)) (fun d hd => rfl), fb_ct_cong (p := bt (rkK n)) (q := aT (fin F)) (fun d hd => (hN.1.1 d hd).symm)]
    exact fin1 _
  by_cases c2 : p = 2
  · subst c2
    rw [if_neg (show ¬ (2 : Int32) = 0 by decide), if_neg (show ¬ (2 : Int32) = 1 by decide), if_pos (show (2 : Int32) = 2 from rfl)]
    obtain ⟨self, hs⟩ := m_rule (st := st) (um := um) (q := fun d => if (!aT (fin F) d) = true then 1 else 0) hF h2 (fun d hd => by
      unfold fX8_ruled
      rw [if_neg (show ¬ (2 : Int32) = 1 by decide), if_pos (show (2 : Int32) = 2 from rfl), rdN hd (by omega), hT d hd]
      cases aT (fin F) d <;> rfl)
    rw [hs]
    unfold fX8_rule_b11
    rw [if_pos le30, if_neg (show ¬ (2 : Int32) = 0 by decide), if_neg (show ¬ (2 : Int32) = 5 by decide), if_neg (show ¬ (2 : Int32) = 7 by decide), show fX8_in ((2 : Int32).toInt64) 1 6 = some 1 from hin 2 (by omega) (by omega), bd1_e, if_neg (show ¬ (1 : Int32) = 0 by decide)]
    have hnot := fb_ct_not (aT (fin F)) 30
    rw [bitCount_pop, bd1_e, pop30 hN.1.2.1, sm_ct (p := fun d => !aT (fin F) d) (fun d hd => rfl), fb_ct_cong (p := bt (rkK n)) (q := aT (fin F)) (fun d hd => (hN.1.1 d hd).symm), show (30 : Int32) - nI (fb_ct (aT (fin F)) 30) = nI (30 - fb_ct (aT (fin F)) 30) from pk_sub (a := 30) (by omega), show 30 - fb_ct (aT (fin F)) 30 = fb_ct (fun d => !aT (fin F) d) 30 by omega]
    exact fin1 _
  by_cases c3 : p = 3
  · subst c3
    rw [if_neg (show ¬ (3 : Int32) = 0 by decide), if_neg (show ¬ (3 : Int32) = 1 by decide), if_neg (show ¬ (3 : Int32) = 2 by decide), if_pos (show (3 : Int32) = 3 from rfl)]
    obtain ⟨self, hs⟩ := m_rule (st := st) (um := um) (q := fun d => if bt (rkC n) d = true then 1 else 0) hF h2 (fun d hd => by
      unfold fX8_ruled
      rw [if_neg (show ¬ (3 : Int32) = 1 by decide), if_neg (show ¬ (3 : Int32) = 2 by decide), if_pos (show (3 : Int32) = 3 from rfl)]
      rcases m_circleOf hB hM hd with ⟨k, hk, he⟩ | ⟨hk, he⟩
      · rw [he, bd1_e, if_neg (show ¬ nI k ≤ 0 from nI_ge (b := k) (a := 0) (by have := hk.1; omega) (by have := hk.2.1; omega)), if_pos ((hN.2.1 d hd).mpr ⟨k, hk⟩)]; rfl
      · rw [he, bd1_e, if_pos (by decide), if_neg (show ¬ bt (rkC n) d = true from fun z => by obtain ⟨k, h9⟩ := (hN.2.1 d hd).mp z; exact hk k h9)]; rfl)
    rw [hs]
    unfold fX8_rule_b11
    rw [if_pos le30, if_neg (show ¬ (3 : Int32) = 0 by decide), if_neg (show ¬ (3 : Int32) = 5 by decide), if_neg (show ¬ (3 : Int32) = 7 by decide), show fX8_in ((3 : Int32).toInt64) 1 6 = some 1 from hin 3 (by omega) (by omega), bd1_e, if_neg (show ¬ (1 : Int32) = 0 by decide)]
    rw [bitCount_pop, bd1_e, pop30 hN.2.2.1, sm_ct (p := bt (rkC n)) (fun d hd => rfl)]
    exact fin1 _
  by_cases c4 : p = 4
  · subst c4
    rw [if_neg (show ¬ (4 : Int32) = 0 by decide), if_neg (show ¬ (4 : Int32) = 1 by decide), if_neg (show ¬ (4 : Int32) = 2 by decide), if_neg (show ¬ (4 : Int32) = 3 by decide), if_pos (show (4 : Int32) = 4 from rfl)]
    obtain ⟨self, hs⟩ := m_rule (st := st) (um := um) (q := fun d => if decide (fX8_isFirst b w (nI d) = some 1) = true then 1 else 0) hF h2 (fun d hd => by
      unfold fX8_ruled
      rw [if_neg (show ¬ (4 : Int32) = 1 by decide), if_neg (show ¬ (4 : Int32) = 2 by decide), if_neg (show ¬ (4 : Int32) = 3 by decide), if_pos (show (4 : Int32) = 4 from rfl)]
      rcases m_isFirst hB hM hd with ⟨_, he⟩ | ⟨_, he⟩
      · rw [he, bd1_e, if_neg (show ¬ (1 : Int32) = 0 by decide), if_pos (decide_eq_true rfl)]; rfl
      · rw [he, bd1_e, if_pos rfl, if_neg (show ¬ decide ((some (0 : Int32) : Option Int32) = some 1) = true by decide)]; rfl)
    rw [hs]
    unfold fX8_rule_b11
    rw [if_pos le30, if_neg (show ¬ (4 : Int32) = 0 by decide), if_neg (show ¬ (4 : Int32) = 5 by decide), if_neg (show ¬ (4 : Int32) = 7 by decide), show fX8_in ((4 : Int32).toInt64) 1 6 = some 1 from hin 4 (by omega) (by omega), bd1_e, if_neg (show ¬ (1 : Int32) = 0 by decide)]
    rw [sm_ct (p := fun d => decide (fX8_isFirst b w (nI d) = some 1)) (fun d hd => rfl), hN.2.2.2 (fun d => decide (fX8_isFirst b w (nI d) = some 1)) (fun d hd => by
      rw [decide_eq_true_iff]
      rcases m_isFirst hB hM hd with ⟨hx, he⟩ | ⟨hx, he⟩
      · exact ⟨fun _ => hx, fun _ => he⟩
      · exact ⟨fun z => by rw [he] at z; exact absurd z (by decide), fun z => absurd z hx⟩)]
    exact fin1 _
  by_cases c5 : p = 5
  · subst c5
    rw [if_neg (show ¬ (5 : Int32) = 0 by decide), if_neg (show ¬ (5 : Int32) = 1 by decide), if_neg (show ¬ (5 : Int32) = 2 by decide), if_neg (show ¬ (5 : Int32) = 3 by decide), if_neg (show ¬ (5 : Int32) = 4 by decide), if_pos (show (5 : Int32) = 5 from rfl)]
    obtain ⟨self, hs⟩ := m_rule (st := st) (um := um) (q := aN (fin F)) hF h2 (qo (by decide) (by decide) (by decide) (by decide))
    rw [hs]
    unfold fX8_rule_b11
    rw [if_pos le30, if_neg (show ¬ (5 : Int32) = 0 by decide), if_pos (show (5 : Int32) = 5 from rfl)]
    rw [c_great hF hN, bd1_e]
    exact fin1 _
  by_cases c6 : p = 6
  · subst c6
    rw [if_neg (show ¬ (6 : Int32) = 0 by decide), if_neg (show ¬ (6 : Int32) = 1 by decide), if_neg (show ¬ (6 : Int32) = 2 by decide), if_neg (show ¬ (6 : Int32) = 3 by decide), if_neg (show ¬ (6 : Int32) = 4 by decide), if_neg (show ¬ (6 : Int32) = 5 by decide), if_pos (show (6 : Int32) = 6 from rfl)]
    obtain ⟨self, hs⟩ := m_rule (st := st) (um := um) (q := aN (fin F)) hF h2 (qo (by decide) (by decide) (by decide) (by decide))
    rw [hs]
    unfold fX8_rule_b11
    rw [if_pos le30, if_neg (show ¬ (6 : Int32) = 0 by decide), if_neg (show ¬ (6 : Int32) = 5 by decide), if_neg (show ¬ (6 : Int32) = 7 by decide), show fX8_in ((6 : Int32).toInt64) 1 6 = some 1 from hin 6 (by omega) (by omega), bd1_e, if_neg (show ¬ (1 : Int32) = 0 by decide)]
    rw [c_countReads hF hN, bd1_e]
    exact fin1 _
  by_cases c7 : p = 7
  · subst c7
    rw [if_neg (show ¬ (7 : Int32) = 0 by decide), if_neg (show ¬ (7 : Int32) = 1 by decide), if_neg (show ¬ (7 : Int32) = 2 by decide), if_neg (show ¬ (7 : Int32) = 3 by decide), if_neg (show ¬ (7 : Int32) = 4 by decide), if_neg (show ¬ (7 : Int32) = 5 by decide), if_neg (show ¬ (7 : Int32) = 6 by decide), if_pos (show (7 : Int32) = 7 from rfl)]
    obtain ⟨self, hs⟩ := m_rule (st := st) (um := um) (q := aN (fin F)) hF h2 (qo (by decide) (by decide) (by decide) (by decide))
    rw [hs]
    unfold fX8_rule_b11
    rw [if_pos le30, if_neg (show ¬ (7 : Int32) = 0 by decide), if_neg (show ¬ (7 : Int32) = 5 by decide), if_pos (show (7 : Int32) = 7 from rfl)]
    exact fin1 _
  rw [if_neg c0, if_neg c1, if_neg c2, if_neg c3, if_neg c4, if_neg c5, if_neg c6, if_neg c7]
  obtain ⟨self, hs⟩ := m_rule (st := st) (um := um) (q := aN (fin F)) hF h2 (qo c1 c2 c3 c4)
  rw [hs]
  unfold fX8_rule_b11
  rw [if_pos le30, if_neg c0, if_neg c5, if_neg c7, f_in, to64, bd1_e, show (1 : Int64).toInt = 1 from rfl, show (6 : Int64).toInt = 6 from rfl]
  have hno : ¬ (1 ≤ p.toInt ∧ p.toInt ≤ 6) := fun ⟨h3, h4⟩ => by
    have hcase : ∀ k : Nat, k < 100 → p.toInt = (k : Int) → p = nI k := fun k hk hz => Int32.toInt_inj.mp (by rw [nI_toInt (by omega)]; exact hz)
    have : p.toInt = 1 ∨ p.toInt = 2 ∨ p.toInt = 3 ∨ p.toInt = 4 ∨ p.toInt = 6 ∨ p.toInt = 5 := by omega
    rcases this with z | z | z | z | z | z
    · exact c1 (hcase 1 (by omega) z)
    · exact c2 (hcase 2 (by omega) z)
    · exact c3 (hcase 3 (by omega) z)
    · exact c4 (hcase 4 (by omega) z)
    · exact c6 (hcase 6 (by omega) z)
    · exact c5 (hcase 5 (by omega) z)
  rw [if_neg hno, if_pos rfl]
  exact fin1 _
