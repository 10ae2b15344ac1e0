/-! QUESTIONS: cell, count -/
theorem q_cell {F : Fo} {st mV mT mW mR mN mH parts : Nat → Int32} {s : Int32} {n : RKT} (hP : PM F st 0) (hC : PC F parts) (hF : VFs F) (hS : MRS F mV mT mW mR mN mH s) (hN : NR F n) (p q : Int32) : QA F (fX8_cell st mV mT mW mR mN mH s p q) (fX7_cell parts n p q) := by
  unfold fX8_cell fX7_cell
  rcases cell_cs p with ⟨e1, e2⟩ | ⟨c, hc, rfl, e1, e2⟩
  · rw [e1, e2, bd1_e, bd1_e, if_pos rfl, if_pos rfl]
    exact ⟨_, _, _, _, _, _, _, _, rfl, hS, rfl⟩
  rw [e1, e2, bd1_e, bd1_e, if_neg (show ¬ (1 : Int32) = 0 by decide), if_neg (show ¬ (1 : Int32) = 0 by decide)]
  obtain ⟨a, b, w, e, m, g, h1, h2⟩ := m_starts hP hF hS
  rw [h1, bd7_e]
  have hB := WB_fin hF
  have hM := MW_of hF h2
  have hL := ML_of hF h2
  have hA := AL_fin hF
  have hR := RB_of hN.1
  have hW := WR_of hF hN.1
  have hK := hN.1.1 c hc
  obtain ⟨s0, s1, s2, s3⟩ := hP c hc
  obtain ⟨t0, t1, t2, t3⟩ := hC c hc
  simp only [Nat.zero_add] at s0 s1 s2 s3
  have fin1 : ∀ r, QA F (some (r, a, b, w, e, m, g, 1)) (some r) := fun r => ⟨_, _, _, _, _, _, _, _, rfl, Or.inr ⟨rfl, h2⟩, rfl⟩
  by_cases c0 : q = 0
  · subst c0
    rw [if_pos (show (0 : Int32) = 0 from rfl), if_pos (show (0 : Int32) = 0 from rfl), show (30 : Int32) * (0 : Int32) = nI 0 from rfl, nI_add, rdN (by omega) (by omega), Nat.zero_add, s0, show fX1_part parts (nI c) 0 = some (parts (4 * c + 0)) from f_part (k := 0) hc (by omega), bd1_e, Nat.add_zero, t0]
    exact fin1 _
  by_cases c1 : q = 1
  · subst c1
    rw [if_neg (show ¬ (1 : Int32) = 0 by decide), if_neg (show ¬ (1 : Int32) = 0 by decide), if_pos (show (1 : Int32) = 1 from rfl), if_pos (show (1 : Int32) = 1 from rfl), show (30 : Int32) * (1 : Int32) = nI 30 from rfl, nI_add, rdN (by omega) (by omega), s1, show fX1_part parts (nI c) 1 = some (parts (4 * c + 1)) from f_part (k := 1) hc (by omega), bd1_e, t1]
    exact fin1 _
  by_cases c2 : q = 2
  · subst c2
    rw [if_neg (show ¬ (2 : Int32) = 0 by decide), if_neg (show ¬ (2 : Int32) = 0 by decide), if_neg (show ¬ (2 : Int32) = 1 by decide), if_neg (show ¬ (2 : Int32) = 1 by decide), if_pos (show (2 : Int32) = 2 from rfl), if_pos (show (2 : Int32) = 2 from rfl), show (30 : Int32) * (2 : Int32) = nI 60 from rfl, nI_add, rdN (by omega) (by omega), s2, show fX1_part parts (nI c) 2 = some (parts (4 * c + 2)) from f_part (k := 2) hc (by omega), bd1_e, t2]
    exact fin1 _
  by_cases c3 : q = 3
  · subst c3
    rw [if_neg (show ¬ (3 : Int32) = 0 by decide), if_neg (show ¬ (3 : Int32) = 0 by decide), if_neg (show ¬ (3 : Int32) = 1 by decide), if_neg (show ¬ (3 : Int32) = 1 by decide), if_neg (show ¬ (3 : Int32) = 2 by decide), if_neg (show ¬ (3 : Int32) = 2 by decide), if_pos (show (3 : Int32) = 3 from rfl), if_pos (show (3 : Int32) = 3 from rfl), show (30 : Int32) * (3 : Int32) = nI 90 from rfl, nI_add, rdN (by omega) (by omega), s3, show fX1_part parts (nI c) 3 = some (parts (4 * c + 3)) from f_part (k := 3) hc (by omega), bd1_e, t3]
    exact fin1 _
  by_cases c4 : q = 4
  · subst c4
    unfold fX3_standing
    rw [if_neg (show ¬ (4 : Int32) = 0 by decide), if_neg (show ¬ (4 : Int32) = 0 by decide), if_neg (show ¬ (4 : Int32) = 1 by decide), if_neg (show ¬ (4 : Int32) = 1 by decide), if_neg (show ¬ (4 : Int32) = 2 by decide), if_neg (show ¬ (4 : Int32) = 2 by decide), if_neg (show ¬ (4 : Int32) = 3 by decide), if_neg (show ¬ (4 : Int32) = 3 by decide), if_pos (show (4 : Int32) = 4 from rfl), if_pos (show (4 : Int32) = 4 from rfl), rdN hc (by omega), has_bt (by omega), has_bt (by omega), h2.1 c hc, ← hK]
    cases hT : aT (fin F) c
    · rw [if_neg (show ¬ false = true by decide), if_pos rfl, if_neg (show ¬ false = true by decide)]
      rcases m_circleOf hB hM hc with ⟨k, hk, he⟩ | ⟨hk, he⟩
      · rw [he, bd1_e, if_neg (show ¬ nI k ≤ 0 from nI_ge (b := k) (a := 0) (by have := hk.1; omega) (by have := hk.2.1; omega)), if_pos ((hN.2.1 c hc).mpr ⟨k, hk⟩), bd1_e]
        exact fin1 _
      · rw [he, bd1_e, if_pos (show (0 : Int32) ≤ 0 by decide), if_neg (show ¬ bt (rkC n) c = true from fun z => by obtain ⟨k, h9⟩ := (hN.2.1 c hc).mp z; exact hk k h9), bd1_e]
        exact fin1 _
    · rw [if_pos (show true = true from rfl), if_neg (show ¬ (1 : Int32) = 0 by decide), if_pos (show true = true from rfl), bd1_e]
      exact fin1 _
  by_cases c5 : q = 5
  · subst c5
    rw [if_neg (show ¬ (5 : Int32) = 0 by decide), if_neg (show ¬ (5 : Int32) = 0 by decide), if_neg (show ¬ (5 : Int32) = 1 by decide), if_neg (show ¬ (5 : Int32) = 1 by decide), if_neg (show ¬ (5 : Int32) = 2 by decide), if_neg (show ¬ (5 : Int32) = 2 by decide), if_neg (show ¬ (5 : Int32) = 3 by decide), if_neg (show ¬ (5 : Int32) = 3 by decide), if_neg (show ¬ (5 : Int32) = 4 by decide), if_neg (show ¬ (5 : Int32) = 4 by decide), if_pos (show (5 : Int32) = 5 from rfl), if_pos (show (5 : Int32) = 5 from rfl), rdN hc (by omega), has_bt (by omega), rdN hc (by omega), ← hK]
    cases hT : aT (fin F) c
    · rw [if_neg (show ¬ false = true by decide), (h2.2.2.1 c hc hT).2]
      exact fin1 _
    · rw [if_pos (show true = true from rfl), (h2.2.1 c hc hT).2.1, (hN.1.2.2.1 c hc hT).2.1]
      exact fin1 _
  by_cases c6 : q = 6
  · subst c6
    rw [if_neg (show ¬ (6 : Int32) = 0 by decide), if_neg (show ¬ (6 : Int32) = 0 by decide), if_neg (show ¬ (6 : Int32) = 1 by decide), if_neg (show ¬ (6 : Int32) = 1 by decide), if_neg (show ¬ (6 : Int32) = 2 by decide), if_neg (show ¬ (6 : Int32) = 2 by decide), if_neg (show ¬ (6 : Int32) = 3 by decide), if_neg (show ¬ (6 : Int32) = 3 by decide), if_neg (show ¬ (6 : Int32) = 4 by decide), if_neg (show ¬ (6 : Int32) = 4 by decide), if_neg (show ¬ (6 : Int32) = 5 by decide), if_neg (show ¬ (6 : Int32) = 5 by decide), if_pos (show (6 : Int32) = 6 from rfl), if_pos (show (6 : Int32) = 6 from rfl), rdN hc (by omega), rdN hc (by omega), rdN hc (by omega), hW c hc, h2.1 c hc]
    cases hT : aT (fin F) c
    · rw [if_neg (show ¬ false = true by decide), if_pos rfl, if_neg (show ¬ false = true by decide), (hM c hc).2 hT]
      exact fin1 _
    · rw [if_pos (show true = true from rfl), if_neg (show ¬ (1 : Int32) = 0 by decide), if_pos (show true = true from rfl)]
      exact fin1 _
  by_cases c7 : q = 7
  · subst c7
    rw [if_neg (show ¬ (7 : Int32) = 0 by decide), if_neg (show ¬ (7 : Int32) = 0 by decide), if_neg (show ¬ (7 : Int32) = 1 by decide), if_neg (show ¬ (7 : Int32) = 1 by decide), if_neg (show ¬ (7 : Int32) = 2 by decide), if_neg (show ¬ (7 : Int32) = 2 by decide), if_neg (show ¬ (7 : Int32) = 3 by decide), if_neg (show ¬ (7 : Int32) = 3 by decide), if_neg (show ¬ (7 : Int32) = 4 by decide), if_neg (show ¬ (7 : Int32) = 4 by decide), if_neg (show ¬ (7 : Int32) = 5 by decide), if_neg (show ¬ (7 : Int32) = 5 by decide), if_neg (show ¬ (7 : Int32) = 6 by decide), if_neg (show ¬ (7 : Int32) = 6 by decide), if_pos (show (7 : Int32) = 7 from rfl), if_pos (show (7 : Int32) = 7 from rfl), rdN hc (by omega), rdN hc (by omega), (hL c hc).1, bitCount_pop, bd1_e, pop_R hA hR hc]
    exact fin1 _
  by_cases c8 : q = 8
  · subst c8
    obtain ⟨x, x1, x2, x3⟩ := c_readers1 hA hR hc
    rw [if_neg (show ¬ (8 : Int32) = 0 by decide), if_neg (show ¬ (8 : Int32) = 0 by decide), if_neg (show ¬ (8 : Int32) = 1 by decide), if_neg (show ¬ (8 : Int32) = 1 by decide), if_neg (show ¬ (8 : Int32) = 2 by decide), if_neg (show ¬ (8 : Int32) = 2 by decide), if_neg (show ¬ (8 : Int32) = 3 by decide), if_neg (show ¬ (8 : Int32) = 3 by decide), if_neg (show ¬ (8 : Int32) = 4 by decide), if_neg (show ¬ (8 : Int32) = 4 by decide), if_neg (show ¬ (8 : Int32) = 5 by decide), if_neg (show ¬ (8 : Int32) = 5 by decide), if_neg (show ¬ (8 : Int32) = 6 by decide), if_neg (show ¬ (8 : Int32) = 6 by decide), if_neg (show ¬ (8 : Int32) = 7 by decide), if_neg (show ¬ (8 : Int32) = 7 by decide), if_pos (show (8 : Int32) = 8 from rfl), if_pos (show (8 : Int32) = 8 from rfl), m_readersOf hA hR hL hc, bd1_e, f_bit, bd1_e, x1, bd1_e, bitCount_pop, bd1_e, pop30 x3, fb_ct_cong (p := bt x) (q := fun d => bt (rkR n d) c) x2]
    exact fin1 _
  rw [if_neg c0, if_neg c0, if_neg c1, if_neg c1, if_neg c2, if_neg c2, if_neg c3, if_neg c3, if_neg c4, if_neg c4, if_neg c5, if_neg c5, if_neg c6, if_neg c6, if_neg c7, if_neg c7, if_neg c8, if_neg c8]
  exact fin1 _
def smV (A : AS) : Nat → Int32
  | 0 => 0
  | d + 1 => smV A d + (if aT A d = true then aV A d else 0)
theorem c_sumV {F : Fo} {n : RKT} (hN : NR F n) : fX3_sumOfValues (rkV n) (rkK n) = some (smV (fin F) 30) := by
  unfold fX3_sumOfValues
  refine fr1 (fX3_sumOfValues_b4 (rkV n) (rkK n)) 30 (fun t l => l = smV (fin F) t) (fun r => r = some (smV (fin F) 30)) (by omega) ?_ ?_ fu 0 0 (by omega) (by unfold fu; omega) rfl
  · intro self t l ht hI hself
    unfold fX3_sumOfValues_b4 fX3_sumOfValues_j32
    rw [if_neg (ge30 ht), has_bt (by omega), nI_1, hI, ← hN.1.1 t ht, rdN ht (by omega)]
    cases hT : aT (fin F) t
    · rw [if_neg (show ¬ false = true by decide)]
      refine hself _ ?_
      rw [smV, hT, if_neg (by decide)]
    · rw [if_pos (show true = true from rfl), (hN.1.2.2.1 t ht hT).1]
      refine hself _ ?_
      rw [smV, hT, if_pos rfl]
  · intro self l hI
    unfold fX3_sumOfValues_b4
    rw [if_pos le30, hI]
def fS (F : Fo) (d : Nat) : Bool := decide ((F d).1 = 6 ∨ (F d).1 = 7)
theorem f_isSpan {k : Nat} (hk : k < 100) : fX7_isSpan (nI k) = some (if k = 6 ∨ k = 7 then 1 else 0) := by
  unfold fX7_isSpan
  by_cases h6 : k = 6
  · rw [if_pos (show nI k = 6 by rw [h6]; rfl), if_pos (Or.inl h6)]
  · rw [if_neg (show ¬ nI k = 6 from fun z => h6 (nI_inj (b := 6) z (by omega) (by omega)))]
    by_cases h7 : k = 7
    · rw [if_pos (show nI k = 7 by rw [h7]; rfl), if_pos (Or.inr h7)]
    · rw [if_neg (show ¬ nI k = 7 from fun z => h7 (nI_inj (b := 7) z (by omega) (by omega))), if_neg (by omega)]
theorem c_countSpans {F : Fo} {parts : Nat → Int32} (hF : VFs F) (hC : PC F parts) : fX1_countSpans parts = some (nI (fb_ct (fS F) 30)) := by
  unfold fX1_countSpans
  refine fr1 (fX1_countSpans_b4 parts) 30 (fun t l => l = nI (fb_ct (fS F) t)) (fun r => r = some (nI (fb_ct (fS F) 30))) (by omega) ?_ ?_ fu 0 0 (by omega) (by unfold fu; omega) rfl
  · intro self t l ht hI hself
    unfold fX1_countSpans_b4 fX1_countSpans_j28
    have hk := kind_lt hF ht
    rw [if_neg (ge30 ht), show fX1_part parts (nI t) 0 = some (nI (F t).1) from (f_part (k := 0) ht (by omega)).trans (by rw [Nat.add_zero, (hC t ht).1]), bd1_e, f_isSpan (by omega), bd1_e, nI_1, hI]
    by_cases e : (F t).1 = 6 ∨ (F t).1 = 7
    · rw [if_pos e, if_neg (show ¬ (1 : Int32) = 0 by decide), nI_1]
      refine hself _ ?_
      rw [fb_ct_succ, show fS F t = true from decide_eq_true e]; rfl
    · rw [if_neg e, if_pos rfl, Int32.add_zero]
      refine hself _ ?_
      rw [fb_ct_succ, show fS F t = false from decide_eq_false e]; rfl
  · intro self l hI
    unfold fX1_countSpans_b4
    rw [if_pos le30, hI]
theorem m_count {F : Fo} {st a b w e m g ik la le : Nat → Int32} {tp p : Int32} (hF : VFs F) (hP : PM F st 0) (h2 : MR (fin F) a b w e m g) : ∃ self, lq3 (fX8_count_b11 st tp ik la le p a b w e m g 1) fu 0 0 0 = fX8_count_b11 st tp ik la le p a b w e m g 1 self (nI (fb_ct (fS F) 30)) (smV (fin F) 30) (nI 30) := by
  refine fr2 (fX8_count_b11 st tp ik la le p a b w e m g 1) 30 (fun t l2 l3 => l2 = nI (fb_ct (fS F) t) ∧ l3 = smV (fin F) t) (fun o => ∃ self, o = fX8_count_b11 st tp ik la le p a b w e m g 1 self (nI (fb_ct (fS F) 30)) (smV (fin F) 30) (nI 30)) (by omega) ?_ ?_ fu 0 0 0 (by omega) (by unfold fu; omega) ⟨rfl, rfl⟩
  · intro self t l2 l3 ht ⟨i1, i2⟩ hself
    unfold fX8_count_b11 fX8_count_j43 fX8_count_j48
    have hk := kind_lt hF ht
    have h0 := (hP t ht).1
    rw [Nat.zero_add] at h0
    have hv : smV (fin F) t + a t = smV (fin F) (t + 1) := by
      rw [smV]
      cases hT : aT (fin F) t
      · rw [(h2.2.2.1 t ht hT).1, if_neg (by decide)]
      · rw [(h2.2.1 t ht hT).1, if_pos rfl]
    rw [if_neg (ge30 ht), rdN (by omega) (by omega), h0, i1, i2, nI_1]
    have hs := f_isSpan (k := (F t).1) (by omega)
    by_cases h6 : (F t).1 = 6
    · rw [if_pos (show nI (F t).1 = 6 by rw [h6]; rfl), rdN ht (by omega), nI_1, hv]
      exact hself _ _ ⟨by rw [fb_ct_succ, show fS F t = true from decide_eq_true (Or.inl h6)]; rfl, rfl⟩
    · rw [if_neg (show ¬ nI (F t).1 = 6 from fun z => h6 (nI_inj (b := 6) z (by omega) (by omega))), rdN (by omega) (by omega), h0]
      by_cases h7 : (F t).1 = 7
      · rw [if_pos (show nI (F t).1 = 7 by rw [h7]; rfl), rdN ht (by omega), nI_1, hv]
        exact hself _ _ ⟨by rw [fb_ct_succ, show fS F t = true from decide_eq_true (Or.inr h7)]; rfl, rfl⟩
      · rw [if_neg (show ¬ nI (F t).1 = 7 from fun z => h7 (nI_inj (b := 7) z (by omega) (by omega))), rdN ht (by omega), show nI (fb_ct (fS F) t) + 0 = nI (fb_ct (fS F) t) from Int32.add_zero _, hv, show nI t + 1 = nI (t + 1) from nI_1 t]
        have hno : fb_ct (fS F) (t + 1) = fb_ct (fS F) t := by rw [fb_ct_succ, show fS F t = false from decide_eq_false (fun z => z.elim h6 h7)]; rfl
        exact hself (nI (fb_ct (fS F) t)) _ ⟨by rw [hno], rfl⟩
  · intro self l2 l3 ⟨i1, i2⟩
    rw [i1, i2]
    exact ⟨self, rfl⟩
theorem rdC {α : Type} {f : Nat → Int32} {n : Nat} {k : Int32 → Option α} (x : Int32) (c : Nat) (e : x = nI c) (h : c < n) (hn : n < 2 ^ 31) : rd f n x k = k (f c) := by rw [e]; exact rdN h hn
theorem c_images {ik : Nat → Int32} : fX7_countImages ik = some ((if ik 0 = 0 then 0 else 1) + (if ik 1 = 0 then 0 else 1)) := by
  unfold fX7_countImages
  refine fr1 (fX7_countImages_b4 ik) 2 (fun t l => (t = 0 ∧ l = 0) ∨ (t = 1 ∧ l = if ik 0 = 0 then 0 else 1) ∨ (t = 2 ∧ l = (if ik 0 = 0 then 0 else 1) + (if ik 1 = 0 then 0 else 1))) (fun r => r = some ((if ik 0 = 0 then 0 else 1) + (if ik 1 = 0 then 0 else 1))) (by omega) ?_ ?_ fu 0 0 (by omega) (by unfold fu; omega) (Or.inl ⟨rfl, rfl⟩)
  · intro self t l ht hI hself
    unfold fX7_countImages_b4 fX7_countImages_j24
    rw [if_neg (show ¬ (2 : Int32) ≤ nI t from nI_ge (b := 2) ht (by omega)), rdN ht (by omega), nI_1]
    rcases hI with ⟨rfl, rfl⟩ | ⟨rfl, rfl⟩ | ⟨rfl, _⟩
    · by_cases z : ik 0 = 0
      · rw [if_pos z]; exact hself _ (Or.inr (Or.inl ⟨rfl, by rw [if_pos z]; rfl⟩))
      · rw [if_neg z]; exact hself _ (Or.inr (Or.inl ⟨rfl, by rw [if_neg z]; rfl⟩))
    · by_cases z : ik 1 = 0
      · rw [if_pos z]; exact hself _ (Or.inr (Or.inr ⟨rfl, by rw [if_pos z]⟩))
      · rw [if_neg z]; exact hself _ (Or.inr (Or.inr ⟨rfl, by rw [if_neg z]⟩))
    · omega
  · intro self l hI
    unfold fX7_countImages_b4
    rw [if_pos (show (2 : Int32) ≤ nI 2 by decide)]
    rcases hI with ⟨h, _⟩ | ⟨h, _⟩ | ⟨_, rfl⟩
    · omega
    · omega
    · rfl
/-- a lane of the class and of the reference -/
def LN (l ml : Int32) : Prop := (l = -1 ∧ ml = -4) ∨ (∃ k, k < 3 ∧ l = nI k ∧ ml = nI k)
theorem q_count {F : Fo} {st mV mT mW mR mN mH parts ik ik' la le : Nat → Int32} {s tp l0 z0 l1 z1 l2 z2 l3 z3 : Int32} {n : RKT} (hP : PM F st 0) (hC : PC F parts) (hF : VFs F) (hS : MRS F mV mT mW mR mN mH s) (hN : NR F n) (hk0 : ik 0 = ik' 0) (hk1 : ik 1 = ik' 1) (hl : LN l0 (la 0)) (hz : z0 = le 0) (p : Int32) : QA F (fX8_count st tp mV mT mW mR mN mH s ik' la le p) (fX7_count tp parts n ik l0 z0 l1 z1 l2 z2 l3 z3 p) := by
  unfold fX8_count fX7_count
  obtain ⟨a, b, w, e, m, g, h1, h2⟩ := m_starts hP hF hS
  rw [h1, bd7_e]
  have fin1 : ∀ r, QA F (some (r, a, b, w, e, m, g, 1)) (some r) := fun r => ⟨_, _, _, _, _, _, _, _, rfl, Or.inr ⟨rfl, h2⟩, rfl⟩
  obtain ⟨self, hs⟩ := m_count (ik := ik') (la := la) (le := le) (tp := tp) (p := p) hF hP h2
  rw [hs]
  unfold fX8_count_b11 fX8_count_j114
  rw [if_pos le30]
  by_cases c0 : p = 0
  · subst c0
    rw [if_pos (show (0 : Int32) = 0 from rfl), if_pos (show (0 : Int32) = 0 from rfl), c_images, bd1_e, rdC 0 0 rfl (by omega) (by omega), rdC 1 1 rfl (by omega) (by omega), hk0, hk1]
    by_cases x : ik' 0 = 0
    · rw [if_pos x, if_pos x]
      by_cases y : ik' 1 = 0
      · rw [if_pos y, if_pos y]; exact fin1 _
      · rw [if_neg y, if_neg y]; exact fin1 _
    · rw [if_neg x, if_neg x, rdC 1 1 rfl (by omega) (by omega)]
      by_cases y : ik' 1 = 0
      · rw [if_pos y, if_pos y]; exact fin1 _
      · rw [if_neg y, if_neg y]; exact fin1 _
  by_cases c1 : p = 1
  · subst c1
    rw [if_neg (show ¬ (1 : Int32) = 0 by decide), if_neg (show ¬ (1 : Int32) = 0 by decide), if_pos (show (1 : Int32) = 1 from rfl), if_pos (show (1 : Int32) = 1 from rfl)]
    exact fin1 _
  by_cases c2 : p = 2
  · subst c2
    unfold fX4_isNothing
    rw [if_neg (show ¬ (2 : Int32) = 0 by decide), if_neg (show ¬ (2 : Int32) = 0 by decide), if_neg (show ¬ (2 : Int32) = 1 by decide), if_neg (show ¬ (2 : Int32) = 1 by decide), if_pos (show (2 : Int32) = 2 from rfl), if_pos (show (2 : Int32) = 2 from rfl), rdC 0 0 rfl (by omega) (by omega), rdC 0 0 rfl (by omega) (by omega), ← hz]
    rcases hl with ⟨x, y⟩ | ⟨k, hk, x, y⟩
    · rw [x, y, if_pos rfl, if_pos rfl, bd1_e, if_neg (show ¬ (1 : Int32) = 0 by decide)]
      exact fin1 _
    · rw [x, y, if_neg (nI_ne_m4 (by omega)), if_neg (show ¬ nI k = -1 from fun q => by
        have h9 := nI_toInt (n := k) (by omega)
        rw [q] at h9
        have h8 : ((-1 : Int32)).toInt = -1 := rfl
        omega), bd1_e, if_pos rfl]
      exact fin1 _
  by_cases c3 : p = 3
  · subst c3
    rw [if_neg (show ¬ (3 : Int32) = 0 by decide), if_neg (show ¬ (3 : Int32) = 0 by decide), if_neg (show ¬ (3 : Int32) = 1 by decide), if_neg (show ¬ (3 : Int32) = 1 by decide), if_neg (show ¬ (3 : Int32) = 2 by decide), if_neg (show ¬ (3 : Int32) = 2 by decide), if_pos (show (3 : Int32) = 3 from rfl), if_pos (show (3 : Int32) = 3 from rfl), c_countSpans hF hC, bd1_e]
    exact fin1 _
  by_cases c4 : p = 4
  · subst c4
    rw [if_neg (show ¬ (4 : Int32) = 0 by decide), if_neg (show ¬ (4 : Int32) = 0 by decide), if_neg (show ¬ (4 : Int32) = 1 by decide), if_neg (show ¬ (4 : Int32) = 1 by decide), if_neg (show ¬ (4 : Int32) = 2 by decide), if_neg (show ¬ (4 : Int32) = 2 by decide), if_neg (show ¬ (4 : Int32) = 3 by decide), if_neg (show ¬ (4 : Int32) = 3 by decide), if_pos (show (4 : Int32) = 4 from rfl), if_pos (show (4 : Int32) = 4 from rfl), c_sumV hN, bd1_e]
    exact fin1 _
  rw [if_neg c0, if_neg c0, if_neg c1, if_neg c1, if_neg c2, if_neg c2, if_neg c3, if_neg c3, if_neg c4, if_neg c4]
  exact fin1 _
