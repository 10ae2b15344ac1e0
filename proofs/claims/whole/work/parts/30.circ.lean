/-! CIRCLES -/
def wk (A : AS) (c : Nat) : Nat → Nat
  | 0 => c
  | k + 1 => aW' A (wk A c k)
def WB (A : AS) : Prop := ∀ d, d < 30 → aT A d = false → aW' A d < 30
theorem wk_lt {A : AS} (hW : WB A) {c : Nat} (hc : c < 30) : ∀ {k : Nat}, (∀ j, j < k → aT A (wk A c j) = false) → wk A c k < 30
  | 0, _ => hc
  | k + 1, h => hW _ (wk_lt hW hc (fun j hj => h j (by omega))) (h k (by omega))
def Cir (A : AS) (c k : Nat) : Prop := 1 ≤ k ∧ k ≤ 30 ∧ (∀ j, j < k → aT A (wk A c j) = false) ∧ wk A c k = c ∧ (∀ j, 0 < j → j < k → wk A c j ≠ c)
theorem Cir_one {A : AS} {c k k' : Nat} (h : Cir A c k) (h' : Cir A c k') : k = k' := by
  obtain ⟨a1, a2, a3, a4, a5⟩ := h
  obtain ⟨b1, b2, b3, b4, b5⟩ := h'
  by_cases e : k < k'
  · exact absurd a4 (b5 k (by omega) e)
  · by_cases e2 : k' < k
    · exact absurd b4 (a5 k' (by omega) e2)
    · omega
def mnW (A : AS) (c : Nat) : Nat → Nat
  | 0 => c
  | k + 1 => min (mnW A c k) (wk A c k)
theorem mnW_le (A : AS) (c : Nat) : ∀ k, mnW A c k ≤ c
  | 0 => Nat.le_refl _
  | k + 1 => by have := mnW_le A c k; rw [mnW]; omega
theorem mnW_iff (A : AS) (c : Nat) : ∀ k, mnW A c k = c ↔ ∀ i, i < k → c ≤ wk A c i
  | 0 => ⟨fun _ i hi => absurd hi (Nat.not_lt_zero i), fun _ => rfl⟩
  | k + 1 => by
    have h1 := mnW_iff A c k
    have h2 := mnW_le A c k
    rw [mnW]
    constructor
    · intro h i hi
      by_cases e : i = k
      · rw [e]; omega
      · exact h1.mp (by omega) i (by omega)
    · intro h
      have := h1.mpr (fun i hi => h i (by omega))
      have := h k (by omega)
      omega
def WR (A : AS) (W : Nat → Int32) : Prop := ∀ d, d < 30 → W d = if aT A d = true then -4 else nI (aW' A d)
theorem m4_ne {c : Nat} (h : c < 2 ^ 31) : ¬ (-4 : Int32) = nI c := fun e => nI_ne_m4 h e.symm
theorem c_least {A : AS} {W : Nat → Int32} {c : Nat} (hB : WB A) (hR : WR A W) (hc : c < 30) : (∃ k, Cir A c k ∧ fX3_leastOfCircle W (nI c) = some (nI (mnW A c k)) ∧ mnW A c k < 30) ∨ ((∀ k, ¬ Cir A c k) ∧ fX3_leastOfCircle W (nI c) = some (-4)) := by
  unfold fX3_leastOfCircle
  rw [rdN hc (by omega)]
  refine fr2 (fX3_leastOfCircle_b12 W (nI c)) 30 (fun t l2 l3 => ∃ s, t = s + 1 ∧ (∀ j, 0 < j → j ≤ s → wk A c j ≠ c) ∧ (∀ j, j < s → aT A (wk A c j) = false) ∧ l2 = nI (mnW A c t) ∧ mnW A c t < 30 ∧ l3 = W (wk A c s)) (fun r => (∃ k, Cir A c k ∧ r = some (nI (mnW A c k)) ∧ mnW A c k < 30) ∨ ((∀ k, ¬ Cir A c k) ∧ r = some (-4))) (by omega) ?_ ?_ fu 1 (nI c) (W c) (by omega) (by unfold fu; omega) ⟨0, rfl, fun j h1 h2 => by omega, fun j hj => by omega, by rw [mnW, mnW, wk, Nat.min_self], by rw [mnW, mnW, wk, Nat.min_self]; exact hc, rfl⟩
  · intro self t l2 l3 ht ⟨s, hs, i1, i2, i3, i4, i5⟩ hself
    have hw := wk_lt hB hc i2
    unfold fX3_leastOfCircle_b12 fX3_leastOfCircle_j49
    rw [i5, hR _ hw]
    cases hT : aT A (wk A c s) with
    | true =>
      rw [if_pos (show true = true from rfl), if_pos rfl, if_neg (m4_ne (by omega))]
      refine Or.inr ⟨fun k ⟨a1, a2, a3, a4, a5⟩ => ?_, rfl⟩
      by_cases e : k ≤ s
      · exact i1 k (by omega) e a4
      · rw [a3 s (by omega)] at hT; cases hT
    | false =>
      have hw2 : wk A c (s + 1) < 30 := hB _ hw hT
      rw [if_neg (show ¬ false = true by decide), show nI (aW' A (wk A c s)) = nI (wk A c (s + 1)) from rfl, if_neg (nI_ne_m4 (by omega))]
      have i2' : ∀ j, j < s + 1 → aT A (wk A c j) = false := fun j hj => by
        by_cases e : j = s
        · rw [e]; exact hT
        · exact i2 j (by omega)
      by_cases e : wk A c (s + 1) = c
      · rw [e, if_pos rfl, if_pos rfl, i3]
        exact Or.inl ⟨t, ⟨by omega, by omega, hs ▸ i2', hs ▸ e, fun j h1 h2 => i1 j h1 (by omega)⟩, rfl, i4⟩
      · have e' : ¬ nI (wk A c (s + 1)) = nI c := fun z => e (nI_inj z (by omega) (by omega))
        rw [if_neg e', if_neg (ge30 ht), rdN hw2 (by omega), nI_1]
        refine hself _ _ ⟨s + 1, by omega, fun j h1 h2 => ?_, i2', ?_, ?_, rfl⟩
        · by_cases z : j = s + 1
          · rw [z]; exact e
          · exact i1 j h1 (by omega)
        · rw [hs] at i4
          rw [i3, mnW, hs]
          by_cases z : wk A c (s + 1) < mnW A c (s + 1)
          · rw [if_pos (nI_lt z (by omega)), Nat.min_eq_right (by omega)]
          · rw [if_neg (nI_nlt (by omega) (by omega)), Nat.min_eq_left (by omega)]
        · rw [mnW]; omega
  · intro self l2 l3 ⟨s, hs, i1, i2, i3, i4, i5⟩
    have hw := wk_lt hB hc i2
    unfold fX3_leastOfCircle_b12 fX3_leastOfCircle_j49
    rw [i5, hR _ hw]
    cases hT : aT A (wk A c s) with
    | true =>
      rw [if_pos (show true = true from rfl), if_pos rfl, if_neg (m4_ne (by omega))]
      refine Or.inr ⟨fun k ⟨a1, a2, a3, a4, a5⟩ => ?_, rfl⟩
      by_cases e : k ≤ s
      · exact i1 k (by omega) e a4
      · rw [a3 s (by omega)] at hT; cases hT
    | false =>
      have hw2 : wk A c (s + 1) < 30 := hB _ hw hT
      rw [if_neg (show ¬ false = true by decide), show nI (aW' A (wk A c s)) = nI (wk A c (s + 1)) from rfl, if_neg (nI_ne_m4 (by omega))]
      have i2' : ∀ j, j < s + 1 → aT A (wk A c j) = false := fun j hj => by
        by_cases e : j = s
        · rw [e]; exact hT
        · exact i2 j (by omega)
      by_cases e : wk A c (s + 1) = c
      · rw [e, if_pos rfl, if_pos rfl, i3]
        exact Or.inl ⟨30, ⟨by omega, by omega, hs ▸ i2', hs ▸ e, fun j h1 h2 => i1 j h1 (by omega)⟩, rfl, i4⟩
      · have e' : ¬ nI (wk A c (s + 1)) = nI c := fun z => e (nI_inj z (by omega) (by omega))
        rw [if_neg e', if_pos le30, if_neg e']
        refine Or.inr ⟨fun k ⟨a1, a2, a3, a4, a5⟩ => ?_, rfl⟩
        by_cases z : k ≤ s
        · exact i1 k (by omega) z a4
        · have : k = s + 1 := by omega
          rw [this] at a4
          exact e a4
theorem c_find {A : AS} {W : Nat → Int32} (hB : WB A) (hR : WR A W) (a b : Int32) : ∃ cc cs, fX3_findCircles W a b = some (cc, cs) ∧ (∀ d, d < 30 → (bt cc d = true ↔ ∃ k, Cir A d k)) ∧ (∀ d, 30 ≤ d → bt cc d = false) ∧ ∀ fs : Nat → Bool, (∀ d, d < 30 → (fs d = true ↔ ∃ k, Cir A d k ∧ mnW A d k = d)) → cs = nI (fb_ct fs 30) := by
  unfold fX3_findCircles
  refine fr2 (fX3_findCircles_b12 W) 30 (fun t cc cs => (∀ d, d < t → (bt cc d = true ↔ ∃ k, Cir A d k)) ∧ (∀ d, t ≤ d → bt cc d = false) ∧ ∀ fs : Nat → Bool, (∀ d, d < 30 → (fs d = true ↔ ∃ k, Cir A d k ∧ mnW A d k = d)) → cs = nI (fb_ct fs t)) (fun r => ∃ cc cs, r = some (cc, cs) ∧ (∀ d, d < 30 → (bt cc d = true ↔ ∃ k, Cir A d k)) ∧ (∀ d, 30 ≤ d → bt cc d = false) ∧ ∀ fs : Nat → Bool, (∀ d, d < 30 → (fs d = true ↔ ∃ k, Cir A d k ∧ mnW A d k = d)) → cs = nI (fb_ct fs 30)) (by omega) ?_ ?_ fu 0 0 0 (by omega) (by unfold fu; omega) ⟨fun d hd => by omega, fun d _ => b_0 d, fun fs _ => rfl⟩
  · intro self t cc cs ht ⟨i1, i2, i3⟩ hself
    unfold fX3_findCircles_b12 fX3_findCircles_j43 fX3_findCircles_j58
    rw [if_neg (ge30 ht)]
    rcases c_least hB hR ht with ⟨k, hk, he, hm⟩ | ⟨hk, he⟩
    · rw [he, bd1_e, if_neg (nI_ne_m4 (by omega)), f_bit, bd1_e, nI_1]
      have j1 : ∀ d, d < t + 1 → (bt (cc ||| bI t) d = true ↔ ∃ k, Cir A d k) := fun d hd => by
        rw [b_or, bt_bI t (by omega) d (by omega)]
        by_cases e : d = t
        · rw [e, decide_eq_true rfl, Bool.or_true]
          exact ⟨fun _ => ⟨k, hk⟩, fun _ => rfl⟩
        · rw [decide_eq_false e, Bool.or_false]
          exact i1 d (by omega)
      have j2 : ∀ d, t + 1 ≤ d → bt (cc ||| bI t) d = false := fun d hd => by
        by_cases e : d < 32
        · rw [b_or, bt_bI t (by omega) d e, i2 d (by omega), decide_eq_false (by omega)]; rfl
        · exact b_big (by omega)
      by_cases e : mnW A t k = t
      · rw [e, if_pos rfl]
        refine hself _ _ ⟨j1, j2, fun fs hf => ?_⟩
        rw [fb_ct_succ, if_pos ((hf t ht).mpr ⟨k, hk, e⟩), i3 fs hf, nI_1]
      · rw [if_neg (fun z => e (nI_inj z (by omega) (by omega)))]
        refine hself _ _ ⟨j1, j2, fun fs hf => ?_⟩
        rw [fb_ct_succ, if_neg (fun z => ?_), i3 fs hf]
        · rfl
        · obtain ⟨k', hk', e'⟩ := (hf t ht).mp z
          rw [Cir_one hk' hk] at e'
          exact e e'
    · rw [he, bd1_e, if_pos rfl, if_neg (m4_ne (by omega)), nI_1]
      refine hself _ _ ⟨fun d hd => ?_, fun d hd => i2 d (by omega), fun fs hf => ?_⟩
      · by_cases e : d = t
        · rw [e, i2 t (Nat.le_refl _)]
          exact ⟨fun z => (by cases z), fun ⟨k, h⟩ => absurd h (hk k)⟩
        · exact i1 d (by omega)
      · rw [fb_ct_succ, if_neg (fun z => ?_), i3 fs hf]
        · rfl
        · obtain ⟨k', hk', e'⟩ := (hf t ht).mp z
          exact hk k' hk'
  · intro self cc cs hI
    unfold fX3_findCircles_b12
    rw [if_pos le30]
    exact ⟨cc, cs, rfl, hI⟩
/-- the reference's told and waits -/
def MW (A : AS) (mT mW : Nat → Int32) : Prop := ∀ d, d < 30 → (mT d = if aT A d = true then 1 else 0) ∧ (aT A d = false → mW d = nI (aW' A d))
theorem m_circleOf {A : AS} {mT mW : Nat → Int32} {c : Nat} (hB : WB A) (hR : MW A mT mW) (hc : c < 30) : (∃ k, Cir A c k ∧ fX8_circleOf mT mW (nI c) = some (nI k)) ∨ ((∀ k, ¬ Cir A c k) ∧ fX8_circleOf mT mW (nI c) = some 0) := by
  unfold fX8_circleOf
  refine fr1 (fX8_circleOf_b4 mT mW (nI c)) 31 (fun t l2 => ∃ s, t = s + 1 ∧ (∀ j, 0 < j → j ≤ s → wk A c j ≠ c) ∧ (∀ j, j < s → aT A (wk A c j) = false) ∧ l2 = nI (wk A c s)) (fun r => (∃ k, Cir A c k ∧ r = some (nI k)) ∨ ((∀ k, ¬ Cir A c k) ∧ r = some 0)) (by omega) ?_ ?_ fu 1 (nI c) (by omega) (by unfold fu; omega) ⟨0, rfl, fun j h1 h2 => by omega, fun j hj => by omega, rfl⟩
  · intro self t l2 ht ⟨s, hs, i1, i2, i3⟩ hself
    have hw := wk_lt hB hc i2
    unfold fX8_circleOf_b4
    rw [if_neg (show ¬ (30 : Int32) < nI t from nI_nlt (a := 30) (by omega) (by omega)), i3, rdN hw (by omega), (hR _ hw).1]
    cases hT : aT A (wk A c s) with
    | true =>
      rw [if_pos (show true = true from rfl), if_neg (show ¬ (1 : Int32) = 0 by decide)]
      refine Or.inr ⟨fun k ⟨a1, a2, a3, a4, a5⟩ => ?_, rfl⟩
      by_cases e : k ≤ s
      · exact i1 k (by omega) e a4
      · rw [a3 s (by omega)] at hT; cases hT
    | false =>
      have hw2 : wk A c (s + 1) < 30 := hB _ hw hT
      rw [if_neg (show ¬ false = true by decide), if_pos rfl, rdN hw (by omega), (hR _ hw).2 hT, show nI (aW' A (wk A c s)) = nI (wk A c (s + 1)) from rfl]
      have i2' : ∀ j, j < s + 1 → aT A (wk A c j) = false := fun j hj => by
        by_cases e : j = s
        · rw [e]; exact hT
        · exact i2 j (by omega)
      by_cases e : wk A c (s + 1) = c
      · rw [e, if_pos rfl]
        exact Or.inl ⟨t, ⟨by omega, by omega, hs ▸ i2', hs ▸ e, fun j h1 h2 => i1 j h1 (by omega)⟩, rfl⟩
      · rw [if_neg (fun z => e (nI_inj z (by omega) (by omega))), nI_1]
        refine hself _ ⟨s + 1, by omega, fun j h1 h2 => ?_, i2', rfl⟩
        by_cases z : j = s + 1
        · rw [z]; exact e
        · exact i1 j h1 (by omega)
  · intro self l2 ⟨s, hs, i1, i2, i3⟩
    unfold fX8_circleOf_b4
    rw [if_pos (show (30 : Int32) < nI 31 by decide)]
    exact Or.inr ⟨fun k ⟨a1, a2, a3, a4, a5⟩ => i1 k (by omega) (by omega) a4, rfl⟩
theorem m_isFirst {A : AS} {mT mW : Nat → Int32} {c : Nat} (hB : WB A) (hR : MW A mT mW) (hc : c < 30) : ((∃ k, Cir A c k ∧ mnW A c k = c) ∧ fX8_isFirst mT mW (nI c) = some 1) ∨ ((¬ ∃ k, Cir A c k ∧ mnW A c k = c) ∧ fX8_isFirst mT mW (nI c) = some 0) := by
  unfold fX8_isFirst
  rcases m_circleOf hB hR hc with ⟨k, hk, he⟩ | ⟨hk, he⟩
  · rw [he, bd1_e, if_neg (show ¬ nI k ≤ 0 from nI_ge (b := k) (a := 0) (by have := hk.1; omega) (by have := hk.2.1; omega))]
    unfold fX8_isFirst_j17
    have hk2 := hk.2.1
    have fin0 : ∀ x : Int32, ((∀ i, i < k → c ≤ wk A c i) ∧ x = 1) ∨ ((¬ ∀ i, i < k → c ≤ wk A c i) ∧ x = 0) → (((∃ k, Cir A c k ∧ mnW A c k = c) ∧ (ck (x = 0 ∨ x = 1) (some x)) = some 1) ∨ ((¬ ∃ k, Cir A c k ∧ mnW A c k = c) ∧ (ck (x = 0 ∨ x = 1) (some x)) = some 0)) := by
      intro x hx
      rcases hx with ⟨h1, rfl⟩ | ⟨h1, rfl⟩
      · exact Or.inl ⟨⟨k, hk, (mnW_iff A c k).mpr h1⟩, by rw [ckT (Or.inr rfl)]⟩
      · refine Or.inr ⟨fun ⟨k', hk', e⟩ => h1 ?_, by rw [ckT (Or.inl rfl)]⟩
        rw [Cir_one hk' hk] at e
        exact (mnW_iff A c k).mp e
    refine fr2 (fX8_isFirst_b22 mT mW (nI c) (nI k)) k (fun j l3 l4 => l3 = nI (wk A c j) ∧ (((∀ i, i < j → c ≤ wk A c i) ∧ l4 = 1) ∨ ((¬ ∀ i, i < j → c ≤ wk A c i) ∧ l4 = 0))) (fun r => (((∃ k, Cir A c k ∧ mnW A c k = c) ∧ r = some 1) ∨ ((¬ ∃ k, Cir A c k ∧ mnW A c k = c) ∧ r = some 0))) (by omega) ?_ ?_ fu 0 (nI c) 1 (by omega) (by unfold fu; omega) ⟨rfl, Or.inl ⟨fun i hi => by omega, rfl⟩⟩
    · intro self j l3 l4 hj ⟨i1, i2⟩ hself
      have hw := wk_lt hB hc (k := j) (fun i hi => hk.2.2.1 i (by omega))
      unfold fX8_isFirst_b22 fX8_isFirst_j42 fX8_isFirst_j43
      rw [if_neg (nI_ge hj (by omega)), i1, rdN hw (by omega), (hR _ hw).2 (hk.2.2.1 j hj), nI_1]
      rcases i2 with ⟨h1, rfl⟩ | ⟨h1, rfl⟩
      · rw [if_neg (show ¬ (1 : Int32) = 0 by decide)]
        by_cases e : wk A c j < c
        · rw [if_pos (nI_lt e (by omega))]
          exact hself _ _ ⟨rfl, Or.inr ⟨fun h => by have := h j (by omega); omega, rfl⟩⟩
        · rw [if_neg (nI_nlt (by omega) (by omega)), rdN hw (by omega), (hR _ hw).2 (hk.2.2.1 j hj)]
          refine hself _ _ ⟨rfl, Or.inl ⟨fun i hi => ?_, rfl⟩⟩
          by_cases z : i = j
          · rw [z]; omega
          · exact h1 i (by omega)
      · rw [if_pos rfl]
        exact hself _ _ ⟨rfl, Or.inr ⟨fun h => h1 (fun i hi => h i (by omega)), rfl⟩⟩
    · intro self l3 l4 ⟨i1, i2⟩
      unfold fX8_isFirst_b22
      rw [if_pos (nI_le (Nat.le_refl _) (by omega))]
      exact fin0 l4 i2
  · rw [he, bd1_e, if_pos (by decide)]
    refine Or.inr ⟨fun ⟨k, h, _⟩ => hk k h, ?_⟩
    rfl
