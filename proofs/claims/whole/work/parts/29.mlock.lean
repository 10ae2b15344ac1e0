/-! THE REFERENCE'S SETTLING IS THE COMMON MEANING -/
def MR (A : AS) (mV mT mW mR mN mH : Nat → Int32) : Prop :=
  (∀ d, d < 30 → mT d = if aT A d = true then 1 else 0) ∧
  (∀ d, d < 30 → aT A d = true → mV d = aV A d ∧ mH d = nI (aG A d) ∧ mW d = -4) ∧
  (∀ d, d < 30 → aT A d = false → mV d = 0 ∧ mH d = -4) ∧
  (∀ d, d < 30 → aT A d = false → aS A d = true → mW d = nI (aW' A d)) ∧
  (∀ d, d < 30 → aS A d = true → mN d = nI (aN A d) ∧ ∀ i, i < aN A d → mR (30 * d + i) = nI (aL A d i))
set_option maxHeartbeats 1000000 in
theorem m_step {F : Fo} {st : Nat → Int32} {A : AS} {mV mT mW mR mN mH : Nat → Int32} {c : Nat} (hP : PM F st 0) (hF : VFs F) (hc : c < 30) (hA : AI F A) (hR : MR A mV mT mW mR mN mH) (hT : aT A c = false) :
    ∃ r a b w e n, fX8_isEvaluated st mV mT mW mR mN (nI c) = some (r, a, b, w, e, n) ∧ ((r = 0 ∧ fb_ct (aT (vs F c A)) 30 = fb_ct (aT A) 30 ∧ MR (vs F c A) a b w e n mH) ∨ (r = 1 ∧ fb_ct (aT (vs F c A)) 30 = fb_ct (aT A) 30 + 1 ∧ ∃ h, fX8_heightOf e n mH (nI c) = some h ∧ MR (vs F c A) a b w e n h)) := by
  obtain ⟨r1, r2, r3, r4, r5⟩ := hR
  have hle := fb_ct_le (aT A) 30
  obtain ⟨⟨r, a, b, w, e, n⟩, ho, q1, q2, q3, q4, q5, q6⟩ := m_eval (mV := mV) (mT := mT) (mW := mW) (mR := mR) (mN := mN) hP hc (hF c hc) r1 hT
  refine ⟨r, a, b, w, e, n, ho, ?_⟩
  obtain ⟨e1, e2, e3, e4⟩ := oc_cong (T := aT A) (V := mV) (V' := aV A) (hF c hc) (fun d hd ht => (r2 d hd ht).1)
  have hlp := oc_lp (aT A) (aV A) (hF c hc)
  simp only [] at q1 q2 q3 q4 q5 q6
  rw [e1] at q5 q6
  rw [e3] at q6
  rw [e2] at q3 q4
  have q4' : ∀ i, i < ocN (F c) (aT A) (aV A) → e (30 * c + i) = nI (ocL (F c) (aV A) i) := fun i hi => by rw [q4 i hi, e4 i (by rw [e2]; exact hi)]
  have hold : ∀ d, aT A d = true → d ≠ c := fun d ht z => by rw [z, hT] at ht; cases ht
  have hlist : ∀ d, d < 30 → aS (vs F c A) d = true → n d = nI (up (aN A) c (ocN (F c) (aT A) (aV A)) d) ∧ ∀ i, i < up (aN A) c (ocN (F c) (aT A) (aV A)) d → e (30 * d + i) = nI (up (aL A) c (ocL (F c) (aV A)) d i) := by
    intro d hd hs
    by_cases z : d = c
    · subst z
      rw [up_s, up_s]
      exact ⟨q3, q4'⟩
    · rw [up_n _ _ z, up_n _ _ z, (q1 d z).2.2.2]
      have hs' : aS A d = true := by
        cases hr : ocR (F c) (aT A) (aV A) with
        | some v =>
          rw [vs_s hT hr] at hs
          have hs : up (aS A) c true d = true := hs
          rw [up_n _ _ z] at hs
          exact hs
        | none =>
          rw [vs_n hT hr] at hs
          have hs : up (aS A) c true d = true := hs
          rw [up_n _ _ z] at hs
          exact hs
      refine ⟨(r5 d hd hs').1, fun i hi => ?_⟩
      have := (hA.2.1 d hd).1
      rw [q2 (30 * d + i) (by omega)]
      exact (r5 d hd hs').2 i hi
  cases hr : ocR (F c) (aT A) (aV A) with
  | some v =>
    obtain ⟨p0, p1, p2, p3⟩ := q5 v hr
    have hto := oc_told (hF c hc) hr
    refine Or.inr ⟨p0, ?_, ?_⟩
    · rw [vs_s hT hr]; exact ct_up hc hT
    obtain ⟨h', g1, g2, g3⟩ := m_height (mR := e) (mN := n) (mH := mH) (hg := aG A) (c := c) (l := ocL (F c) (aV A)) hc hlp.1 q3 q4' hlp.2.1 (fun i hi => ⟨(r2 _ (hlp.2.1 i hi) (hto i hi)).2.1, by have := (hA.1 _ (hlp.2.1 i hi) (hto i hi)).1; omega⟩)
    have hh : h' = mxH (aG A) (ocL (F c) (aV A)) (ocN (F c) (aT A) (aV A)) := mxH_eq g2 (g3.imp id (fun ⟨i, hi, z⟩ => ⟨i, hi, Nat.le_of_eq z⟩))
    refine ⟨_, g1, ?_⟩
    rw [vs_s hT hr] at hlist ⊢
    refine ⟨fun d hd => ?_, fun d hd ht => ?_, fun d hd ht => ?_, fun d hd ht hs => ?_, hlist⟩
    · show b d = if up (aT A) c true d = true then 1 else 0
      by_cases z : d = c
      · subst z
        rw [up_s, p2, if_pos rfl]
      · rw [up_n _ _ z, (q1 d z).2.1]; exact r1 d hd
    · show a d = up (aV A) c v d ∧ upd mH c (nI h') d = nI (up (aG A) c _ d) ∧ w d = -4
      by_cases z : d = c
      · subst z
        rw [up_s, up_s, us, hh, p1, p3]
        exact ⟨rfl, rfl, rfl⟩
      · have ht : up (aT A) c true d = true := ht
        rw [up_n _ _ z] at ht
        rw [up_n _ _ z, up_n _ _ z, un _ _ z, (q1 d z).1, (q1 d z).2.2.1]
        exact r2 d hd ht
    · have z : d ≠ c := fun z => by
        have ht : up (aT A) c true d = false := ht
        rw [z, up_s] at ht; cases ht
      have ht : up (aT A) c true d = false := ht
      rw [up_n _ _ z] at ht
      rw [un _ _ z, (q1 d z).1]
      exact r3 d hd ht
    · have z : d ≠ c := fun z => by
        have ht : up (aT A) c true d = false := ht
        rw [z, up_s] at ht; cases ht
      have ht : up (aT A) c true d = false := ht
      have hs : up (aS A) c true d = true := hs
      rw [up_n _ _ z] at ht hs
      rw [(q1 d z).2.2.1]
      exact r4 d hd ht hs
  | none =>
    obtain ⟨p0, p1, p2, p3⟩ := q6 hr
    refine Or.inl ⟨p0, by rw [vs_n hT hr]; rfl, ?_⟩
    rw [vs_n hT hr] at hlist ⊢
    refine ⟨fun d hd => ?_, fun d hd ht => ?_, fun d hd ht => ?_, fun d hd ht hs => ?_, hlist⟩
    · show b d = if aT A d = true then 1 else 0
      by_cases z : d = c
      · subst z
        rw [p2]; exact r1 d hd
      · rw [(q1 d z).2.1]; exact r1 d hd
    · have z := hold d ht
      rw [(q1 d z).1, (q1 d z).2.2.1]
      exact r2 d hd ht
    · by_cases z : d = c
      · subst z
        rw [p1]; exact r3 d hd ht
      · rw [(q1 d z).1]; exact r3 d hd ht
    · show w d = nI (up (aW' A) c _ d)
      by_cases z : d = c
      · subst z
        rw [up_s]; exact p3
      · have hs : up (aS A) c true d = true := hs
        rw [up_n _ _ z] at hs
        rw [up_n _ _ z, (q1 d z).2.2.1]
        exact r4 d hd ht hs
abbrev SO : Type := (Nat → Int32) × (Nat → Int32) × (Nat → Int32) × (Nat → Int32) × (Nat → Int32) × (Nat → Int32)
theorem ct_vs {F : Fo} {A : AS} {c : Nat} : fb_ct (aT A) 30 ≤ fb_ct (aT (vs F c A)) 30 := fb_ct_sub (fun _ _ h => vs_mono h)
theorem ct_sw {F : Fo} {A : AS} (k : Nat) : fb_ct (aT A) 30 ≤ fb_ct (aT (sw F k A)) 30 := fb_ct_sub (fun _ _ h => sw_mono h k)
theorem m_sweep {F : Fo} {st : Nat → Int32} {A : AS} {mV mT mW mR mN mH : Nat → Int32} {self38 : (Nat → Int32) → (Nat → Int32) → (Nat → Int32) → (Nat → Int32) → (Nat → Int32) → (Nat → Int32) → Int32 → Option SO} {Post : Option SO → Prop} (hP : PM F st 0) (hF : VFs F) (hA : AI F A) (hR : MR A mV mT mW mR mN mH)
    (hk : ∀ a b w e n h, MR (sw F 30 A) a b w e n h → Post (self38 a b w e n h (if fb_ct (aT (sw F 30 A)) 30 = fb_ct (aT A) 30 then 0 else 1))) : Post (lq8 (fX8_settles_b46 st self38) fu mV mT mW mR mN mH 0 (nI 0)) := by
  refine fr7 (fX8_settles_b46 st self38) 30 (fun c a b w e n h l => MR (sw F c A) a b w e n h ∧ l = if fb_ct (aT (sw F c A)) 30 = fb_ct (aT A) 30 then 0 else 1) Post (by omega) ?_ ?_ fu 0 mV mT mW mR mN mH 0 (by omega) (by unfold fu; omega) ⟨hR, (if_pos rfl).symm⟩
  · intro self c a b w e n h l hc ⟨hI, hl⟩ hself
    unfold fX8_settles_b46 fX8_settles_j76
    rw [if_neg (ge30 hc), rdN hc (by omega), hI.1 c hc, nI_1]
    have hA' := AI_sw (F := F) hF (k := c) (A := A) (by omega) hA
    cases hb : aT (sw F c A) c with
    | true =>
      rw [if_pos rfl, if_neg (by decide)]
      refine hself _ _ _ _ _ _ _ ?_
      show MR (vs F c (sw F c A)) _ _ _ _ _ _ ∧ l = if fb_ct (aT (vs F c (sw F c A))) 30 = fb_ct (aT A) 30 then 0 else 1
      rw [vs_t hb]
      exact ⟨hI, hl⟩
    | false =>
      rw [if_neg (show ¬ false = true by decide), if_pos rfl]
      obtain ⟨r, a', b', w', e', n', ho, hq⟩ := m_step hP hF hc hA' hI hb
      rw [ho, bd6_e]
      rcases hq with ⟨q0, q1, q2⟩ | ⟨q0, q1, h', q2, q3⟩
      · rw [q0, if_pos rfl]
        refine hself _ _ _ _ _ _ _ ⟨q2, ?_⟩
        show l = if fb_ct (aT (vs F c (sw F c A))) 30 = fb_ct (aT A) 30 then 0 else 1
        rw [q1]; exact hl
      · rw [q0, if_neg (by decide), q2, bd1_e]
        refine hself _ _ _ _ _ _ _ ⟨q3, ?_⟩
        show 1 = if fb_ct (aT (vs F c (sw F c A))) 30 = fb_ct (aT A) 30 then 0 else 1
        have := ct_sw (F := F) (A := A) c
        rw [if_neg (by omega)]
  · intro self a b w e n h l ⟨hI, hl⟩
    unfold fX8_settles_b46
    rw [if_pos le30, hl]
    exact hk _ _ _ _ _ _ hI
theorem m_rounds {F : Fo} {st : Nat → Int32} {Post : Option SO → Prop} (hP : PM F st 0) (hF : VFs F) : ∀ (n : Nat) (A : AS) (mV mT mW mR mN mH : Nat → Int32), 31 ≤ fb_ct (aT A) 30 + n → AI F A → MR A mV mT mW mR mN mH →
    (∀ a b w e m h, MR (gr F n A) a b w e m h → Post (some (a, b, w, e, m, h))) → ∀ k, n + 1 ≤ k → Post (lq7 (fX8_settles_b38 st) k mV mT mW mR mN mH 1) := by
  intro n
  induction n with
  | zero =>
    intro A mV mT mW mR mN mH hm hA hR hk k hk2
    have := fb_ct_le (aT A) 30
    omega
  | succ n ih =>
    intro A mV mT mW mR mN mH hm hA hR hk k hk2
    obtain ⟨k, rfl⟩ : ∃ k', k = k' + 1 := ⟨k - 1, by omega⟩
    rw [lq7_s]
    unfold fX8_settles_b38
    rw [if_neg (by decide)]
    refine m_sweep hP hF hA hR (fun a b w e m h hR' => ?_)
    by_cases e2 : fb_ct (aT (sw F 30 A)) 30 = fb_ct (aT A) 30
    · rw [if_pos e2]
      rw [gr, if_pos e2] at hk
      obtain ⟨k, rfl⟩ : ∃ k', k = k' + 1 := ⟨k - 1, by omega⟩
      rw [lq7_s, if_pos rfl]
      exact hk _ _ _ _ _ _ hR'
    · rw [if_neg e2]
      rw [gr, if_neg e2] at hk
      have := ct_sw (F := F) (A := A) 30
      exact ih (sw F 30 A) a b w e m h (by omega) (AI_sw hF (Nat.le_refl _) hA) hR' hk k (by omega)
theorem m_settles {F : Fo} {st : Nat → Int32} (hP : PM F st 0) (hF : VFs F) (mV mT mW mR mN mH : Nat → Int32) :
    ∃ a b w e m h, fX8_settles st mV mT mW mR mN mH = some (a, b, w, e, m, h) ∧ MR (fin F) a b w e m h := by
  unfold fX8_settles
  refine fr3 (fX8_settles_b2 st mW mR mN) 30 (fun c a b h => ∀ d, d < c → a d = 0 ∧ b d = 0 ∧ h d = -4) (fun r => ∃ a b w e m h, r = some (a, b, w, e, m, h) ∧ MR (fin F) a b w e m h) (by omega) ?_ ?_ fu 0 mV mT mH (by omega) (by unfold fu; omega) (fun d hd => by omega)
  · intro self c a b h hc hI hself
    unfold fX8_settles_b2
    rw [if_neg (ge30 hc), wrN hc (by omega), wrN hc (by omega), wrN hc (by omega), nI_1]
    refine hself _ _ _ (fun d hd => ?_)
    by_cases e : d = c
    · rw [e, us, us, us]; exact ⟨rfl, rfl, rfl⟩
    · rw [un _ _ e, un _ _ e, un _ _ e]; exact hI d (by omega)
  · intro self a b h hI
    unfold fX8_settles_b2
    rw [if_pos le30]
    refine m_rounds (Post := fun r => ∃ a b w e m h, r = some (a, b, w, e, m, h) ∧ MR (fin F) a b w e m h) hP hF 31 A0 a b mW mR mN h (by omega) (AI0 F) ?_ (fun a b w e m h hr => ⟨a, b, w, e, m, h, rfl, hr⟩) fu (by unfold fu; omega)
    exact ⟨fun d hd => (hI d hd).2.1, fun d _ ht => (by cases ht), fun d hd _ => ⟨(hI d hd).1, (hI d hd).2.2⟩, fun d _ _ hs => (by cases hs), fun d _ hs => (by cases hs)⟩
