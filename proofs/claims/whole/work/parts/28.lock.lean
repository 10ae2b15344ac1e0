/-! THE CLASS'S RECKONING IS THE COMMON MEANING -/
def CR (A : AS) (V H R W : Nat → Int32) (kn : Int32) : Prop :=
  (∀ d, d < 30 → aT A d = bt kn d) ∧ (∀ d, 30 ≤ d → bt kn d = false) ∧
  (∀ d, d < 30 → aT A d = true → V d = aV A d ∧ H d = nI (aG A d) ∧ W d = -4) ∧
  (∀ d, d < 30 → aT A d = false → ∃ h, H d = nI h ∧ (h = 0 ∨ ∃ i, i < aN A d ∧ aT A (aL A d i) = true ∧ h ≤ aG A (aL A d i) + 1)) ∧
  (∀ d, d < 30 → aT A d = false → aS A d = true → W d = nI (aW' A d)) ∧
  (∀ d, d < 30 → ∀ j, j < 32 → bt (R d) j = decide (∃ i, i < aN A d ∧ aL A d i = j))
theorem dec_t {p : Prop} {_ : Decidable p} (h : p) : decide p = true := decide_eq_true h
set_option maxHeartbeats 1000000 in
theorem c_step {F : Fo} {parts : Nat → Int32} {A : AS} {V H R W : Nat → Int32} {kn : Int32} {c : Nat} (hP : PC F parts) (hF : VFs F) (hc : c < 30) (hA : AI F A) (hR : CR A V H R W kn) (hT : aT A c = false) : ∃ o, fX3_tryCell V H R W kn parts (nI c) = some o ∧ CR (vs F c A) o.1 o.2.1 o.2.2.1 o.2.2.2.1 o.2.2.2.2 := by
  obtain ⟨r1, r2, r3, r4, r5, r6⟩ := hR
  obtain ⟨h, hh, hh2⟩ := r4 c hc hT
  have hle := fb_ct_le (aT A) 30
  have hlp := hA.2.1 c hc
  have hb : h < 1000 := by
    rcases hh2 with e | ⟨i, hi, ht, hl⟩
    · omega
    · have := (hA.1 _ (hlp.2.1 i hi) ht).1; omega
  obtain ⟨⟨oV, oH, oR, oW, ok⟩, ho, q1, q2, q3, q4, h', q5, q6, q7, q8⟩ := c_cell (h := h) (hg := aG A) hP hF hc r1 hT (fun d hd ht => ⟨(r3 d hd ht).2.1, by have := (hA.1 d hd ht).1; omega⟩) hh hb
  refine ⟨_, ho, ?_⟩
  obtain ⟨e1, e2, e3, e4⟩ := oc_cong (T := aT A) (V := V) (V' := aV A) (hF c hc) (fun d hd ht => (r3 d hd ht).1)
  have eL : ∀ i, i < ocN (F c) (aT A) (aV A) → ocL (F c) V i = ocL (F c) (aV A) i := fun i hi => e4 i (e2 ▸ hi)
  rw [e1, e3] at q3
  rw [e1] at q2
  simp only [] at q1 q2 q3 q4 q5
  have q4' : ∀ j, j < 32 → bt (oR c) j = decide (∃ i, i < ocN (F c) (aT A) (aV A) ∧ ocL (F c) (aV A) i = j) := by
    intro j hj
    rw [q4 j hj, r6 c hc j hj]
    have hA3 := hA.2.2.1 c hc hT
    by_cases hx : ∃ i, i < ocN (F c) (aT A) (aV A) ∧ ocL (F c) (aV A) i = j
    · rw [dec_t hx]
      obtain ⟨i, hi, hl⟩ := hx
      rw [dec_t (p := ∃ i, i < ocN (F c) (aT A) V ∧ ocL (F c) V i = j) ⟨i, by rw [e2]; exact hi, by rw [eL i hi]; exact hl⟩, Bool.or_true]
    · have n1 : ¬ ∃ i, i < ocN (F c) (aT A) V ∧ ocL (F c) V i = j := fun ⟨i, hi, hl⟩ => hx ⟨i, e2 ▸ hi, by rw [← e4 i hi]; exact hl⟩
      have n2 : ¬ ∃ i, i < aN A c ∧ aL A c i = j := fun ⟨i, hi, hl⟩ => by
        obtain ⟨i', hi', hl'⟩ := hA3 i hi
        exact hx ⟨i', hi', hl'.trans hl⟩
      rw [decide_eq_false hx, decide_eq_false n1, decide_eq_false n2]
      rfl
  have hold : ∀ d, aT A d = true → d ≠ c := fun d ht e => by rw [e, hT] at ht; cases ht
  have q7' : ∀ i, i < ocN (F c) (aT A) (aV A) → aT A (ocL (F c) (aV A) i) = true → aG A (ocL (F c) (aV A) i) + 1 ≤ h' := fun i hi ht => by
    have := q7 i (e2 ▸ hi)
    rw [eL i hi] at this
    exact this ht
  have q8' : h' = 0 ∨ ∃ i, i < ocN (F c) (aT A) (aV A) ∧ aT A (ocL (F c) (aV A) i) = true ∧ h' ≤ aG A (ocL (F c) (aV A) i) + 1 := by
    rcases q8 with e | ⟨i, hi, ht, e⟩
    · rcases hh2 with e0 | ⟨i, hi, ht, hl⟩
      · exact Or.inl (by omega)
      · obtain ⟨i', hi', hl'⟩ := hA.2.2.1 c hc hT i hi
        exact Or.inr ⟨i', hi', by rw [hl']; exact ht, by rw [hl']; omega⟩
    · rw [e4 i hi] at ht e
      exact Or.inr ⟨i, e2 ▸ hi, ht, by omega⟩
  cases hr : ocR (F c) (aT A) (aV A) with
  | some r =>
    obtain ⟨p1, p2, p3⟩ := q2 r hr
    have hto := oc_told (hF c hc) hr
    rw [vs_s hT hr]
    refine ⟨fun d hd => ?_, fun d hd => ?_, fun d hd ht => ?_, fun d hd ht => ?_, fun d hd ht hs => ?_, fun d hd j hj => ?_⟩
    · show up (aT A) c true d = bt ok d
      rw [p3, b_or, bt_bI c (by omega) d (by omega)]
      by_cases e : d = c
      · rw [e, up_s, decide_eq_true rfl, Bool.or_true]
      · rw [up_n _ _ e, r1 d hd, decide_eq_false e, Bool.or_false]
    · show bt ok d = false
      by_cases hd2 : d < 32
      · rw [p3, b_or, bt_bI c (by omega) d hd2, r2 d hd, decide_eq_false (by omega)]; rfl
      · exact b_big (by omega)
    · show oV d = up (aV A) c r d ∧ oH d = nI (up (aG A) c _ d) ∧ oW d = -4
      by_cases e : d = c
      · subst e
        rw [up_s, up_s, p1, p2, q5]
        refine ⟨rfl, ?_, rfl⟩
        congr 1
        exact mxH_eq (fun i hi => q7' i hi (hto i hi)) (q8'.imp id (fun ⟨i, hi, _, hl⟩ => ⟨i, hi, hl⟩))
      · have ht : up (aT A) c true d = true := ht
        rw [up_n _ _ e] at ht
        rw [up_n _ _ e, up_n _ _ e, (q1 d e).1, (q1 d e).2.1, (q1 d e).2.2.2]
        exact r3 d hd ht
    · have e : d ≠ c := fun e => by
        have ht : up (aT A) c true d = false := ht
        rw [e, up_s] at ht; cases ht
      have ht : up (aT A) c true d = false := ht
      rw [up_n _ _ e] at ht
      obtain ⟨h2, hh3, hh4⟩ := r4 d hd ht
      refine ⟨h2, ((q1 d e).2.1).trans hh3, hh4.imp id (fun ⟨i, hi, ht2, hl⟩ => ⟨i, ?_, ?_, ?_⟩)⟩
      · show i < up (aN A) c _ d
        rw [up_n _ _ e]; exact hi
      · show up (aT A) c true (up (aL A) c _ d i) = true
        rw [up_n (aL A) _ e, up_n _ _ (hold _ ht2)]
        exact ht2
      · show h2 ≤ up (aG A) c _ (up (aL A) c _ d i) + 1
        rw [up_n (aL A) _ e, up_n _ _ (hold _ ht2)]
        exact hl
    · have e : d ≠ c := fun e => by
        have ht : up (aT A) c true d = false := ht
        rw [e, up_s] at ht; cases ht
      have ht : up (aT A) c true d = false := ht
      have hs : up (aS A) c true d = true := hs
      rw [up_n _ _ e] at ht hs
      exact ((q1 d e).2.2.2).trans (r5 d hd ht hs)
    · show bt (oR d) j = decide (∃ i, i < up (aN A) c (ocN (F c) (aT A) (aV A)) d ∧ up (aL A) c (ocL (F c) (aV A)) d i = j)
      by_cases e : d = c
      · subst e
        rw [q4' j hj]
        simp only [up_s]
      · rw [(q1 d e).2.2.1, r6 d hd j hj]
        simp only [up_n _ _ e]
  | none =>
    obtain ⟨p1, p2, p3⟩ := q3 hr
    rw [vs_n hT hr]
    refine ⟨fun d hd => ?_, fun d hd => ?_, fun d hd ht => ?_, fun d hd ht => ?_, fun d hd ht hs => ?_, fun d hd j hj => ?_⟩
    · show aT A d = bt ok d
      rw [p3]; exact r1 d hd
    · show bt ok d = false
      rw [p3]; exact r2 d hd
    · have e := hold d ht
      show oV d = aV A d ∧ oH d = nI (aG A d) ∧ oW d = -4
      rw [(q1 d e).1, (q1 d e).2.1, (q1 d e).2.2.2]
      exact r3 d hd ht
    · show ∃ h, oH d = nI h ∧ (h = 0 ∨ ∃ i, i < up (aN A) c _ d ∧ aT A (up (aL A) c _ d i) = true ∧ h ≤ aG A (up (aL A) c _ d i) + 1)
      by_cases e : d = c
      · subst e
        simp only [up_s]
        exact ⟨h', q5, q8'⟩
      · simp only [up_n _ _ e, (q1 d e).2.1]
        exact r4 d hd ht
    · show oW d = nI (up (aW' A) c _ d)
      by_cases e : d = c
      · subst e
        rw [up_s]; exact p2
      · have hs : up (aS A) c true d = true := hs
        rw [up_n _ _ e] at hs
        rw [up_n _ _ e, (q1 d e).2.2.2]
        exact r5 d hd ht hs
    · show bt (oR d) j = decide (∃ i, i < up (aN A) c (ocN (F c) (aT A) (aV A)) d ∧ up (aL A) c (ocL (F c) (aV A)) d i = j)
      by_cases e : d = c
      · subst e
        rw [q4' j hj]
        simp only [up_s]
      · rw [(q1 d e).2.2.1, r6 d hd j hj]
        simp only [up_n _ _ e]
theorem f_fill {a : Nat → Int32} {N : Nat} {v : Int32} (hN : N < 2 ^ 30) (hf : N < fu) : ∃ b, fJ7_fill_53178 N a v = some b ∧ ∀ d, d < N → b d = v := by
  unfold fJ7_fill_53178
  refine fr1 (fJ7_fill_53178_b5 N v (Int32.ofNat N)) N (fun c b => ∀ d, d < c → b d = v) (fun r => ∃ b, r = some b ∧ ∀ d, d < N → b d = v) hN ?_ ?_ fu 0 a (by omega) (by omega) (fun d hd => by omega)
  · intro self c b hc hI hself
    unfold fJ7_fill_53178_b5
    rw [if_neg (show ¬ Int32.ofNat N ≤ nI c from nI_ge (b := N) hc (by omega)), wrN hc (by omega), nI_1]
    refine hself _ (fun d hd => ?_)
    by_cases e : d = c
    · rw [e, us]
    · rw [un _ _ e]; exact hI d (by omega)
  · intro self b hI
    unfold fJ7_fill_53178_b5
    rw [if_pos (show Int32.ofNat N ≤ nI N from nI_le (a := N) (Nat.le_refl _) (by omega))]
    exact ⟨b, rfl, hI⟩
theorem has_bt {x : Int32} {c : Nat} (h : c < 32) {α : Type} {k1 k2 : Option α} : (bd1 (fX7_has x (nI c)) fun r => if r = (0 : Int32) then k1 else k2) = if bt x c = true then k2 else k1 := by
  rw [f_has x h, bd1_e]
  cases bt x c
  · rfl
  · rfl
abbrev RO : Type := (Nat → Int32) × (Nat → Int32) × (Nat → Int32) × (Nat → Int32) × Int32 × Int32 × Int32
theorem c_sweep {F : Fo} {parts : Nat → Int32} {A : AS} {V H R W : Nat → Int32} {kn cc cs l3 : Int32} {self25 : (Nat → Int32) → (Nat → Int32) → (Nat → Int32) → (Nat → Int32) → Int32 → Int32 → Int32 → Option RO} {Post : Option RO → Prop} (hP : PC F parts) (hF : VFs F) (hA : AI F A) (hR : CR A V H R W kn)
    (hk : ∀ V' H' R' W' kn', CR (sw F 30 A) V' H' R' W' kn' → Post (self25 V' H' R' W' kn' (if kn' = kn then 0 else 1) (l3 + 1))) : Post (lq6 (fX3_reckon_b44 parts self25 cc cs l3 kn) fu V H R W kn (nI 0)) := by
  refine fr5 (fX3_reckon_b44 parts self25 cc cs l3 kn) 30 (fun c V H R W k => CR (sw F c A) V H R W k) Post (by omega) ?_ ?_ fu 0 V H R W kn (by omega) (by unfold fu; omega) hR
  · intro self c V H R W k hc hI hself
    unfold fX3_reckon_b44 fX3_reckon_j70
    rw [if_neg (ge30 hc), has_bt (by omega), nI_1]
    have hA' := AI_sw (F := F) hF (k := c) (A := A) (by omega) hA
    by_cases hb : bt k c = true
    · rw [if_pos hb]
      refine hself _ _ _ _ _ ?_
      show CR (vs F c (sw F c A)) V H R W k
      rw [vs_t ((hI.1 c hc).trans hb)]
      exact hI
    · rw [if_neg hb]
      obtain ⟨⟨oV, oH, oR, oW, ok⟩, ho, hr⟩ := c_step hP hF hc hA' hI ((hI.1 c hc).trans (by cases h9 : bt k c; rfl; exact absurd h9 hb))
      rw [ho, bd5_e]
      exact hself _ _ _ _ _ hr
  · intro self V H R W k hI
    unfold fX3_reckon_b44 fX3_reckon_j90
    rw [if_pos le30]
    have := hk V H R W k hI
    by_cases e : k = kn
    · rw [if_pos e]; rw [if_pos e] at this; exact this
    · rw [if_neg e]; rw [if_neg e] at this; exact this
theorem kn_eq {F : Fo} {A : AS} {V H R W V' H' R' W' : Nat → Int32} {kn kn' : Int32} (h : CR A V H R W kn) (h' : CR (sw F 30 A) V' H' R' W' kn') : kn' = kn ↔ fb_ct (aT (sw F 30 A)) 30 = fb_ct (aT A) 30 := by
  constructor
  · intro e
    refine fb_ct_cong (fun k hk => ?_)
    rw [h.1 k hk, h'.1 k hk, e]
  · intro e
    have := ct_same (T := aT A) (T' := aT (sw F 30 A)) (fun d _ ht => sw_mono ht 30) e
    refine b_ext (fun i hi => ?_)
    by_cases hi2 : i < 30
    · rw [← h.1 i hi2, ← h'.1 i hi2, this i hi2]
    · rw [h.2.1 i (by omega), h'.2.1 i (by omega)]
theorem c_rounds {F : Fo} {parts : Nat → Int32} {cc cs : Int32} {Post : Option RO → Prop} (hP : PC F parts) (hF : VFs F) : ∀ (n m : Nat) (A : AS) (V H R W : Nat → Int32) (kn : Int32), m + n = 31 → AI F A → CR A V H R W kn →
    (∀ V' H' R' W' kn', CR (gr F n A) V' H' R' W' kn' → Post (fX3_reckon_j97 parts V' H' R' W' kn' cc cs)) → ∀ k, n + 1 ≤ k → Post (lq7 (fX3_reckon_b25 parts cc cs) k V H R W kn 1 (nI m)) := by
  intro n
  induction n with
  | zero =>
    intro m A V H R W kn hm hA hR hk k hk2
    obtain ⟨k, rfl⟩ : ∃ k', k = k' + 1 := ⟨k - 1, by omega⟩
    rw [lq7_s]
    unfold fX3_reckon_b25
    rw [if_neg (by decide), if_pos (show (30 : Int32) < nI m from nI_lt (a := 30) (by omega) (by omega))]
    exact hk _ _ _ _ _ hR
  | succ n ih =>
    intro m A V H R W kn hm hA hR hk k hk2
    obtain ⟨k, rfl⟩ : ∃ k', k = k' + 1 := ⟨k - 1, by omega⟩
    rw [lq7_s]
    unfold fX3_reckon_b25
    rw [if_neg (by decide), if_neg (show ¬ (30 : Int32) < nI m from nI_nlt (a := 30) (by omega) (by omega))]
    refine c_sweep hP hF hA hR (fun V' H' R' W' kn' hR' => ?_)
    rw [nI_1]
    by_cases e : kn' = kn
    · rw [if_pos e]
      have e2 := (kn_eq hR hR').mp e
      rw [gr, if_pos e2] at hk
      obtain ⟨k, rfl⟩ : ∃ k', k = k' + 1 := ⟨k - 1, by omega⟩
      rw [lq7_s, if_pos rfl]
      exact hk _ _ _ _ _ hR'
    · rw [if_neg e]
      have e2 := fun z => e ((kn_eq hR hR').mpr z)
      rw [gr, if_neg e2] at hk
      exact ih (m + 1) (sw F 30 A) V' H' R' W' kn' (by omega) (AI_sw hF (Nat.le_refl _) hA) hR' hk k (by omega)
theorem c_reckon {F : Fo} {parts : Nat → Int32} {Post : Option RO → Prop} (hP : PC F parts) (hF : VFs F) (V H R W : Nat → Int32) (kn cc cs : Int32)
    (hk : ∀ V' H' R' W' kn', CR (fin F) V' H' R' W' kn' → Post (fX3_reckon_j97 parts V' H' R' W' kn' cc cs)) : Post (fX3_reckon V H R W kn cc cs parts) := by
  unfold fX3_reckon
  obtain ⟨a, ha, ha2⟩ := f_fill (a := H) (N := 30) (v := 0) (by omega) (by unfold fu; omega)
  obtain ⟨b, hb, hb2⟩ := f_fill (a := R) (N := 30) (v := 0) (by omega) (by unfold fu; omega)
  rw [ha, bd1_e, hb, bd1_e]
  refine c_rounds hP hF 31 0 A0 V a b W 0 (by omega) (AI0 F) ?_ hk fu (by unfold fu; omega)
  refine ⟨fun d _ => (b_0 d).symm, fun d _ => b_0 d, fun d _ h => (by cases h), fun d hd _ => ⟨0, ha2 d hd, Or.inl rfl⟩, fun d _ _ h => (by cases h), fun d hd j _ => ?_⟩
  rw [hb2 d hd, b_0]
  exact (decide_eq_false (fun ⟨i, hi, _⟩ => absurd hi (Nat.not_lt_zero i))).symm
