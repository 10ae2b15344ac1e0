/-! THE REFERENCE: a try at a cell, its height -/
theorem m_value {mT mW mR mN V st : Nat → Int32} {T : Nat → Bool} {c : Nat} {F : Fo} (hF : PM F st 0) (hc : c < 30) (hf : VF (F c)) (hT : ∀ d, d < 30 → mT d = if T d = true then 1 else 0) (hW : mW c = -4) (hN : mN c = nI 0) : ∃ o, fX8_valueIfTold st V mT mW mR mN (nI c) = some o ∧ MV c (F c) T V mW mR mN o := by
  have hsp := fun h6 => m_span (V := V) (mR := mR) hF hc hf h6 hT hW hN
  obtain ⟨s0, s1, s2, s3⟩ := hF c hc
  simp only [Nat.zero_add] at s0 s1 s2 s3
  have two := fun hK => m_two (mR := mR) (V := V) (f := F c) hc hf hK hT hW hN
  have hs30 : 2 ≤ (F c).1 → sec (F c) V < 30 := fun h => sec_lt hf h V
  generalize hfe : F c = f at *
  have hpart : ∀ K : Nat, f.1 = K → (K = 2 ∨ K = 3 ∨ K = 4) → ∃ o, (bd4 (fX8_paired st V mT mW mR mN (nI c)) fun r180 c180_waits c180_readsOf c180_readMany => some (r180, c180_waits, c180_readsOf, c180_readMany)) = some o ∧ MV c f T V mW mR mN o := by
    intro K hK1 hK
    have h1 : f.2.1 < 30 ∧ f.2.2.1 < 30 := by rcases hf with h1 | h1 | h1 | h1 | h1 | h1 <;> omega
    have hs : sec f V = f.2.2.1 := by unfold sec; rw [if_neg (by omega), if_neg (by omega)]
    obtain ⟨o, ho, hm⟩ := two (by omega) (fun a b d => bd4 (fX8_isReadBy mT a b d (nI c) (nI f.2.2.1)) fun r a b d => if r = 0 then some (0, a, b, d) else some (val2 f.1 (V f.2.1) (V f.2.2.1), a, b, d)) (fun a b d => some (val2 f.1 (V f.2.1) (V f.2.2.1), a, b, d)) _ rfl (fun _ a b d => by rw [hs]) (fun _ _ a b d => by rw [hs])
    refine ⟨o, ?_, hm⟩
    rw [← ho]
    unfold fX8_paired
    rw [show (30 : Int32) = nI 30 from rfl, nI_add, rdN (by omega) (by omega), s1, show (60 : Int32) = nI 60 from rfl, nI_add, rdN (by omega) (by omega), s2]
    have inner : ∀ a b d : Nat → Int32, (rd V 30 (nI f.2.1) fun x45 => rd V 30 (nI f.2.2.1) fun x53 => rd st 720 (nI c) fun x61 => if x61 = 2 then some (x45 + x53, a, b, d) else rd st 720 (nI c) fun x79 => if x79 = 4 then some (x45 * x53, a, b, d) else some (x45 - x53, a, b, d)) = some (val2 f.1 (V f.2.1) (V f.2.2.1), a, b, d) := by
      intro a b d
      rw [rdN h1.1 (by omega), rdN h1.2 (by omega), rdN (by omega) (by omega), s0, rdN (by omega) (by omega), s0]
      unfold val2
      rcases hK with h2 | h2 | h2
      · rw [hK1, h2, if_pos (by decide), if_pos rfl]
      · rw [hK1, h2, if_neg (by decide), if_neg (by decide), if_neg (by decide), if_pos rfl]
      · rw [hK1, h2, if_neg (by decide), if_pos (by decide), if_neg (by decide), if_neg (by decide), if_pos rfl]
    simp only [inner]
    cases fX8_isReadBy mT mW mR mN (nI c) (nI f.2.1) with
    | none => rfl
    | some x =>
      obtain ⟨r, a, b, d⟩ := x
      rw [bd4_e]
      by_cases hr : r = 0
      · rw [if_pos hr]; rfl
      · rw [if_neg hr]
        cases fX8_isReadBy mT a b d (nI c) (nI f.2.2.1) with
        | none => rfl
        | some x =>
          obtain ⟨r, a, b, d⟩ := x
          rw [bd4_e]
          by_cases hr : r = 0
          · rw [if_pos hr]; rfl
          · rw [if_neg hr]; rfl
  unfold fX8_valueIfTold
  rw [show (30 : Int32) = nI 30 from rfl, nI_add, rdN (by omega) (by omega), s1, rdN (by omega) (by omega), s0]
  have hset : f.1 ≤ 1 → MV c f T V mW mR mN (nI f.2.1, mW, mR, mN) := by
    intro h1
    have r1 : ocR f T V = some (nI f.2.1) := by unfold ocR; rw [if_pos h1]
    have n1 : ocN f T V = 0 := by unfold ocN; rw [if_pos h1]
    exact ⟨fun e he => ⟨rfl, rfl⟩, fun k _ => rfl, by rw [n1]; exact hN, fun i hi => by omega, (fun v hv => by rw [r1] at hv; cases hv; exact ⟨rfl, hW⟩), (fun h9 => by rw [r1] at h9; cases h9)⟩
  rcases hf with h1 | h1 | h1 | h1 | h1 | h1
  · rw [h1.1, if_pos (by decide)]
    refine ⟨_, rfl, ?_⟩
    have := hset (by omega)
    rw [h1.2.1] at this
    exact this
  · rw [h1.1, if_neg (by decide), if_pos (by decide)]
    exact ⟨_, rfl, hset (by omega)⟩
  · obtain ⟨o, ho, hm⟩ := hpart f.1 rfl h1.1
    refine ⟨o, ?_, hm⟩
    rw [← ho]
    rcases h1.1 with h2 | h2 | h2
    · rw [h2, if_neg (by decide), if_neg (by decide), if_pos (by decide)]
    · rw [h2, if_neg (by decide), if_neg (by decide), if_neg (by decide), if_pos (by decide)]
    · rw [h2, if_neg (by decide), if_neg (by decide), if_neg (by decide), if_neg (by decide), if_pos (by decide)]
  · have hs : sec f V = pkN (V f.2.1) := by unfold sec; rw [if_pos (by omega)]
    have hv2 : val2 f.1 (V f.2.1) (V (pkN (V f.2.1))) = V (pkN (V f.2.1)) := by unfold val2; rw [if_neg (by omega), if_neg (by omega), if_neg (by omega)]
    rw [h1.1, if_neg (by decide), if_neg (by decide), if_neg (by decide), if_neg (by decide), if_neg (by decide), if_pos (by decide)]
    refine two (by omega) (fun a b d => rd V 30 (nI f.2.1) fun x88 => bd1 (fX8_modulo x88) fun r89 => bd4 (fX8_isReadBy mT a b d (nI c) r89) fun r92 c92_waits c92_readsOf c92_readMany => if r92 = 0 then some (0, c92_waits, c92_readsOf, c92_readMany) else rd V 30 (nI f.2.1) fun x107 => bd1 (fX8_modulo x107) fun r108 => rd V 30 r108 fun x111 => some (x111, c92_waits, c92_readsOf, c92_readMany)) (fun a b d => rd V 30 (nI f.2.1) fun x107 => bd1 (fX8_modulo x107) fun r108 => rd V 30 r108 fun x111 => some (x111, a, b, d)) _ rfl (fun _ a b d => ?_) (fun _ _ a b d => ?_)
    · rw [rdN h1.2.1 (by omega), f_modulo, bd1_e, hs]
    · rw [rdN h1.2.1 (by omega), f_modulo, bd1_e, rdN (pkN_lt _) (by omega), hs, hv2]
  · obtain ⟨o, ho, hm⟩ := hsp h1.1
    have ee : (bd4 (fX8_spanned st V mT mW mR mN (nI c)) fun r119 c119_waits c119_readsOf c119_readMany => some (r119, c119_waits, c119_readsOf, c119_readMany)) = some o := by
      rw [ho]
      rfl
    refine ⟨o, ?_, hm⟩
    rcases h1.1 with h2 | h2
    · rw [h2, if_neg (by decide), if_neg (by decide), if_neg (by decide), if_neg (by decide), if_neg (by decide), if_neg (by decide), if_pos (by decide)]
      exact ee
    · rw [h2, if_neg (by decide), if_neg (by decide), if_neg (by decide), if_neg (by decide), if_neg (by decide), if_neg (by decide), if_neg (by decide), if_pos (by decide)]
      exact ee
  · have hv2 : val2 f.1 (V f.2.1) (V (sec f V)) = V (sec f V) := by unfold val2; rw [if_neg (by omega), if_neg (by omega), if_neg (by omega)]
    rw [h1.1, if_neg (by decide), if_neg (by decide), if_neg (by decide), if_neg (by decide), if_neg (by decide), if_neg (by decide), if_neg (by decide), if_neg (by decide), if_pos (by decide)]
    have hrow : st ((if V f.2.1 ≤ 0 then 90 else 60) + c) = nI (sec f V) := by
      have h9 : sec f V = if V f.2.1 ≤ 0 then f.2.2.2 else f.2.2.1 := by
        unfold sec
        rw [if_neg (by omega), if_pos h1.1]
      rw [h9]
      split
      · exact s3
      · exact s2
    have hsec := hs30 (by omega)
    refine two (by omega) (fun a b d => rd V 30 (nI f.2.1) fun x143 => if x143 ≤ 0 then fX8_valueIfTold_j154 st V mT (nI c) a b d 90 else fX8_valueIfTold_j154 st V mT (nI c) a b d 60) (fun a b d => rd V 30 (nI (sec f V)) fun x172 => some (x172, a, b, d)) _ rfl (fun _ a b d => ?_) (fun _ _ a b d => ?_)
    · rw [rdN h1.2.1 (by omega)]
      unfold fX8_valueIfTold_j154
      by_cases hle : V f.2.1 ≤ 0
      · rw [if_pos hle] at hrow
        rw [if_pos hle, show (90 : Int32) = nI 90 from rfl, nI_add, rdN (by omega) (by omega), hrow]
      · rw [if_neg hle] at hrow
        rw [if_neg hle, show (60 : Int32) = nI 60 from rfl, nI_add, rdN (by omega) (by omega), hrow]
    · rw [rdN hsec (by omega), hv2]
/-- what an evaluation of c leaves in the reference -/
def ME (c : Nat) (f : Fq) (T : Nat → Bool) (mV mT mW mR mN : Nat → Int32) (o : Int32 × (Nat → Int32) × (Nat → Int32) × (Nat → Int32) × (Nat → Int32) × (Nat → Int32)) : Prop :=
  (∀ d, d ≠ c → o.2.1 d = mV d ∧ o.2.2.1 d = mT d ∧ o.2.2.2.1 d = mW d ∧ o.2.2.2.2.2 d = mN d) ∧ (∀ k, k < 30 * c ∨ 30 * c + 30 ≤ k → o.2.2.2.2.1 k = mR k) ∧ o.2.2.2.2.2 c = nI (ocN f T mV) ∧ (∀ i, i < ocN f T mV → o.2.2.2.2.1 (30 * c + i) = nI (ocL f mV i)) ∧
  (∀ v, ocR f T mV = some v → o.1 = 1 ∧ o.2.1 c = v ∧ o.2.2.1 c = 1 ∧ o.2.2.2.1 c = -4) ∧ (ocR f T mV = none → o.1 = 0 ∧ o.2.1 c = mV c ∧ o.2.2.1 c = mT c ∧ o.2.2.2.1 c = nI (ocW f T mV))
theorem ocW_lt {f : Fq} {T : Nat → Bool} {V : Nat → Int32} (hf : VF f) (hr : ocR f T V = none) : ocW f T V < 30 := by
  have h2 : ¬ f.1 ≤ 1 := fun h => by unfold ocR at hr; rw [if_pos h] at hr; cases hr
  unfold ocW
  by_cases h6 : f.1 = 6 ∨ f.1 = 7
  · rw [if_pos h6]
    unfold ocR at hr
    rw [if_neg h2, if_pos h6] at hr
    have h3 := spl_le T f.2.1 (spn f)
    have h4 : spl T f.2.1 (spn f) ≠ spn f := fun e => by rw [if_pos e] at hr; cases hr
    have h5 : spn f = f.2.2.1 + 1 - f.2.1 := rfl
    rcases hf with h1 | h1 | h1 | h1 | h1 | h1 <;> omega
  · rw [if_neg h6]
    have := sec_lt hf (by omega) V
    split
    · exact this
    · rcases hf with h1 | h1 | h1 | h1 | h1 | h1 <;> omega
theorem m_eval {mV mT mW mR mN st : Nat → Int32} {T : Nat → Bool} {c : Nat} {F : Fo} (hF : PM F st 0) (hc : c < 30) (hf : VF (F c)) (hT : ∀ d, d < 30 → mT d = if T d = true then 1 else 0) (hTc : T c = false) : ∃ o, fX8_isEvaluated st mV mT mW mR mN (nI c) = some o ∧ ME c (F c) T mV mT mW mR mN o := by
  unfold fX8_isEvaluated
  rw [wrN hc (by omega), wrN hc (by omega)]
  obtain ⟨⟨r, a, b, d⟩, ho, h1, h2, h3, h4, h5, h6⟩ := m_value (V := mV) (mR := mR) (mW := upd mW c (-4)) (mN := upd mN c 0) hF hc hf hT (us _ _ _) (us _ _ _)
  rw [ho, bd4_e, rdN hc (by omega)]
  have hold : ∀ e, e ≠ c → a e = mW e ∧ d e = mN e := fun e he => ⟨((h1 e he).1).trans (un _ _ he), ((h1 e he).2).trans (un _ _ he)⟩
  have hTc0 : mT c = 0 := by rw [hT c hc, hTc]; rfl
  cases hr : ocR (F c) T mV with
  | some v =>
    obtain ⟨e1, e2⟩ := h5 v hr
    have e1 : r = v := e1
    have e2 : a c = -4 := e2
    rw [e2, if_pos rfl, wrN hc (by omega), wrN hc (by omega)]
    unfold fX8_isEvaluated_j46
    rw [rdN hc (by omega), us, show vp_nar FieldType.boolean 1 = 1 from rfl, ckT (Or.inr rfl)]
    exact ⟨_, rfl, fun e he => ⟨un _ _ he, un _ _ he, (hold e he).1, (hold e he).2⟩, h2, h3, h4, (fun v' hv => by cases hv.symm.trans hr; exact ⟨rfl, by rw [← e1]; exact us _ _ _, us _ _ _, e2⟩), (fun h9 => by rw [hr] at h9; cases h9)⟩
  | none =>
    have e2 : a c = nI (ocW (F c) T mV) := h6 hr
    rw [e2, if_neg (nI_ne_m4 (by have := ocW_lt hf hr; omega))]
    unfold fX8_isEvaluated_j46
    rw [rdN hc (by omega), hTc0, ckT (Or.inl rfl)]
    exact ⟨_, rfl, fun e he => ⟨rfl, rfl, (hold e he).1, (hold e he).2⟩, h2, h3, h4, (fun v' hv => by rw [hr] at hv; cases hv), fun _ => ⟨rfl, rfl, rfl, e2⟩⟩
theorem m_height {mR mN mH : Nat → Int32} {hg : Nat → Nat} {c n : Nat} {l : Nat → Nat} (hc : c < 30) (hn : n ≤ 30) (hN : mN c = nI n) (hL : ∀ i, i < n → mR (30 * c + i) = nI (l i)) (hl : ∀ i, i < n → l i < 30) (hH : ∀ i, i < n → mH (l i) = nI (hg (l i)) ∧ hg (l i) < 1000) : ∃ h', fX8_heightOf mR mN mH (nI c) = some (upd mH c (nI h')) ∧ (∀ i, i < n → hg (l i) + 1 ≤ h') ∧ (h' = 0 ∨ ∃ i, i < n ∧ h' = hg (l i) + 1) := by
  unfold fX8_heightOf
  refine fr1 (fX8_heightOf_b4 mR mN (nI c) mH) n (fun i a => ∃ h', h' < 1001 ∧ a = nI h' - nI 1 ∧ (∀ j, j < i → hg (l j) + 1 ≤ h') ∧ (h' = 0 ∨ ∃ j, j < i ∧ h' = hg (l j) + 1)) (fun r => ∃ h', r = some (upd mH c (nI h')) ∧ (∀ i, i < n → hg (l i) + 1 ≤ h') ∧ (h' = 0 ∨ ∃ i, i < n ∧ h' = hg (l i) + 1)) (by omega) ?_ ?_ fu 0 (-1) (by omega) (by unfold fu; omega) ?_
  · intro self i a hi ⟨h', hb, ha, h1, h2⟩ hself
    unfold fX8_heightOf_b4
    obtain ⟨hHl, hbl⟩ := hH i hi
    rw [rdN hc (by omega), hN, if_neg (nI_ge hi (by omega)), show (30 : Int32) = nI 30 from rfl, pk_mul, nI_add, rdN (by omega) (by omega), hL i hi, rdN (hl i hi) (by omega), hHl]
    have hcmp : nI (hg (l i)) ≤ a ↔ hg (l i) + 1 ≤ h' := by
      rw [ha, Int32.le_iff_toInt_le, nI_toInt (by omega), pk_sub_toInt (by omega) (by omega)]
      omega
    unfold fX8_heightOf_j49
    rw [nI_1]
    by_cases h9 : hg (l i) + 1 ≤ h'
    · rw [if_pos (hcmp.mpr h9)]
      refine hself _ ⟨h', hb, ha, fun j hj => ?_, ?_⟩
      · by_cases e : j = i
        · rw [e]; exact h9
        · exact h1 j (by omega)
      · rcases h2 with h2 | ⟨j, hj, e⟩
        · exact Or.inl h2
        · exact Or.inr ⟨j, by omega, e⟩
    · rw [if_neg (fun z => h9 (hcmp.mp z)), rdN (hl i hi) (by omega), hHl]
      refine hself _ ⟨hg (l i) + 1, by omega, ?_, fun j hj => ?_, Or.inr ⟨i, by omega, rfl⟩⟩
      · rw [pk_sub (by omega), Nat.add_sub_cancel]
      · by_cases e : j = i
        · rw [e]; omega
        · have := h1 j (by omega); omega
  · intro self a ⟨h', hb, ha, h1, h2⟩
    unfold fX8_heightOf_b4
    rw [rdN hc (by omega), hN, if_pos (nI_le (Nat.le_refl _) (by omega)), wrN hc (by omega), ha]
    refine ⟨h', ?_, h1, h2⟩
    congr 2
    have : nI h' - nI 1 + 1 = nI h' := by
      show nI h' - 1 + 1 = nI h'
      exact Int32.sub_add_cancel _ _
    exact this
  · exact ⟨0, by omega, rfl, fun j hj => by omega, Or.inl rfl⟩
