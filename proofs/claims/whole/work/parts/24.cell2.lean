/-! THE CLASS: a span, a cell -/
theorem span_CP {c : Nat} {f : Fq} {T : Nat → Bool} {hg : Nat → Nat} {V H R W : Nat → Int32} {kn : Int32} {h : Nat} (hc : c < 30) (hf : VF f) (hK : f.1 = 6 ∨ f.1 = 7) (hT : ∀ d, d < 30 → T d = bt kn d) (hTc : T c = false) (hH : ∀ d, d < 30 → T d = true → H d = nI (hg d) ∧ hg d < 1000) (hh : H c = nI h) (hh2 : h < 1000) : ∃ o, fX3_trySpan V H R W kn (nI f.1) (nI c) (nI f.2.1) (nI f.2.2.1) = some o ∧ CP c f T hg V H R W kn h o := by
  have hpq : f.2.1 ≤ f.2.2.1 ∧ f.2.2.1 < 30 := by rcases hf with h1 | h1 | h1 | h1 | h1 | h1 <;> omega
  have e1 : ¬ f.1 ≤ 1 := by omega
  have sp : spn f = f.2.2.1 + 1 - f.2.1 := rfl
  have oR : ocR f T V = if spl T f.2.1 (spn f) = spn f then some (if f.1 = 6 then smS V f.2.1 (spn f) else mxS V f.2.1 (spn f)) else none := by unfold ocR; rw [if_neg e1, if_pos hK]
  have oN : ocN f T V = if spl T f.2.1 (spn f) = spn f then spn f else spl T f.2.1 (spn f) + 1 := by unfold ocN; rw [if_neg e1, if_pos hK]
  have oL : ∀ i, ocL f V i = f.2.1 + i := fun i => by unfold ocL; rw [if_pos hK]
  have oW : ocW f T V = f.2.1 + spl T f.2.1 (spn f) := by unfold ocW; rw [if_pos hK]
  generalize hpe : f.2.1 = p at *
  generalize hqe : f.2.2.1 = q at *
  generalize hle : spn f = n at *
  obtain ⟨hpq, hq⟩ := hpq
  unfold fX3_trySpan
  refine fr5 (fX3_trySpan_b10 (nI f.1) (nI c) (nI p) (nI q) V kn) (q + 1)
    (fun d H' R' W' sm mx => p ≤ d ∧ (∀ i, i < d - p → T (p + i) = true) ∧ (∀ e, e ≠ c → H' e = H e ∧ R' e = R e) ∧ W' = W ∧ (∀ j, j < 32 → bt (R' c) j = (bt (R c) j || decide (∃ i, i < d - p ∧ p + i = j))) ∧ (∃ h', h' < 1001 ∧ H' c = nI h' ∧ h ≤ h' ∧ (∀ i, i < d - p → hg (p + i) + 1 ≤ h') ∧ (h' = h ∨ ∃ i, i < d - p ∧ h' = hg (p + i) + 1)) ∧ sm = smS V p (d - p) ∧ mx = mxS V p (d - p))
    (fun r => ∃ o, r = some o ∧ CP c f T hg V H R W kn h o) (by omega) ?_ ?_ fu p H R W 0 (-2147483648) (by omega) (by unfold fu; omega) ?_
  · intro self d H' R' W' sm mx hd ⟨hpd, ht, ho, hW, hR, ⟨h', hb', hh', hl', ha', hx'⟩, hsm, hmx⟩ hself
    have hd30 : d < 30 := by omega
    unfold fX3_trySpan_b10
    rw [if_neg (nI_nlt (by omega) (by omega)), c_takes hc hd30, ← hT d hd30]
    cases hTd : T d
    · -- it stops at d
      simp only [Bool.false_eq_true, if_false]
      rw [bd4_e, if_pos rfl]
      have hspl : spl T p n = d - p := spl_eq (by omega) ht (fun _ => by rw [show p + (d - p) = d by omega]; exact hTd)
      have r1 : ocR f T V = none := by rw [oR, hspl, if_neg (by omega)]
      have n1 : ocN f T V = d - p + 1 := by rw [oN, hspl, if_neg (by omega)]
      have w1 : ocW f T V = d := by rw [oW, hspl]; omega
      refine ⟨_, rfl, fun e he => ⟨rfl, (ho e he).1, by show upd _ c _ e = _; rw [un _ _ he]; exact (ho e he).2, by show upd _ c _ e = _; rw [un _ _ he, hW]⟩, (fun v hv => by rw [r1] at hv; cases hv), fun _ => ⟨rfl, by show upd _ c _ c = _; rw [us, w1], rfl⟩, fun j hj => ?_, h', hh', hl', fun i hi hti => ?_, ?_⟩
      · show bt (upd R' c _ c) j = _
        rw [us, b_or, hR j hj, bt_bI d (by omega) j hj, n1, Bool.or_assoc, ← Bool.decide_or]
        congr 1
        apply decide_eq_decide.mpr
        constructor
        · rintro (⟨i, hi, e⟩ | rfl)
          · exact ⟨i, by omega, by rw [oL]; exact e⟩
          · exact ⟨j - p, by omega, by rw [oL]; omega⟩
        · rintro ⟨i, hi, e⟩
          rw [oL] at e
          by_cases h9 : i < d - p
          · exact Or.inl ⟨i, h9, e⟩
          · exact Or.inr (by omega)
      · rw [n1] at hi
        rw [oL] at hti ⊢
        by_cases h9 : i < d - p
        · exact ha' i h9
        · rw [show p + i = d by omega, hTd] at hti
          cases hti
      · rcases hx' with hx' | ⟨i, hi, e⟩
        · exact Or.inl hx'
        · exact Or.inr ⟨i, by omega, by rw [oL]; exact ht i hi, by rw [oL]; exact e⟩
    · -- it goes on
      simp only [if_true]
      obtain ⟨hHd, hbd⟩ := hH d hd30 hTd
      have hdc : d ≠ c := fun e => by rw [e, hTc] at hTd; cases hTd
      rw [bd4_e, if_neg (by decide), rdN hd30 (by omega), rdN hd30 (by omega), nI_1]
      have e3 : d + 1 - p = d - p + 1 := by omega
      refine hself _ _ _ _ _ ⟨by omega, fun i hi => ?_, fun e he => ⟨by rw [un _ _ he]; exact (ho e he).1, by rw [un _ _ he]; exact (ho e he).2⟩, hW, fun j hj => ?_, ⟨max h' (hg d + 1), by omega, ?_, by omega, fun i hi => ?_, ?_⟩, ?_, ?_⟩
      · by_cases h9 : i < d - p
        · exact ht i h9
        · rw [show p + i = d by omega]; exact hTd
      · rw [us, b_or, hR j hj, bt_bI d (by omega) j hj, Bool.or_assoc, ← Bool.decide_or]
        congr 1
        apply decide_eq_decide.mpr
        constructor
        · rintro (⟨i, hi, e⟩ | rfl)
          · exact ⟨i, by omega, e⟩
          · exact ⟨j - p, by omega, by omega⟩
        · rintro ⟨i, hi, e⟩
          by_cases h9 : i < d - p
          · exact Or.inl ⟨i, h9, e⟩
          · exact Or.inr (by omega)
      · rw [us, hh', (ho d hdc).1, hHd, nI_1, mxI_nI (by omega) (by omega)]
      · by_cases h9 : i < d - p
        · have := ha' i h9; omega
        · rw [show p + i = d by omega]; omega
      · by_cases h9 : hg d + 1 ≤ h'
        · rcases hx' with hx' | ⟨i, hi, e⟩
          · exact Or.inl (by omega)
          · exact Or.inr ⟨i, by omega, by omega⟩
        · exact Or.inr ⟨d - p, by omega, by rw [show p + (d - p) = d by omega]; omega⟩
      · rw [hsm, e3, smS, show p + (d - p) = d by omega]
      · rw [hmx, e3, mxS, show p + (d - p) = d by omega]
        rfl
  · intro self H' R' W' sm mx ⟨hpd, ht, ho, hW, hR, ⟨h', hb', hh', hl', ha', hx'⟩, hsm, hmx⟩
    unfold fX3_trySpan_b10
    rw [if_pos (nI_lt (by omega) (by omega))]
    have hnn : q + 1 - p = n := by omega
    rw [hnn] at ht ha' hx' hsm hmx
    simp only [hnn] at hR
    have hspl : spl T p n = n := spl_eq (by omega) ht (fun h9 => by omega)
    have n1 : ocN f T V = n := by rw [oN, if_pos hspl]
    have fin : ∀ v : Int32, ocR f T V = some v → ∃ o, fX3_trySpan_j75 (nI f.1) (nI c) (nI p) (nI q) V H' R' W' kn (nI c) v = some o ∧ CP c f T hg V H R W kn h o := by
      intro v r1
      unfold fX3_trySpan_j75
      rw [c_settle hc, bd3_e]
      refine ⟨_, rfl, fun e he => ⟨un _ _ he, (ho e he).1, (ho e he).2, by show upd _ c _ e = _; rw [un _ _ he, hW]⟩, (fun v' hv => by rw [r1] at hv; cases hv; exact ⟨us _ _ _, us _ _ _, rfl⟩), (fun h9 => by rw [r1] at h9; cases h9), fun j hj => ?_, h', hh', hl', fun i hi _ => ?_, ?_⟩
      · rw [n1]
        show bt (R' c) j = _
        rw [hR j hj]
        congr 1
        apply decide_eq_decide.mpr
        constructor
        · rintro ⟨i, hi, e⟩; exact ⟨i, hi, by rw [oL]; exact e⟩
        · rintro ⟨i, hi, e⟩; exact ⟨i, hi, by rw [oL] at e; exact e⟩
      · rw [oL]; exact ha' i (by omega)
      · rcases hx' with hx' | ⟨i, hi, e⟩
        · exact Or.inl hx'
        · exact Or.inr ⟨i, by omega, by rw [oL]; exact ht i hi, by rw [oL]; exact e⟩
    rcases hK with h6 | h7
    · rw [if_pos (by rw [h6]; rfl)]
      exact fin sm (by rw [oR, if_pos hspl, if_pos h6, hsm])
    · rw [if_neg (by rw [h7]; decide)]
      exact fin mx (by rw [oR, if_pos hspl, if_neg (by omega), hmx])
  · refine ⟨Nat.le_refl _, fun i hi => by omega, fun e he => ⟨rfl, rfl⟩, rfl, fun j hj => ?_, ⟨h, by omega, hh, Nat.le_refl _, fun i hi => by omega, Or.inl rfl⟩, ?_, ?_⟩
    · rw [decide_eq_false (by rintro ⟨i, hi, _⟩; omega), Bool.or_false]
    · rw [Nat.sub_self]; rfl
    · rw [Nat.sub_self]; rfl
theorem f_part0 {parts : Nat → Int32} {c : Nat} (hc : c < 30) : fX1_part parts (nI c) 0 = some (parts (4 * c)) := f_part (k := 0) hc (by omega)
theorem f_part1 {parts : Nat → Int32} {c : Nat} (hc : c < 30) : fX1_part parts (nI c) 1 = some (parts (4 * c + 1)) := f_part (k := 1) hc (by omega)
theorem f_part2 {parts : Nat → Int32} {c : Nat} (hc : c < 30) : fX1_part parts (nI c) 2 = some (parts (4 * c + 2)) := f_part (k := 2) hc (by omega)
theorem f_part3 {parts : Nat → Int32} {c : Nat} (hc : c < 30) : fX1_part parts (nI c) 3 = some (parts (4 * c + 3)) := f_part (k := 3) hc (by omega)
theorem c_cell {F : Fo} {parts : Nat → Int32} {c : Nat} {T : Nat → Bool} {hg : Nat → Nat} {V H R W : Nat → Int32} {kn : Int32} {h : Nat} (hF : PC F parts) (hV : VFs F) (hc : c < 30) (hT : ∀ d, d < 30 → T d = bt kn d) (hTc : T c = false) (hH : ∀ d, d < 30 → T d = true → H d = nI (hg d) ∧ hg d < 1000) (hh : H c = nI h) (hh2 : h < 1000) : ∃ o, fX3_tryCell V H R W kn parts (nI c) = some o ∧ CP c (F c) T hg V H R W kn h o := by
  obtain ⟨p0, p1, p2, p3⟩ := hF c hc
  have hf := hV c hc
  have hV2 : ∀ d, d < 30 → T d = true → d ≠ c := fun d _ h e => by rw [e, hTc] at h; cases h
  unfold fX3_tryCell
  rw [f_part0 hc, bd1_e, f_part1 hc, bd1_e, p0, p1]
  generalize hfe : F c = f at *
  have hset : f.1 ≤ 1 → CP c f T hg V H R W kn h (upd V c (nI f.2.1), H, R, upd W c (-4), kn ||| bI c) := by
    intro h1
    have r1 : ocR f T V = some (nI f.2.1) := by unfold ocR; rw [if_pos h1]
    have n1 : ocN f T V = 0 := by unfold ocN; rw [if_pos h1]
    refine ⟨fun e he => ⟨un _ _ he, rfl, rfl, un _ _ he⟩, (fun v' hv => by rw [r1] at hv; cases hv; exact ⟨us _ _ _, us _ _ _, rfl⟩), (fun h9 => by rw [r1] at h9; cases h9), fun j hj => ?_, h, hh, Nat.le_refl _, fun i hi _ => by omega, Or.inl rfl⟩
    rw [n1, decide_eq_false (by rintro ⟨i, hi, _⟩; omega), Bool.or_false]
  have hmid : ∀ s, s < 30 → (if bt kn f.2.1 = true then (if bt kn s = true then some (upd V c (V s), upd (upd H c (mxI (H c) (H f.2.1 + 1))) c (mxI (upd H c (mxI (H c) (H f.2.1 + 1)) c) (upd H c (mxI (H c) (H f.2.1 + 1)) s + 1)), upd (upd R c (R c ||| bI f.2.1)) c (upd R c (R c ||| bI f.2.1) c ||| bI s), upd W c (-4), kn ||| bI c) else some (V, upd H c (mxI (H c) (H f.2.1 + 1)), upd (upd R c (R c ||| bI f.2.1)) c (upd R c (R c ||| bI f.2.1) c ||| bI s), upd W c (nI s), kn)) else some (V, H, upd R c (R c ||| bI f.2.1), upd W c (nI f.2.1), kn)) = some (twoC V H R W kn c f.2.1 s (V s)) := by
    intro s hs
    unfold twoC
    cases bt kn f.2.1 <;> cases bt kn s <;> rfl
  rcases hf with h1 | h1 | h1 | h1 | h1 | h1
  · rw [h1.1, if_pos (by decide), c_settle hc, bd3_e]
    exact ⟨_, rfl, hset (by omega)⟩
  · rw [h1.1, if_neg (by decide), if_pos (by decide), c_settle hc, bd3_e]
    exact ⟨_, rfl, hset (by omega)⟩
  · have hs : sec f V = f.2.2.1 := by unfold sec; rw [if_neg (by omega), if_neg (by omega)]
    have key := two_CP (V := V) (R := R) (W := W) hc (hfe ▸ hV c hc) (by omega) hT hTc hH hh hh2
    rw [hs] at key
    have e2 : fX1_part parts (nI c) 2 = some (nI f.2.2.1) := by rw [f_part2 hc, p2]
    have ee : (bd1 (fX1_part parts (nI c) 2) fun r171 => bd5 (fX3_tryTwo V H R W kn (nI f.1) (nI c) (nI f.2.1) r171) fun c174_values c174_heights c174_readBits c174_waitsFor c174_known => some (c174_values, c174_heights, c174_readBits, c174_waitsFor, c174_known)) = some (twoC V H R W kn c f.2.1 f.2.2.1 (val2 f.1 (V f.2.1) (V f.2.2.1))) := by
      rw [e2, bd1_e, c_two h1.1 hc h1.2.1 h1.2.2.1]
      rfl
    refine ⟨_, ?_, key⟩
    rcases h1.1 with h2 | h2 | h2
    · rw [h2] at ee ⊢
      rw [if_neg (by decide), if_neg (by decide), if_pos (by decide)]
      exact ee
    · rw [h2] at ee ⊢
      rw [if_neg (by decide), if_neg (by decide), if_neg (by decide), if_pos (by decide)]
      exact ee
    · rw [h2] at ee ⊢
      rw [if_neg (by decide), if_neg (by decide), if_neg (by decide), if_neg (by decide), if_pos (by decide)]
      exact ee
  · have hs : sec f V = pkN (V f.2.1) := by unfold sec; rw [if_pos (by omega)]
    have key := two_CP (V := V) (R := R) (W := W) hc (hfe ▸ hV c hc) (by omega) hT hTc hH hh hh2
    rw [hs] at key
    have hv2 : val2 f.1 (V f.2.1) (V (pkN (V f.2.1))) = V (pkN (V f.2.1)) := by unfold val2; rw [if_neg (by omega), if_neg (by omega), if_neg (by omega)]
    rw [hv2] at key
    refine ⟨_, ?_, key⟩
    rw [h1.1, if_neg (by decide), if_neg (by decide), if_neg (by decide), if_neg (by decide), if_neg (by decide), if_pos (by decide), ← hmid _ (pkN_lt _), c_takes hc h1.2.1]
    cases bt kn f.2.1
    · rfl
    · simp only [if_true]
      rw [bd4_e, if_neg (by decide), rdN h1.2.1 (by omega), f_floorMod, bd1_e, c_settleAs hc (pkN_lt _)]
      cases bt kn (pkN (V f.2.1)) <;> rfl
  · obtain ⟨o, ho, hCP⟩ := span_CP (V := V) (R := R) (W := W) hc (hfe ▸ hV c hc) h1.1 hT hTc hH hh hh2
    have e2 : fX1_part parts (nI c) 2 = some (nI f.2.2.1) := by rw [f_part2 hc, p2]
    have ee : (bd1 (fX1_part parts (nI c) 2) fun r154 => bd5 (fX3_trySpan V H R W kn (nI f.1) (nI c) (nI f.2.1) r154) fun c157_values c157_heights c157_readBits c157_waitsFor c157_known => some (c157_values, c157_heights, c157_readBits, c157_waitsFor, c157_known)) = some o := by
      rw [e2, bd1_e, ho]
      rfl
    refine ⟨o, ?_, hCP⟩
    rcases h1.1 with h2 | h2
    · rw [h2] at ee ⊢
      rw [if_neg (by decide), if_neg (by decide), if_neg (by decide), if_neg (by decide), if_neg (by decide), if_neg (by decide), if_pos (by decide)]
      exact ee
    · rw [h2] at ee ⊢
      rw [if_neg (by decide), if_neg (by decide), if_neg (by decide), if_neg (by decide), if_neg (by decide), if_neg (by decide), if_neg (by decide), if_pos (by decide)]
      exact ee
  · have key := two_CP (V := V) (R := R) (W := W) hc (hfe ▸ hV c hc) (by omega) hT hTc hH hh hh2
    have hv2 : val2 f.1 (V f.2.1) (V (sec f V)) = V (sec f V) := by unfold val2; rw [if_neg (by omega), if_neg (by omega), if_neg (by omega)]
    rw [hv2] at key
    have hs30 : sec f V < 30 := sec_lt (hfe ▸ hV c hc) (by omega) V
    refine ⟨_, ?_, key⟩
    have e2 : fX1_part parts (nI c) 2 = some (nI f.2.2.1) := by rw [f_part2 hc, p2]
    have e3 : fX1_part parts (nI c) 3 = some (nI f.2.2.2) := by rw [f_part3 hc, p3]
    rw [h1.1, if_neg (by decide), if_neg (by decide), if_neg (by decide), if_neg (by decide), if_neg (by decide), if_neg (by decide), if_neg (by decide), if_neg (by decide), if_pos (by decide), ← hmid _ hs30, c_takes hc h1.2.1]
    cases bt kn f.2.1
    · rfl
    · simp only [if_true]
      rw [bd4_e, if_neg (by decide), rdN h1.2.1 (by omega)]
      by_cases hle : V f.2.1 ≤ 0
      · have hs : sec f V = f.2.2.2 := by unfold sec; rw [if_neg (by omega), if_pos (by omega), if_pos hle]
        rw [if_pos hle, hs]
        unfold fX3_tryCell_j137
        rw [e3, bd1_e, c_settleAs hc h1.2.2.2]
        cases bt kn f.2.2.2 <;> rfl
      · have hs : sec f V = f.2.2.1 := by unfold sec; rw [if_neg (by omega), if_pos (by omega), if_neg hle]
        rw [if_neg hle, hs]
        unfold fX3_tryCell_j137
        rw [e2, bd1_e, c_settleAs hc h1.2.2.1]
        cases bt kn f.2.2.1 <;> rfl
