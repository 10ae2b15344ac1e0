/-! WHAT MAY BE TOLD: both sides allow the same -/
theorem c_NR {F : Fo} {parts : Nat → Int32} (hP : PC F parts) (hF : VFs F) (V H R W : Nat → Int32) (kn cc cs : Int32) : ∃ V' H' R' W' kn' cc' cs', fX3_reckon V H R W kn cc cs parts = some (V', H', R', W', kn', cc', cs') ∧ ∀ ad, NR F (ad, V', H', R', W', kn', cc', cs') := by
  refine c_reckon (Post := fun o => ∃ V' H' R' W' kn' cc' cs', o = some (V', H', R', W', kn', cc', cs') ∧ ∀ ad, NR F (ad, V', H', R', W', kn', cc', cs')) hP hF V H R W kn cc cs (fun V' H' R' W' kn' hR => ?_)
  obtain ⟨x, y, h1, h2, h3, h4⟩ := c_find (WB_fin hF) (WR_of hF hR) cc cs
  unfold fX3_reckon_j97
  rw [h1, bd2_e]
  exact ⟨_, _, _, _, _, _, _, rfl, fun ad => ⟨hR, h2, h3, h4⟩⟩
def opN (K : Nat) : Nat := if K = 0 then 0 else if K = 1 ∨ K = 5 then 1 else if K = 8 then 3 else 2
theorem c_ops : ∀ K, K < 9 → fX7_operandsOf (nI K) = some (nI (opN K)) := by decide +kernel
theorem m_ops : ∀ K, K < 9 → fX8_operandsOf (nI K) = some (nI (opN K)) := by decide +kernel
theorem cell_in (x : Int32) : (fX7_isCell x = some 0 ∧ fX8_isCell x = some 0 ∧ fX8_in x.toInt64 0 29 = some 0 ∧ (x.toInt < 0 ∨ 30 ≤ x.toInt)) ∨ ∃ c, c < 30 ∧ x = nI c ∧ fX7_isCell x = some 1 ∧ fX8_isCell x = some 1 ∧ fX8_in x.toInt64 0 29 = some 1 := by
  have hi : fX8_in x.toInt64 0 29 = some (if 0 ≤ x.toInt ∧ x.toInt ≤ 29 then 1 else 0) := by rw [f_in, to64]; rfl
  rcases cell_cs x with ⟨h1, h2⟩ | ⟨c, hc, rfl, h1, h2⟩
  · refine Or.inl ⟨h1, h2, ?_⟩
    rw [hi]
    rcases ix30 x with h | ⟨c, hc, rfl⟩
    · exact ⟨by rw [if_neg (by omega)], h⟩
    · rw [f_isCellN hc] at h1
      exact absurd h1 (by decide)
  · refine Or.inr ⟨c, hc, rfl, h1, h2, ?_⟩
    rw [hi, nI_toInt (by omega), if_pos (by omega)]
/-- what one tells: allowed by both, or by none -/
def AF (c : Nat) (f : Fq) (p1 p2 p3 p4 p5 : Int32) : Prop := c < 30 ∧ VF f ∧ p1 = nI c ∧ p2 = nI f.1 ∧ (1 ≤ opN f.1 → p3 = nI f.2.1) ∧ (2 ≤ opN f.1 → p4 = nI f.2.2.1) ∧ (3 ≤ opN f.1 → p5 = nI f.2.2.2) ∧ (opN f.1 < 1 → f.2.1 = 0) ∧ (opN f.1 < 2 → f.2.2.1 = 0) ∧ (opN f.1 < 3 → f.2.2.2 = 0)
theorem cfit_1 (p q r : Int32) : fX0_operandsFit (nI 1) p q r = if p < 0 then some 0 else if 999 < p then some 0 else some 1 := by
  unfold fX0_operandsFit
  rw [if_pos (show nI 1 = 1 from rfl)]
theorem cfit_0 (p q r : Int32) : fX0_operandsFit (nI 0) p q r = some 1 := by
  unfold fX0_operandsFit fX0_operandsFit_j54 fX0_operandsFit_j69 fX0_operandsFit_j84 fX0_operandsFit_j89
  rw [if_neg (show ¬ nI 0 = 1 by decide), c_ops 0 (by omega), bd1_e, if_pos (show nI (opN 0) < 1 by decide), if_pos (show nI (opN 0) < 2 by decide), if_pos (show nI (opN 0) < 3 by decide), if_neg (show ¬ (1 : Int32) = 0 by decide), f_isSpan (k := 0) (by omega), bd1_e]
  rfl
theorem cfit_5 (p q r : Int32) : fX0_operandsFit (nI 5) p q r = bd1 (fX7_isCell p) fun x => if x = 0 then some 0 else some 1 := by
  unfold fX0_operandsFit fX0_operandsFit_j54 fX0_operandsFit_j69 fX0_operandsFit_j84 fX0_operandsFit_j88 fX0_operandsFit_j89
  rw [if_neg (show ¬ nI 5 = 1 by decide), c_ops 5 (by omega), bd1_e, if_neg (show ¬ nI (opN 5) < 1 by decide), if_pos (show nI (opN 5) < 2 by decide), if_pos (show nI (opN 5) < 3 by decide), if_neg (show ¬ (1 : Int32) = 0 by decide), if_pos (show (0 : Int32) = 0 from rfl), f_isSpan (k := 5) (by omega), bd1_e]
  rfl
theorem cfit_2 (p q r : Int32) : fX0_operandsFit (nI 2) p q r = bd1 (fX7_isCell p) fun x => if x = 0 then some 0 else bd1 (fX7_isCell q) fun x => if x = 0 then some 0 else some 1 := by
  unfold fX0_operandsFit fX0_operandsFit_j54 fX0_operandsFit_j69 fX0_operandsFit_j84 fX0_operandsFit_j88 fX0_operandsFit_j89
  rw [if_neg (show ¬ nI 2 = 1 by decide), c_ops 2 (by omega), bd1_e, if_neg (show ¬ nI (opN 2) < 1 by decide), if_neg (show ¬ nI (opN 2) < 2 by decide), if_pos (show nI (opN 2) < 3 by decide), if_neg (show ¬ (1 : Int32) = 0 by decide), if_pos (show (0 : Int32) = 0 from rfl), f_isSpan (k := 2) (by omega), bd1_e]
  rfl
theorem cfit_3 (p q r : Int32) : fX0_operandsFit (nI 3) p q r = bd1 (fX7_isCell p) fun x => if x = 0 then some 0 else bd1 (fX7_isCell q) fun x => if x = 0 then some 0 else some 1 := by
  unfold fX0_operandsFit fX0_operandsFit_j54 fX0_operandsFit_j69 fX0_operandsFit_j84 fX0_operandsFit_j88 fX0_operandsFit_j89
  rw [if_neg (show ¬ nI 3 = 1 by decide), c_ops 3 (by omega), bd1_e, if_neg (show ¬ nI (opN 3) < 1 by decide), if_neg (show ¬ nI (opN 3) < 2 by decide), if_pos (show nI (opN 3) < 3 by decide), if_neg (show ¬ (1 : Int32) = 0 by decide), if_pos (show (0 : Int32) = 0 from rfl), f_isSpan (k := 3) (by omega), bd1_e]
  rfl
theorem cfit_4 (p q r : Int32) : fX0_operandsFit (nI 4) p q r = bd1 (fX7_isCell p) fun x => if x = 0 then some 0 else bd1 (fX7_isCell q) fun x => if x = 0 then some 0 else some 1 := by
  unfold fX0_operandsFit fX0_operandsFit_j54 fX0_operandsFit_j69 fX0_operandsFit_j84 fX0_operandsFit_j88 fX0_operandsFit_j89
  rw [if_neg (show ¬ nI 4 = 1 by decide), c_ops 4 (by omega), bd1_e, if_neg (show ¬ nI (opN 4) < 1 by decide), if_neg (show ¬ nI (opN 4) < 2 by decide), if_pos (show nI (opN 4) < 3 by decide), if_neg (show ¬ (1 : Int32) = 0 by decide), if_pos (show (0 : Int32) = 0 from rfl), f_isSpan (k := 4) (by omega), bd1_e]
  rfl
theorem cfit_6 (p q r : Int32) : fX0_operandsFit (nI 6) p q r = bd1 (fX7_isCell p) fun x => if x = 0 then some 0 else bd1 (fX7_isCell q) fun x => if x = 0 then some 0 else if q < p then some 0 else some 1 := by
  unfold fX0_operandsFit fX0_operandsFit_j54 fX0_operandsFit_j69 fX0_operandsFit_j84 fX0_operandsFit_j88 fX0_operandsFit_j89
  rw [if_neg (show ¬ nI 6 = 1 by decide), c_ops 6 (by omega), bd1_e, if_neg (show ¬ nI (opN 6) < 1 by decide), if_neg (show ¬ nI (opN 6) < 2 by decide), if_pos (show nI (opN 6) < 3 by decide), if_neg (show ¬ (1 : Int32) = 0 by decide), if_pos (show (0 : Int32) = 0 from rfl), f_isSpan (k := 6) (by omega), bd1_e]
  rfl
theorem cfit_7 (p q r : Int32) : fX0_operandsFit (nI 7) p q r = bd1 (fX7_isCell p) fun x => if x = 0 then some 0 else bd1 (fX7_isCell q) fun x => if x = 0 then some 0 else if q < p then some 0 else some 1 := by
  unfold fX0_operandsFit fX0_operandsFit_j54 fX0_operandsFit_j69 fX0_operandsFit_j84 fX0_operandsFit_j88 fX0_operandsFit_j89
  rw [if_neg (show ¬ nI 7 = 1 by decide), c_ops 7 (by omega), bd1_e, if_neg (show ¬ nI (opN 7) < 1 by decide), if_neg (show ¬ nI (opN 7) < 2 by decide), if_pos (show nI (opN 7) < 3 by decide), if_neg (show ¬ (1 : Int32) = 0 by decide), if_pos (show (0 : Int32) = 0 from rfl), f_isSpan (k := 7) (by omega), bd1_e]
  rfl
theorem cfit_8 (p q r : Int32) : fX0_operandsFit (nI 8) p q r = bd1 (fX7_isCell p) fun x => if x = 0 then some 0 else bd1 (fX7_isCell q) fun x => if x = 0 then some 0 else bd1 (fX7_isCell r) fun x => if x = 0 then some 0 else some 1 := by
  unfold fX0_operandsFit fX0_operandsFit_j54 fX0_operandsFit_j69 fX0_operandsFit_j84 fX0_operandsFit_j88 fX0_operandsFit_j89
  rw [if_neg (show ¬ nI 8 = 1 by decide), c_ops 8 (by omega), bd1_e, if_neg (show ¬ nI (opN 8) < 1 by decide), if_neg (show ¬ nI (opN 8) < 2 by decide), if_neg (show ¬ nI (opN 8) < 3 by decide), if_neg (show ¬ (1 : Int32) = 0 by decide), if_pos (show (0 : Int32) = 0 from rfl), f_isSpan (k := 8) (by omega), bd1_e]
  rfl
theorem mfit_0 (c p q r : Int32) (hc : fX8_isCell c = some 1) : fX8_isFormula c (nI 0) p q r = some 1 := by
  unfold fX8_isFormula fX8_isFormula_j39 fX8_isFormula_j44 fX8_isFormula_j69 fX8_isFormula_j75 fX8_isFormula_j94 fX8_isFormula_j103
  rw [hc, bd1_e, if_neg (show ¬ (1 : Int32) = 0 by decide), show fX8_in ((nI 0).toInt64) 0 8 = some 1 by decide +kernel, bd1_e, if_neg (show ¬ (1 : Int32) = 0 by decide), m_ops 0 (by omega), bd1_e, if_neg (show ¬ nI 0 = 6 by decide), if_neg (show ¬ nI 0 = 7 by decide), if_pos (show nI (opN 0) < 1 by decide), if_pos (show nI (opN 0) < 2 by decide), if_pos (show nI (opN 0) < 3 by decide)]
theorem mfit_1 (c p q r : Int32) (hc : fX8_isCell c = some 1) : fX8_isFormula c (nI 1) p q r = bd1 (fX8_in p.toInt64 0 999) fun x => if x = 0 then some 0 else some 1 := by
  unfold fX8_isFormula fX8_isFormula_j39 fX8_isFormula_j44 fX8_isFormula_j69 fX8_isFormula_j75 fX8_isFormula_j94 fX8_isFormula_j103
  rw [hc, bd1_e, if_neg (show ¬ (1 : Int32) = 0 by decide), show fX8_in ((nI 1).toInt64) 0 8 = some 1 by decide +kernel, bd1_e, if_neg (show ¬ (1 : Int32) = 0 by decide), m_ops 1 (by omega), bd1_e, if_neg (show ¬ nI 1 = 6 by decide), if_neg (show ¬ nI 1 = 7 by decide), if_neg (show ¬ nI (opN 1) < 1 by decide), if_pos (show nI 1 = 1 from rfl), if_pos (show nI (opN 1) < 2 by decide), if_pos (show nI (opN 1) < 3 by decide)]
theorem mfit_2 (c p q r : Int32) (hc : fX8_isCell c = some 1) : fX8_isFormula c (nI 2) p q r = bd1 (fX8_in p.toInt64 0 29) fun x => if x = 0 then some 0 else bd1 (fX8_in q.toInt64 0 29) fun x => if x = 0 then some 0 else some 1 := by
  unfold fX8_isFormula fX8_isFormula_j39 fX8_isFormula_j44 fX8_isFormula_j69 fX8_isFormula_j75 fX8_isFormula_j94 fX8_isFormula_j103
  rw [hc, bd1_e, if_neg (show ¬ (1 : Int32) = 0 by decide), show fX8_in ((nI 2).toInt64) 0 8 = some 1 by decide +kernel, bd1_e, if_neg (show ¬ (1 : Int32) = 0 by decide), m_ops 2 (by omega), bd1_e, if_neg (show ¬ nI 2 = 6 by decide), if_neg (show ¬ nI 2 = 7 by decide), if_neg (show ¬ nI (opN 2) < 1 by decide), if_neg (show ¬ nI 2 = 1 by decide), if_neg (show ¬ nI (opN 2) < 2 by decide), if_pos (show (0 : Int32) = 0 from rfl), if_pos (show nI (opN 2) < 3 by decide)]
theorem mfit_3 (c p q r : Int32) (hc : fX8_isCell c = some 1) : fX8_isFormula c (nI 3) p q r = bd1 (fX8_in p.toInt64 0 29) fun x => if x = 0 then some 0 else bd1 (fX8_in q.toInt64 0 29) fun x => if x = 0 then some 0 else some 1 := by
  unfold fX8_isFormula fX8_isFormula_j39 fX8_isFormula_j44 fX8_isFormula_j69 fX8_isFormula_j75 fX8_isFormula_j94 fX8_isFormula_j103
  rw [hc, bd1_e, if_neg (show ¬ (1 : Int32) = 0 by decide), show fX8_in ((nI 3).toInt64) 0 8 = some 1 by decide +kernel, bd1_e, if_neg (show ¬ (1 : Int32) = 0 by decide), m_ops 3 (by omega), bd1_e, if_neg (show ¬ nI 3 = 6 by decide), if_neg (show ¬ nI 3 = 7 by decide), if_neg (show ¬ nI (opN 3) < 1 by decide), if_neg (show ¬ nI 3 = 1 by decide), if_neg (show ¬ nI (opN 3) < 2 by decide), if_pos (show (0 : Int32) = 0 from rfl), if_pos (show nI (opN 3) < 3 by decide)]
theorem mfit_4 (c p q r : Int32) (hc : fX8_isCell c = some 1) : fX8_isFormula c (nI 4) p q r = bd1 (fX8_in p.toInt64 0 29) fun x => if x = 0 then some 0 else bd1 (fX8_in q.toInt64 0 29) fun x => if x = 0 then some 0 else some 1 := by
  unfold fX8_isFormula fX8_isFormula_j39 fX8_isFormula_j44 fX8_isFormula_j69 fX8_isFormula_j75 fX8_isFormula_j94 fX8_isFormula_j103
  rw [hc, bd1_e, if_neg (show ¬ (1 : Int32) = 0 by decide), show fX8_in ((nI 4).toInt64) 0 8 = some 1 by decide +kernel, bd1_e, if_neg (show ¬ (1 : Int32) = 0 by decide), m_ops 4 (by omega), bd1_e, if_neg (show ¬ nI 4 = 6 by decide), if_neg (show ¬ nI 4 = 7 by decide), if_neg (show ¬ nI (opN 4) < 1 by decide), if_neg (show ¬ nI 4 = 1 by decide), if_neg (show ¬ nI (opN 4) < 2 by decide), if_pos (show (0 : Int32) = 0 from rfl), if_pos (show nI (opN 4) < 3 by decide)]
theorem mfit_5 (c p q r : Int32) (hc : fX8_isCell c = some 1) : fX8_isFormula c (nI 5) p q r = bd1 (fX8_in p.toInt64 0 29) fun x => if x = 0 then some 0 else some 1 := by
  unfold fX8_isFormula fX8_isFormula_j39 fX8_isFormula_j44 fX8_isFormula_j69 fX8_isFormula_j75 fX8_isFormula_j94 fX8_isFormula_j103
  rw [hc, bd1_e, if_neg (show ¬ (1 : Int32) = 0 by decide), show fX8_in ((nI 5).toInt64) 0 8 = some 1 by decide +kernel, bd1_e, if_neg (show ¬ (1 : Int32) = 0 by decide), m_ops 5 (by omega), bd1_e, if_neg (show ¬ nI 5 = 6 by decide), if_neg (show ¬ nI 5 = 7 by decide), if_neg (show ¬ nI (opN 5) < 1 by decide), if_neg (show ¬ nI 5 = 1 by decide), if_pos (show nI (opN 5) < 2 by decide), if_pos (show nI (opN 5) < 3 by decide)]
theorem mfit_6 (c p q r : Int32) (hc : fX8_isCell c = some 1) : fX8_isFormula c (nI 6) p q r = bd1 (fX8_in p.toInt64 0 29) fun x => if x = 0 then some 0 else bd1 (fX8_in q.toInt64 p.toInt64 29) fun x => if x = 0 then some 0 else some 1 := by
  unfold fX8_isFormula fX8_isFormula_j39 fX8_isFormula_j44 fX8_isFormula_j69 fX8_isFormula_j75 fX8_isFormula_j94 fX8_isFormula_j103
  rw [hc, bd1_e, if_neg (show ¬ (1 : Int32) = 0 by decide), show fX8_in ((nI 6).toInt64) 0 8 = some 1 by decide +kernel, bd1_e, if_neg (show ¬ (1 : Int32) = 0 by decide), m_ops 6 (by omega), bd1_e, if_pos (show nI 6 = 6 from rfl), if_neg (show ¬ nI (opN 6) < 1 by decide), if_neg (show ¬ nI 6 = 1 by decide), if_neg (show ¬ nI (opN 6) < 2 by decide), if_neg (show ¬ (1 : Int32) = 0 by decide), if_pos (show nI (opN 6) < 3 by decide)]
theorem mfit_7 (c p q r : Int32) (hc : fX8_isCell c = some 1) : fX8_isFormula c (nI 7) p q r = bd1 (fX8_in p.toInt64 0 29) fun x => if x = 0 then some 0 else bd1 (fX8_in q.toInt64 p.toInt64 29) fun x => if x = 0 then some 0 else some 1 := by
  unfold fX8_isFormula fX8_isFormula_j39 fX8_isFormula_j44 fX8_isFormula_j69 fX8_isFormula_j75 fX8_isFormula_j94 fX8_isFormula_j103
  rw [hc, bd1_e, if_neg (show ¬ (1 : Int32) = 0 by decide), show fX8_in ((nI 7).toInt64) 0 8 = some 1 by decide +kernel, bd1_e, if_neg (show ¬ (1 : Int32) = 0 by decide), m_ops 7 (by omega), bd1_e, if_neg (show ¬ nI 7 = 6 by decide), if_pos (show nI 7 = 7 from rfl), if_neg (show ¬ nI (opN 7) < 1 by decide), if_neg (show ¬ nI 7 = 1 by decide), if_neg (show ¬ nI (opN 7) < 2 by decide), if_neg (show ¬ (1 : Int32) = 0 by decide), if_pos (show nI (opN 7) < 3 by decide)]
theorem mfit_8 (c p q r : Int32) (hc : fX8_isCell c = some 1) : fX8_isFormula c (nI 8) p q r = bd1 (fX8_in p.toInt64 0 29) fun x => if x = 0 then some 0 else bd1 (fX8_in q.toInt64 0 29) fun x => if x = 0 then some 0 else bd1 (fX8_isCell r) fun x => if x = 0 then some 0 else some 1 := by
  unfold fX8_isFormula fX8_isFormula_j39 fX8_isFormula_j44 fX8_isFormula_j69 fX8_isFormula_j75 fX8_isFormula_j94 fX8_isFormula_j103
  rw [hc, bd1_e, if_neg (show ¬ (1 : Int32) = 0 by decide), show fX8_in ((nI 8).toInt64) 0 8 = some 1 by decide +kernel, bd1_e, if_neg (show ¬ (1 : Int32) = 0 by decide), m_ops 8 (by omega), bd1_e, if_neg (show ¬ nI 8 = 6 by decide), if_neg (show ¬ nI 8 = 7 by decide), if_neg (show ¬ nI (opN 8) < 1 by decide), if_neg (show ¬ nI 8 = 1 by decide), if_neg (show ¬ nI (opN 8) < 2 by decide), if_pos (show (0 : Int32) = 0 from rfl), if_neg (show ¬ nI (opN 8) < 3 by decide)]
