/-! ALLOWED BY BOTH, OR BY NONE; the formula that is taken -/
theorem kind_cs (x : Int32) : ((x < 0 ∨ (¬ x < 0 ∧ (9 : Int32) ≤ x)) ∧ fX8_in x.toInt64 0 8 = some 0) ∨ ∃ K, K < 9 ∧ x = nI K := by
  have hi : fX8_in x.toInt64 0 8 = some (if 0 ≤ x.toInt ∧ x.toInt ≤ 8 then 1 else 0) := by rw [f_in, to64]; rfl
  have h0 : (0 : Int32).toInt = 0 := rfl
  have h9 : (9 : Int32).toInt = 9 := rfl
  have hr := toInt_rg x
  by_cases a : x.toInt < 0
  · refine Or.inl ⟨Or.inl (Int32.lt_iff_toInt_lt.mpr (by omega)), by rw [hi, if_neg (by omega)]⟩
  · by_cases b : 9 ≤ x.toInt
    · refine Or.inl ⟨Or.inr ⟨fun z => ?_, Int32.le_iff_toInt_le.mpr (by omega)⟩, by rw [hi, if_neg (by omega)]⟩
      have := Int32.lt_iff_toInt_lt.mp z
      omega
    · refine Or.inr ⟨x.toInt.toNat, by omega, Int32.toInt_inj.mp ?_⟩
      rw [nI_toInt (by omega)]
      omega
theorem callow {c K : Nat} (hc : fX7_isCell (nI c) = some 1) (hK : K < 9) (p q r : Int32) : fX0_isAllowed (nI c) (nI K) p q r = bd1 (fX0_operandsFit (nI K) p q r) fun x => if x = 0 then some 0 else some 1 := by
  unfold fX0_isAllowed
  rw [hc, bd1_e, if_neg (show ¬ (1 : Int32) = 0 by decide), if_neg (show ¬ nI K < 0 from nI_nlt (b := 0) (Nat.zero_le _) (by omega)), if_neg (show ¬ (9 : Int32) ≤ nI K from nI_ge (b := 9) hK (by omega))]
def AL2 (p1 p2 p3 p4 p5 : Int32) : Prop := (fX0_isAllowed p1 p2 p3 p4 p5 = some 0 ∧ fX8_isFormula p1 p2 p3 p4 p5 = some 0) ∨ ∃ c f, AF c f p1 p2 p3 p4 p5 ∧ fX0_isAllowed p1 p2 p3 p4 p5 = some 1 ∧ fX8_isFormula p1 p2 p3 p4 p5 = some 1
theorem allow_0 {c : Nat} (hc : c < 30) (e1 : fX7_isCell (nI c) = some 1) (e2 : fX8_isCell (nI c) = some 1) (p3 p4 p5 : Int32) : AL2 (nI c) (nI 0) p3 p4 p5 := by
  have hA := callow e1 (show 0 < 9 by omega) p3 p4 p5
  have hB := mfit_0 (nI c) p3 p4 p5 e2
  rw [cfit_0] at hA
  refine Or.inr ⟨c, (0, 0, 0, 0), ⟨hc, Or.inl ⟨rfl, rfl, rfl, rfl⟩, rfl, rfl, fun h => absurd h (show ¬ 1 ≤ opN 0 by decide), fun h => absurd h (show ¬ 2 ≤ opN 0 by decide), fun h => absurd h (show ¬ 3 ≤ opN 0 by decide), fun _ => rfl, fun _ => rfl, fun _ => rfl⟩, ?_, ?_⟩
  · rw [hA, bd1_e, if_neg (show ¬ (1 : Int32) = 0 by decide)]
  · exact hB
theorem allow_1 {c : Nat} (hc : c < 30) (e1 : fX7_isCell (nI c) = some 1) (e2 : fX8_isCell (nI c) = some 1) (p3 p4 p5 : Int32) : AL2 (nI c) (nI 1) p3 p4 p5 := by
  have hA := callow e1 (show 1 < 9 by omega) p3 p4 p5
  have hB := mfit_1 (nI c) p3 p4 p5 e2
  rw [cfit_1] at hA
  have hi : fX8_in p3.toInt64 0 999 = some (if 0 ≤ p3.toInt ∧ p3.toInt ≤ 999 then 1 else 0) := by rw [f_in, to64]; rfl
  have h0 : (0 : Int32).toInt = 0 := rfl
  have h9 : (999 : Int32).toInt = 999 := rfl
  have hr := toInt_rg p3
  rw [hi] at hB
  by_cases a : p3.toInt < 0
  · rw [if_pos (Int32.lt_iff_toInt_lt.mpr (by omega)), bd1_e, if_pos (show (0 : Int32) = 0 from rfl)] at hA
    rw [if_neg (by omega), bd1_e, if_pos (show (0 : Int32) = 0 from rfl)] at hB
    exact Or.inl ⟨hA, hB⟩
  rw [if_neg (fun z => by have := Int32.lt_iff_toInt_lt.mp z; omega)] at hA
  by_cases b : 999 < p3.toInt
  · rw [if_pos (Int32.lt_iff_toInt_lt.mpr (by omega)), bd1_e, if_pos (show (0 : Int32) = 0 from rfl)] at hA
    rw [if_neg (by omega), bd1_e, if_pos (show (0 : Int32) = 0 from rfl)] at hB
    exact Or.inl ⟨hA, hB⟩
  rw [if_neg (fun z => by have := Int32.lt_iff_toInt_lt.mp z; omega), bd1_e, if_neg (show ¬ (1 : Int32) = 0 by decide)] at hA
  rw [if_pos (by omega), bd1_e, if_neg (show ¬ (1 : Int32) = 0 by decide)] at hB
  obtain ⟨p, hp, rfl⟩ : ∃ p : Nat, p ≤ 999 ∧ p3 = nI p := ⟨p3.toInt.toNat, by omega, Int32.toInt_inj.mp (by rw [nI_toInt (by omega)]; omega)⟩
  refine Or.inr ⟨c, (1, p, 0, 0), ⟨hc, Or.inr (Or.inl ⟨rfl, hp, rfl, rfl⟩), rfl, rfl, fun _ => rfl, fun h => absurd h (show ¬ 2 ≤ opN 1 by decide), fun h => absurd h (show ¬ 3 ≤ opN 1 by decide), fun h => absurd h (show ¬ opN 1 < 1 by decide), fun _ => rfl, fun _ => rfl⟩, ?_, ?_⟩
  · exact hA
  · exact hB
theorem allow_2 {c : Nat} (hc : c < 30) (e1 : fX7_isCell (nI c) = some 1) (e2 : fX8_isCell (nI c) = some 1) (p3 p4 p5 : Int32) : AL2 (nI c) (nI 2) p3 p4 p5 := by
  have hA := callow e1 (show 2 < 9 by omega) p3 p4 p5
  have hB := mfit_2 (nI c) p3 p4 p5 e2
  rw [cfit_2] at hA
  rcases cell_in p3 with ⟨a1, a2, a3, a4⟩ | ⟨p, hp, rfl, a1, a2, a3⟩
  · rw [a1, bd1_e, if_pos (show (0 : Int32) = 0 from rfl), bd1_e, if_pos (show (0 : Int32) = 0 from rfl)] at hA
    rw [a3, bd1_e, if_pos (show (0 : Int32) = 0 from rfl)] at hB
    exact Or.inl ⟨hA, hB⟩
  rw [a1, bd1_e, if_neg (show ¬ (1 : Int32) = 0 by decide)] at hA
  rw [a3, bd1_e, if_neg (show ¬ (1 : Int32) = 0 by decide)] at hB
  rcases cell_in p4 with ⟨b1, b2, b3, b4⟩ | ⟨q, hq, rfl, b1, b2, b3⟩
  · rw [b1, bd1_e, if_pos (show (0 : Int32) = 0 from rfl), bd1_e, if_pos (show (0 : Int32) = 0 from rfl)] at hA
    rw [b3, bd1_e, if_pos (show (0 : Int32) = 0 from rfl)] at hB
    exact Or.inl ⟨hA, hB⟩
  rw [b1, bd1_e, if_neg (show ¬ (1 : Int32) = 0 by decide)] at hA
  rw [b3, bd1_e, if_neg (show ¬ (1 : Int32) = 0 by decide)] at hB
  rw [bd1_e, if_neg (show ¬ (1 : Int32) = 0 by decide)] at hA
  refine Or.inr ⟨c, (2, p, q, 0), ⟨hc, Or.inr (Or.inr (Or.inl ⟨Or.inl rfl, hp, hq, rfl⟩)), rfl, rfl, fun _ => rfl, fun _ => rfl, fun h => absurd h (show ¬ 3 ≤ opN 2 by decide), fun h => absurd h (show ¬ opN 2 < 1 by decide), fun h => absurd h (show ¬ opN 2 < 2 by decide), fun _ => rfl⟩, ?_, ?_⟩
  · exact hA
  · exact hB
theorem allow_3 {c : Nat} (hc : c < 30) (e1 : fX7_isCell (nI c) = some 1) (e2 : fX8_isCell (nI c) = some 1) (p3 p4 p5 : Int32) : AL2 (nI c) (nI 3) p3 p4 p5 := by
  have hA := callow e1 (show 3 < 9 by omega) p3 p4 p5
  have hB := mfit_3 (nI c) p3 p4 p5 e2
  rw [cfit_3] at hA
  rcases cell_in p3 with ⟨a1, a2, a3, a4⟩ | ⟨p, hp, rfl, a1, a2, a3⟩
  · rw [a1, bd1_e, if_pos (show (0 : Int32) = 0 from rfl), bd1_e, if_pos (show (0 : Int32) = 0 from rfl)] at hA
    rw [a3, bd1_e, if_pos (show (0 : Int32) = 0 from rfl)] at hB
    exact Or.inl ⟨hA, hB⟩
  rw [a1, bd1_e, if_neg (show ¬ (1 : Int32) = 0 by decide)] at hA
  rw [a3, bd1_e, if_neg (show ¬ (1 : Int32) = 0 by decide)] at hB
  rcases cell_in p4 with ⟨b1, b2, b3, b4⟩ | ⟨q, hq, rfl, b1, b2, b3⟩
  · rw [b1, bd1_e, if_pos (show (0 : Int32) = 0 from rfl), bd1_e, if_pos (show (0 : Int32) = 0 from rfl)] at hA
    rw [b3, bd1_e, if_pos (show (0 : Int32) = 0 from rfl)] at hB
    exact Or.inl ⟨hA, hB⟩
  rw [b1, bd1_e, if_neg (show ¬ (1 : Int32) = 0 by decide)] at hA
  rw [b3, bd1_e, if_neg (show ¬ (1 : Int32) = 0 by decide)] at hB
  rw [bd1_e, if_neg (show ¬ (1 : Int32) = 0 by decide)] at hA
  refine Or.inr ⟨c, (3, p, q, 0), ⟨hc, Or.inr (Or.inr (Or.inl ⟨Or.inr (Or.inl rfl), hp, hq, rfl⟩)), rfl, rfl, fun _ => rfl, fun _ => rfl, fun h => absurd h (show ¬ 3 ≤ opN 3 by decide), fun h => absurd h (show ¬ opN 3 < 1 by decide), fun h => absurd h (show ¬ opN 3 < 2 by decide), fun _ => rfl⟩, ?_, ?_⟩
  · exact hA
  · exact hB
theorem allow_4 {c : Nat} (hc : c < 30) (e1 : fX7_isCell (nI c) = some 1) (e2 : fX8_isCell (nI c) = some 1) (p3 p4 p5 : Int32) : AL2 (nI c) (nI 4) p3 p4 p5 := by
  have hA := callow e1 (show 4 < 9 by omega) p3 p4 p5
  have hB := mfit_4 (nI c) p3 p4 p5 e2
  rw [cfit_4] at hA
  rcases cell_in p3 with ⟨a1, a2, a3, a4⟩ | ⟨p, hp, rfl, a1, a2, a3⟩
  · rw [a1, bd1_e, if_pos (show (0 : Int32) = 0 from rfl), bd1_e, if_pos (show (0 : Int32) = 0 from rfl)] at hA
    rw [a3, bd1_e, if_pos (show (0 : Int32) = 0 from rfl)] at hB
    exact Or.inl ⟨hA, hB⟩
  rw [a1, bd1_e, if_neg (show ¬ (1 : Int32) = 0 by decide)] at hA
  rw [a3, bd1_e, if_neg (show ¬ (1 : Int32) = 0 by decide)] at hB
  rcases cell_in p4 with ⟨b1, b2, b3, b4⟩ | ⟨q, hq, rfl, b1, b2, b3⟩
  · rw [b1, bd1_e, if_pos (show (0 : Int32) = 0 from rfl), bd1_e, if_pos (show (0 : Int32) = 0 from rfl)] at hA
    rw [b3, bd1_e, if_pos (show (0 : Int32) = 0 from rfl)] at hB
    exact Or.inl ⟨hA, hB⟩
  rw [b1, bd1_e, if_neg (show ¬ (1 : Int32) = 0 by decide)] at hA
  rw [b3, bd1_e, if_neg (show ¬ (1 : Int32) = 0 by decide)] at hB
  rw [bd1_e, if_neg (show ¬ (1 : Int32) = 0 by decide)] at hA
  refine Or.inr ⟨c, (4, p, q, 0), ⟨hc, Or.inr (Or.inr (Or.inl ⟨Or.inr (Or.inr rfl), hp, hq, rfl⟩)), rfl, rfl, fun _ => rfl, fun _ => rfl, fun h => absurd h (show ¬ 3 ≤ opN 4 by decide), fun h => absurd h (show ¬ opN 4 < 1 by decide), fun h => absurd h (show ¬ opN 4 < 2 by decide), fun _ => rfl⟩, ?_, ?_⟩
  · exact hA
  · exact hB
theorem allow_5 {c : Nat} (hc : c < 30) (e1 : fX7_isCell (nI c) = some 1) (e2 : fX8_isCell (nI c) = some 1) (p3 p4 p5 : Int32) : AL2 (nI c) (nI 5) p3 p4 p5 := by
  have hA := callow e1 (show 5 < 9 by omega) p3 p4 p5
  have hB := mfit_5 (nI c) p3 p4 p5 e2
  rw [cfit_5] at hA
  rcases cell_in p3 with ⟨a1, a2, a3, a4⟩ | ⟨p, hp, rfl, a1, a2, a3⟩
  · rw [a1, bd1_e, if_pos (show (0 : Int32) = 0 from rfl), bd1_e, if_pos (show (0 : Int32) = 0 from rfl)] at hA
    rw [a3, bd1_e, if_pos (show (0 : Int32) = 0 from rfl)] at hB
    exact Or.inl ⟨hA, hB⟩
  rw [a1, bd1_e, if_neg (show ¬ (1 : Int32) = 0 by decide)] at hA
  rw [a3, bd1_e, if_neg (show ¬ (1 : Int32) = 0 by decide)] at hB
  rw [bd1_e, if_neg (show ¬ (1 : Int32) = 0 by decide)] at hA
  refine Or.inr ⟨c, (5, p, 0, 0), ⟨hc, Or.inr (Or.inr (Or.inr (Or.inl ⟨rfl, hp, rfl, rfl⟩))), rfl, rfl, fun _ => rfl, fun h => absurd h (show ¬ 2 ≤ opN 5 by decide), fun h => absurd h (show ¬ 3 ≤ opN 5 by decide), fun h => absurd h (show ¬ opN 5 < 1 by decide), fun _ => rfl, fun _ => rfl⟩, ?_, ?_⟩
  · exact hA
  · exact hB
theorem allow_6 {c : Nat} (hc : c < 30) (e1 : fX7_isCell (nI c) = some 1) (e2 : fX8_isCell (nI c) = some 1) (p3 p4 p5 : Int32) : AL2 (nI c) (nI 6) p3 p4 p5 := by
  have hA := callow e1 (show 6 < 9 by omega) p3 p4 p5
  have hB := mfit_6 (nI c) p3 p4 p5 e2
  rw [cfit_6] at hA
  rcases cell_in p3 with ⟨a1, a2, a3, a4⟩ | ⟨p, hp, rfl, a1, a2, a3⟩
  · rw [a1, bd1_e, if_pos (show (0 : Int32) = 0 from rfl), bd1_e, if_pos (show (0 : Int32) = 0 from rfl)] at hA
    rw [a3, bd1_e, if_pos (show (0 : Int32) = 0 from rfl)] at hB
    exact Or.inl ⟨hA, hB⟩
  rw [a1, bd1_e, if_neg (show ¬ (1 : Int32) = 0 by decide)] at hA
  rw [a3, bd1_e, if_neg (show ¬ (1 : Int32) = 0 by decide)] at hB
  have hi : fX8_in p4.toInt64 (nI p).toInt64 29 = some (if (p : Int) ≤ p4.toInt ∧ p4.toInt ≤ 29 then 1 else 0) := by rw [f_in, to64, to64, nI_toInt (by omega)]; rfl
  rw [hi] at hB
  rcases cell_in p4 with ⟨b1, b2, b3, b4⟩ | ⟨q, hq, rfl, b1, b2, b3⟩
  · rw [b1, bd1_e, if_pos (show (0 : Int32) = 0 from rfl), bd1_e, if_pos (show (0 : Int32) = 0 from rfl)] at hA
    rw [if_neg (by omega), bd1_e, if_pos (show (0 : Int32) = 0 from rfl)] at hB
    exact Or.inl ⟨hA, hB⟩
  rw [b1, bd1_e, if_neg (show ¬ (1 : Int32) = 0 by decide)] at hA
  rw [nI_toInt (by omega)] at hB
  by_cases hpq : p ≤ q
  · rw [if_neg (nI_nlt hpq (by omega)), bd1_e, if_neg (show ¬ (1 : Int32) = 0 by decide)] at hA
    rw [if_pos (by omega), bd1_e, if_neg (show ¬ (1 : Int32) = 0 by decide)] at hB
    refine Or.inr ⟨c, (6, p, q, 0), ⟨hc, Or.inr (Or.inr (Or.inr (Or.inr (Or.inl ⟨Or.inl rfl, hpq, hq, rfl⟩)))), rfl, rfl, fun _ => rfl, fun _ => rfl, fun h => absurd h (show ¬ 3 ≤ opN 6 by decide), fun h => absurd h (show ¬ opN 6 < 1 by decide), fun h => absurd h (show ¬ opN 6 < 2 by decide), fun _ => rfl⟩, ?_, ?_⟩
    · exact hA
    · exact hB
  · rw [if_pos (nI_lt (by omega) (by omega)), bd1_e, if_pos (show (0 : Int32) = 0 from rfl)] at hA
    rw [if_neg (by omega), bd1_e, if_pos (show (0 : Int32) = 0 from rfl)] at hB
    exact Or.inl ⟨hA, hB⟩
theorem allow_7 {c : Nat} (hc : c < 30) (e1 : fX7_isCell (nI c) = some 1) (e2 : fX8_isCell (nI c) = some 1) (p3 p4 p5 : Int32) : AL2 (nI c) (nI 7) p3 p4 p5 := by
  have hA := callow e1 (show 7 < 9 by omega) p3 p4 p5
  have hB := mfit_7 (nI c) p3 p4 p5 e2
  rw [cfit_7] at hA
  rcases cell_in p3 with ⟨a1, a2, a3, a4⟩ | ⟨p, hp, rfl, a1, a2, a3⟩
  · rw [a1, bd1_e, if_pos (show (0 : Int32) = 0 from rfl), bd1_e, if_pos (show (0 : Int32) = 0 from rfl)] at hA
    rw [a3, bd1_e, if_pos (show (0 : Int32) = 0 from rfl)] at hB
    exact Or.inl ⟨hA, hB⟩
  rw [a1, bd1_e, if_neg (show ¬ (1 : Int32) = 0 by decide)] at hA
  rw [a3, bd1_e, if_neg (show ¬ (1 : Int32) = 0 by decide)] at hB
  have hi : fX8_in p4.toInt64 (nI p).toInt64 29 = some (if (p : Int) ≤ p4.toInt ∧ p4.toInt ≤ 29 then 1 else 0) := by rw [f_in, to64, to64, nI_toInt (by omega)]; rfl
  rw [hi] at hB
  rcases cell_in p4 with ⟨b1, b2, b3, b4⟩ | ⟨q, hq, rfl, b1, b2, b3⟩
  · rw [b1, bd1_e, if_pos (show (0 : Int32) = 0 from rfl), bd1_e, if_pos (show (0 : Int32) = 0 from rfl)] at hA
    rw [if_neg (by omega), bd1_e, if_pos (show (0 : Int32) = 0 from rfl)] at hB
    exact Or.inl ⟨hA, hB⟩
  rw [b1, bd1_e, if_neg (show ¬ (1 : Int32) = 0 by decide)] at hA
  rw [nI_toInt (by omega)] at hB
  by_cases hpq : p ≤ q
  · rw [if_neg (nI_nlt hpq (by omega)), bd1_e, if_neg (show ¬ (1 : Int32) = 0 by decide)] at hA
    rw [if_pos (by omega), bd1_e, if_neg (show ¬ (1 : Int32) = 0 by decide)] at hB
    refine Or.inr ⟨c, (7, p, q, 0), ⟨hc, Or.inr (Or.inr (Or.inr (Or.inr (Or.inl ⟨Or.inr rfl, hpq, hq, rfl⟩)))), rfl, rfl, fun _ => rfl, fun _ => rfl, fun h => absurd h (show ¬ 3 ≤ opN 7 by decide), fun h => absurd h (show ¬ opN 7 < 1 by decide), fun h => absurd h (show ¬ opN 7 < 2 by decide), fun _ => rfl⟩, ?_, ?_⟩
    · exact hA
    · exact hB
  · rw [if_pos (nI_lt (by omega) (by omega)), bd1_e, if_pos (show (0 : Int32) = 0 from rfl)] at hA
    rw [if_neg (by omega), bd1_e, if_pos (show (0 : Int32) = 0 from rfl)] at hB
    exact Or.inl ⟨hA, hB⟩
theorem allow_8 {c : Nat} (hc : c < 30) (e1 : fX7_isCell (nI c) = some 1) (e2 : fX8_isCell (nI c) = some 1) (p3 p4 p5 : Int32) : AL2 (nI c) (nI 8) p3 p4 p5 := by
  have hA := callow e1 (show 8 < 9 by omega) p3 p4 p5
  have hB := mfit_8 (nI c) p3 p4 p5 e2
  rw [cfit_8] at hA
  rcases cell_in p3 with ⟨a1, a2, a3, a4⟩ | ⟨p, hp, rfl, a1, a2, a3⟩
  · rw [a1, bd1_e, if_pos (show (0 : Int32) = 0 from rfl), bd1_e, if_pos (show (0 : Int32) = 0 from rfl)] at hA
    rw [a3, bd1_e, if_pos (show (0 : Int32) = 0 from rfl)] at hB
    exact Or.inl ⟨hA, hB⟩
  rw [a1, bd1_e, if_neg (show ¬ (1 : Int32) = 0 by decide)] at hA
  rw [a3, bd1_e, if_neg (show ¬ (1 : Int32) = 0 by decide)] at hB
  rcases cell_in p4 with ⟨b1, b2, b3, b4⟩ | ⟨q, hq, rfl, b1, b2, b3⟩
  · rw [b1, bd1_e, if_pos (show (0 : Int32) = 0 from rfl), bd1_e, if_pos (show (0 : Int32) = 0 from rfl)] at hA
    rw [b3, bd1_e, if_pos (show (0 : Int32) = 0 from rfl)] at hB
    exact Or.inl ⟨hA, hB⟩
  rw [b1, bd1_e, if_neg (show ¬ (1 : Int32) = 0 by decide)] at hA
  rw [b3, bd1_e, if_neg (show ¬ (1 : Int32) = 0 by decide)] at hB
  rcases cell_in p5 with ⟨d1, d2, d3, d4⟩ | ⟨r, hr, rfl, d1, d2, d3⟩
  · rw [d1, bd1_e, if_pos (show (0 : Int32) = 0 from rfl), bd1_e, if_pos (show (0 : Int32) = 0 from rfl)] at hA
    rw [d2, bd1_e, if_pos (show (0 : Int32) = 0 from rfl)] at hB
    exact Or.inl ⟨hA, hB⟩
  rw [d1, bd1_e, if_neg (show ¬ (1 : Int32) = 0 by decide)] at hA
  rw [d2, bd1_e, if_neg (show ¬ (1 : Int32) = 0 by decide)] at hB
  rw [bd1_e, if_neg (show ¬ (1 : Int32) = 0 by decide)] at hA
  refine Or.inr ⟨c, (8, p, q, r), ⟨hc, Or.inr (Or.inr (Or.inr (Or.inr (Or.inr ⟨rfl, hp, hq, hr⟩)))), rfl, rfl, fun _ => rfl, fun _ => rfl, fun _ => rfl, fun h => absurd h (show ¬ opN 8 < 1 by decide), fun h => absurd h (show ¬ opN 8 < 2 by decide), fun h => absurd h (show ¬ opN 8 < 3 by decide)⟩, ?_, ?_⟩
  · exact hA
  · exact hB
theorem allow (p1 p2 p3 p4 p5 : Int32) : AL2 p1 p2 p3 p4 p5 := by
  rcases cell_cs p1 with ⟨e1, e2⟩ | ⟨c, hc, rfl, e1, e2⟩
  · refine Or.inl ⟨?_, ?_⟩
    · unfold fX0_isAllowed; rw [e1, bd1_e, if_pos rfl]
    · unfold fX8_isFormula; rw [e2, bd1_e, if_pos rfl]
  rcases kind_cs p2 with ⟨h1, h2⟩ | ⟨K, hK, rfl⟩
  · refine Or.inl ⟨?_, ?_⟩
    · unfold fX0_isAllowed
      rw [e1, bd1_e, if_neg (show ¬ (1 : Int32) = 0 by decide)]
      rcases h1 with h1 | ⟨h1, h3⟩
      · rw [if_pos h1]
      · rw [if_neg h1, if_pos h3]
    · unfold fX8_isFormula
      rw [e2, bd1_e, if_neg (show ¬ (1 : Int32) = 0 by decide), h2, bd1_e, if_pos rfl]
  · have : K = 0 ∨ K = 1 ∨ K = 2 ∨ K = 3 ∨ K = 4 ∨ K = 5 ∨ K = 6 ∨ K = 7 ∨ K = 8 := by omega
    rcases this with rfl | rfl | rfl | rfl | rfl | rfl | rfl | rfl | rfl
    · exact allow_0 hc e1 e2 p3 p4 p5
    · exact allow_1 hc e1 e2 p3 p4 p5
    · exact allow_2 hc e1 e2 p3 p4 p5
    · exact allow_3 hc e1 e2 p3 p4 p5
    · exact allow_4 hc e1 e2 p3 p4 p5
    · exact allow_5 hc e1 e2 p3 p4 p5
    · exact allow_6 hc e1 e2 p3 p4 p5
    · exact allow_7 hc e1 e2 p3 p4 p5
    · exact allow_8 hc e1 e2 p3 p4 p5
theorem opN_le : ∀ K, K < 9 → opN K ≤ 3 := by decide
theorem vf_k {f : Fq} (h : VF f) : f.1 < 9 := by rcases h with h | h | h | h | h | h <;> omega
theorem wrC {α : Type} {f : Nat → Int32} {n : Nat} {v : Int32} {k : (Nat → Int32) → Option α} (x : Int32) (c : Nat) (e : x = nI c) (h : c < n) (hn : n < 2 ^ 31) : wr f n x v k = k (upd f c v) := by rw [e]; exact wrN h hn
theorem ix4 (c k : Nat) : nI c * 4 + nI k = nI (4 * c + k) := by
  rw [show (4 : Int32) = nI 4 from rfl, pk_mul, nI_add, Nat.mul_comm]
/-- the class takes a formula -/
theorem c_take {F : Fo} {parts : Nat → Int32} {c : Nat} {f : Fq} {p1 p2 p3 p4 p5 : Int32} (hC : PC F parts) (h : AF c f p1 p2 p3 p4 p5) : ∃ o, fX1_take parts p1 p2 p3 p4 p5 = some o ∧ PC (up F c f) o := by
  obtain ⟨hc, hv, rfl, rfl, a1, a2, a3, b1, b2, b3⟩ := h
  have hK := vf_k hv
  have hO := opN_le f.1 hK
  have i0 : nI c * 4 + 0 = nI (4 * c + 0) := ix4 c 0
  have i1 : nI c * 4 + 1 = nI (4 * c + 1) := ix4 c 1
  have i2 : nI c * 4 + 2 = nI (4 * c + 2) := ix4 c 2
  have i3 : nI c * 4 + 3 = nI (4 * c + 3) := ix4 c 3
  unfold fX1_take fX1_take_j38 fX1_take_j56 fX1_begin fX1_setOperand
  rw [c_ops f.1 hK, bd1_e, i0, i1, i2, i3, wrN (by omega) (by omega), wrN (by omega) (by omega), wrN (by omega) (by omega), wrN (by omega) (by omega), bd1_e]
  have key : ∀ o : Nat → Int32, (∀ k, (k < 4 * c ∨ 4 * c + 4 ≤ k) → o k = parts k) → o (4 * c) = nI f.1 → o (4 * c + 1) = nI f.2.1 → o (4 * c + 2) = nI f.2.2.1 → o (4 * c + 3) = nI f.2.2.2 → PC (up F c f) o := fun o h1 h2 h3 h4 h5 d hd => by
    by_cases e : d = c
    · subst e; rw [up_s]; exact ⟨h2, h3, h4, h5⟩
    · rw [up_n _ _ e, h1 _ (by omega), h1 _ (by omega), h1 _ (by omega), h1 _ (by omega)]
      exact hC d hd
  have un4 : ∀ (g : Nat → Int32) (v0 v1 v2 v3 : Int32) (k : Nat), (k < 4 * c ∨ 4 * c + 4 ≤ k) → upd (upd (upd (upd g (4 * c + 0) v0) (4 * c + 1) v1) (4 * c + 2) v2) (4 * c + 3) v3 k = g k := fun g v0 v1 v2 v3 k hk => by
    rw [un _ _ (by omega), un _ _ (by omega), un _ _ (by omega), un _ _ (by omega)]
  have hcs : opN f.1 = 0 ∨ opN f.1 = 1 ∨ opN f.1 = 2 ∨ opN f.1 = 3 := by omega
  rcases hcs with e | e | e | e
  · rw [e, if_pos (show nI 0 < 1 by decide), if_pos (show nI 0 < 2 by decide), if_pos (show nI 0 < 3 by decide)]
    refine ⟨_, rfl, key _ (fun k hk => un4 _ _ _ _ _ k hk) ?_ ?_ ?_ ?_⟩
    · rw [un _ _ (by omega), un _ _ (by omega), un _ _ (by omega), Nat.add_zero, us]
    · rw [un _ _ (by omega), un _ _ (by omega), us, b1 (by omega)]; rfl
    · rw [un _ _ (by omega), us, b2 (by omega)]; rfl
    · rw [us, b3 (by omega)]; rfl
  · rw [e, if_neg (show ¬ nI 1 < 1 by decide), wrN (by omega) (by omega), bd1_e, if_pos (show nI 1 < 2 by decide), if_pos (show nI 1 < 3 by decide)]
    refine ⟨_, rfl, key _ (fun k hk => by rw [un _ _ (by omega)]; exact un4 _ _ _ _ _ k hk) ?_ ?_ ?_ ?_⟩
    · rw [un _ _ (by omega), un _ _ (by omega), un _ _ (by omega), un _ _ (by omega), Nat.add_zero, us]
    · rw [us, a1 (by omega)]
    · rw [un _ _ (by omega), un _ _ (by omega), us, b2 (by omega)]; rfl
    · rw [un _ _ (by omega), us, b3 (by omega)]; rfl
  · rw [e, if_neg (show ¬ nI 2 < 1 by decide), wrN (by omega) (by omega), bd1_e, if_neg (show ¬ nI 2 < 2 by decide), wrN (by omega) (by omega), bd1_e, if_pos (show nI 2 < 3 by decide)]
    refine ⟨_, rfl, key _ (fun k hk => by rw [un _ _ (by omega), un _ _ (by omega)]; exact un4 _ _ _ _ _ k hk) ?_ ?_ ?_ ?_⟩
    · rw [un _ _ (by omega), un _ _ (by omega), un _ _ (by omega), un _ _ (by omega), un _ _ (by omega), Nat.add_zero, us]
    · rw [un _ _ (by omega), us, a1 (by omega)]
    · rw [us, a2 (by omega)]
    · rw [un _ _ (by omega), un _ _ (by omega), us, b3 (by omega)]; rfl
  · rw [e, if_neg (show ¬ nI 3 < 1 by decide), wrN (by omega) (by omega), bd1_e, if_neg (show ¬ nI 3 < 2 by decide), wrN (by omega) (by omega), bd1_e, if_neg (show ¬ nI 3 < 3 by decide), wrN (by omega) (by omega), bd1_e]
    refine ⟨_, rfl, key _ (fun k hk => by rw [un _ _ (by omega), un _ _ (by omega), un _ _ (by omega)]; exact un4 _ _ _ _ _ k hk) ?_ ?_ ?_ ?_⟩
    · rw [un _ _ (by omega), un _ _ (by omega), un _ _ (by omega), un _ _ (by omega), un _ _ (by omega), un _ _ (by omega), Nat.add_zero, us]
    · rw [un _ _ (by omega), un _ _ (by omega), us, a1 (by omega)]
    · rw [un _ _ (by omega), us, a2 (by omega)]
    · rw [us, a3 (by omega)]
/-- the reference's formula at hand -/
def FM (f : Fq) (g : Nat → Int32) : Prop := g 0 = nI f.1 ∧ g 1 = nI f.2.1 ∧ g 2 = nI f.2.2.1 ∧ g 3 = nI f.2.2.2
theorem m_formulaIs {g : Nat → Int32} {c : Nat} {f : Fq} {p1 p2 p3 p4 p5 : Int32} (h : AF c f p1 p2 p3 p4 p5) : ∃ o, fX8_formulaIs g p2 p3 p4 p5 = some o ∧ FM f o := by
  obtain ⟨hc, hv, rfl, rfl, a1, a2, a3, b1, b2, b3⟩ := h
  have hK := vf_k hv
  have hO := opN_le f.1 hK
  unfold fX8_formulaIs fX8_formulaIs_j28 fX8_formulaIs_j45 fX8_formulaIs_j63
  rw [m_ops f.1 hK, bd1_e, wrC 0 0 rfl (by omega) (by omega)]
  have hcs : opN f.1 = 0 ∨ opN f.1 = 1 ∨ opN f.1 = 2 ∨ opN f.1 = 3 := by omega
  have key : ∀ (v1 v2 v3 : Int32), v1 = nI f.2.1 → v2 = nI f.2.2.1 → v3 = nI f.2.2.2 → FM f (upd (upd (upd (upd g 0 (nI f.1)) 1 v1) 2 v2) 3 v3) := fun v1 v2 v3 h1 h2 h3 => by
    refine ⟨?_, ?_, ?_, ?_⟩
    · rw [un _ _ (by omega), un _ _ (by omega), un _ _ (by omega), us]
    · rw [un _ _ (by omega), un _ _ (by omega), us, h1]
    · rw [un _ _ (by omega), us, h2]
    · rw [us, h3]
  rcases hcs with e | e | e | e
  · rw [e, if_pos (show nI 0 ≤ 0 by decide), wrC 1 1 rfl (by omega) (by omega), if_pos (show nI 0 ≤ 1 by decide), wrC 2 2 rfl (by omega) (by omega), if_pos (show nI 0 ≤ 2 by decide), wrC 3 3 rfl (by omega) (by omega)]
    exact ⟨_, rfl, key _ _ _ (by rw [b1 (by omega)]; rfl) (by rw [b2 (by omega)]; rfl) (by rw [b3 (by omega)]; rfl)⟩
  · rw [e, if_neg (show ¬ nI 1 ≤ 0 by decide), wrC 1 1 rfl (by omega) (by omega), if_pos (show nI 1 ≤ 1 by decide), wrC 2 2 rfl (by omega) (by omega), if_pos (show nI 1 ≤ 2 by decide), wrC 3 3 rfl (by omega) (by omega)]
    exact ⟨_, rfl, key _ _ _ (a1 (by omega)) (by rw [b2 (by omega)]; rfl) (by rw [b3 (by omega)]; rfl)⟩
  · rw [e, if_neg (show ¬ nI 2 ≤ 0 by decide), wrC 1 1 rfl (by omega) (by omega), if_neg (show ¬ nI 2 ≤ 1 by decide), wrC 2 2 rfl (by omega) (by omega), if_pos (show nI 2 ≤ 2 by decide), wrC 3 3 rfl (by omega) (by omega)]
    exact ⟨_, rfl, key _ _ _ (a1 (by omega)) (a2 (by omega)) (by rw [b3 (by omega)]; rfl)⟩
  · rw [e, if_neg (show ¬ nI 3 ≤ 0 by decide), wrC 1 1 rfl (by omega) (by omega), if_neg (show ¬ nI 3 ≤ 1 by decide), wrC 2 2 rfl (by omega) (by omega), if_neg (show ¬ nI 3 ≤ 2 by decide), wrC 3 3 rfl (by omega) (by omega)]
    exact ⟨_, rfl, key _ _ _ (a1 (by omega)) (a2 (by omega)) (a3 (by omega))⟩
