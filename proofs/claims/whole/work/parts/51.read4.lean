/-! READ: how many changes are made -/
def RC (mi : Nat → Int32) (i B Z C : Nat) : Prop := ∀ t, t < C → B + 5 * t + 4 < Z ∧ ∃ c f, AF c f (mi (40 * i + (B + 5 * t))) (mi (40 * i + (B + 5 * t + 1))) (mi (40 * i + (B + 5 * t + 2))) (mi (40 * i + (B + 5 * t + 3))) (mi (40 * i + (B + 5 * t + 4)))
def RF (mi : Nat → Int32) (i B t : Nat) : Prop := fX0_isAllowed (mi (40 * i + (B + 5 * t))) (mi (40 * i + (B + 5 * t + 1))) (mi (40 * i + (B + 5 * t + 2))) (mi (40 * i + (B + 5 * t + 3))) (mi (40 * i + (B + 5 * t + 4))) = some 0 ∧ fX8_isFormula (mi (40 * i + (B + 5 * t))) (mi (40 * i + (B + 5 * t + 1))) (mi (40 * i + (B + 5 * t + 2))) (mi (40 * i + (B + 5 * t + 3))) (mi (40 * i + (B + 5 * t + 4))) = some 0
theorem read_C (mi : Nat → Int32) (i B Z : Nat) : ∀ P, ∃ C, C ≤ P ∧ RC mi i B Z C ∧ (C = P ∨ (C < P ∧ ¬ B + 5 * C + 4 < Z) ∨ (C < P ∧ B + 5 * C + 4 < Z ∧ RF mi i B C))
  | 0 => ⟨0, Nat.le_refl _, fun t ht => absurd ht (Nat.not_lt_zero t), Or.inl rfl⟩
  | P + 1 => by
    obtain ⟨C, h1, h2, h3⟩ := read_C mi i B Z P
    rcases h3 with h3 | ⟨h3, h4⟩ | ⟨h3, h4, h5⟩
    · by_cases e : B + 5 * C + 4 < Z
      · rcases allow (mi (40 * i + (B + 5 * C))) (mi (40 * i + (B + 5 * C + 1))) (mi (40 * i + (B + 5 * C + 2))) (mi (40 * i + (B + 5 * C + 3))) (mi (40 * i + (B + 5 * C + 4))) with hn | ⟨c, f, hA, _, _⟩
        · exact ⟨C, by omega, h2, Or.inr (Or.inr ⟨by omega, e, hn⟩)⟩
        · refine ⟨C + 1, by omega, fun t ht => ?_, Or.inl (by omega)⟩
          by_cases z : t = C
          · rw [z]; exact ⟨e, c, f, hA⟩
          · exact h2 t (by omega)
      · exact ⟨C, by omega, h2, Or.inr (Or.inl ⟨by omega, e⟩)⟩
    · exact ⟨C, by omega, h2, Or.inr (Or.inl ⟨by omega, h4⟩)⟩
    · exact ⟨C, by omega, h2, Or.inr (Or.inr ⟨by omega, h4, h5⟩)⟩
