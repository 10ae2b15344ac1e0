/-! READ: the class's changes -/
theorem c_askFrom {it : Nat → Int32} {X : Nat} {u1 u2 u3 u4 u5 : Int32} (h : X + 4 < 40) : fX4_askFrom it u1 u2 u3 u4 u5 (nI X) = some (it X, it (X + 1), it (X + 2), it (X + 3), it (X + 4)) := by
  unfold fX4_askFrom fX0_tell
  rw [rdN (by omega) (by omega), rdC (nI X + 1) (X + 1) (nI_add X 1) (by omega) (by omega), rdC (nI X + 2) (X + 2) (nI_add X 2) (by omega) (by omega), rdC (nI X + 3) (X + 3) (nI_add X 3) (by omega) (by omega), rdC (nI X + 4) (X + 4) (nI_add X 4) (by omega) (by omega), bd5_e]
theorem c_foc1 {l p2 q : Int32} {Z : Nat} (hZ : Z ≤ 40) (h : fA l Z p2 q.toInt ≠ 0) : fX4_faultOfChange l (nI Z) p2 q = some (nI (fA l Z p2 q.toInt)) := by
  have hne : ¬ nI (fA l Z p2 q.toInt) = 0 := fun z => h (nI_inj (b := 0) z (by unfold fA; (repeat' split) <;> omega) (by omega))
  unfold fX4_faultOfChange
  rw [show fu = (fu - 2) + 1 + 1 from rfl, lq2_s]
  unfold fX4_faultOfChange_b5
  rw [if_neg (show ¬ (5 : Int32) ≤ 0 by decide), if_pos (show (0 : Int32) = 0 from rfl), Int32.add_zero, c_faultAt hZ, bd1_e, lq2_s, if_neg (show ¬ (5 : Int32) ≤ 0 + 1 by decide), if_neg hne]
theorem c_foc {l : Int32} {X Z : Nat} (hl : l ≠ -1) (hZ : Z ≤ 40) (hX : X < 1000) : fX4_faultOfChange l (nI Z) l (nI X) = some (if X + 4 < Z then 0 else 2) := by
  unfold fX4_faultOfChange
  refine fr1 (fX4_faultOfChange_b5 l (nI Z) l (nI X)) 5 (fun j x => (x = 0 ∧ (j = 0 ∨ X + j - 1 < Z)) ∨ (x = 2 ∧ ¬ X + 4 < Z)) (fun r => r = some (if X + 4 < Z then 0 else 2)) (by omega) ?_ ?_ fu 0 0 (by omega) (by unfold fu; omega) (Or.inl ⟨rfl, Or.inl rfl⟩)
  · intro self j x hj hI hself
    unfold fX4_faultOfChange_b5
    rw [if_neg (show ¬ (5 : Int32) ≤ nI j from nI_ge (b := 5) hj (by omega))]
    rcases hI with ⟨rfl, _⟩ | ⟨rfl, h2⟩
    · rw [if_pos (show (0 : Int32) = 0 from rfl), nI_add, c_faultAt hZ, bd1_e, nI_1]
      unfold fA
      rw [if_neg hl, if_pos rfl, nI_toInt (by omega)]
      by_cases e : X + j < Z
      · rw [if_pos (by omega)]
        exact hself _ (Or.inl ⟨rfl, Or.inr (by omega)⟩)
      · rw [if_neg (by omega)]
        exact hself _ (Or.inr ⟨rfl, by omega⟩)
    · rw [if_neg (show ¬ (2 : Int32) = 0 by decide), if_neg h2]
  · intro self x hI
    unfold fX4_faultOfChange_b5
    rw [if_pos (show (5 : Int32) ≤ nI 5 by decide)]
    rcases hI with ⟨rfl, h1⟩ | ⟨rfl, h2⟩
    · rw [if_pos (by omega)]
    · rw [if_neg h2]
