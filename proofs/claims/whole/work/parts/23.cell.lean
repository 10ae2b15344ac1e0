/-! THE CLASS: one cell's evaluation -/
theorem f_part {parts : Nat → Int32} {c k : Nat} (hc : c < 30) (hk : k < 4) : fX1_part parts (nI c) (nI k) = some (parts (4 * c + k)) := by
  unfold fX1_part
  rw [show (4 : Int32) = nI 4 from rfl, pk_mul, nI_add, rdN (by omega) (by omega), show c * 4 + k = 4 * c + k by omega]
theorem c_takes {H R W : Nat → Int32} {kn : Int32} {c d : Nat} (hc : c < 30) (hd : d < 30) : fX3_takes H R W kn (nI c) (nI d) = if bt kn d = true then some (1, upd H c (mxI (H c) (H d + 1)), upd R c (R c ||| bI d), W) else some (0, H, upd R c (R c ||| bI d), upd W c (nI d)) := by
  unfold fX3_takes
  rw [rdN hc (by omega), f_bit, bd1_e, wrN hc (by omega), f_has kn (by omega), bd1_e]
  cases h : bt kn d
  · simp only [Bool.false_eq_true, if_false, if_true]
    rw [wrN hc (by omega)]
  · simp only [if_true]
    rw [if_neg (by decide), rdN hc (by omega), rdN hd (by omega), wrN hc (by omega)]
    rfl
theorem c_settle {V W : Nat → Int32} {kn v : Int32} {c : Nat} (hc : c < 30) : fX3_settle V W kn (nI c) v = some (upd V c v, upd W c (-4), kn ||| bI c) := by
  unfold fX3_settle
  rw [wrN hc (by omega), f_bit, bd1_e, wrN hc (by omega)]
theorem c_settleAs {V H R W : Nat → Int32} {kn : Int32} {c d : Nat} (hc : c < 30) (hd : d < 30) : fX3_settleAs V H R W kn (nI c) (nI d) = if bt kn d = true then some (upd V c (V d), upd H c (mxI (H c) (H d + 1)), upd R c (R c ||| bI d), upd W c (-4), kn ||| bI c) else some (V, H, upd R c (R c ||| bI d), upd W c (nI d), kn) := by
  unfold fX3_settleAs
  rw [c_takes hc hd]
  cases h : bt kn d
  · simp only [Bool.false_eq_true, if_false]
    rw [bd4_e, if_pos rfl]
  · simp only [if_true]
    rw [bd4_e, if_neg (by decide), rdN hd (by omega), c_settle hc, bd3_e]
/-- what two reads leave, and a value or none -/
def twoC (V H R W : Nat → Int32) (kn : Int32) (c p s : Nat) (v : Int32) : (Nat → Int32) × (Nat → Int32) × (Nat → Int32) × (Nat → Int32) × Int32 :=
  if bt kn p = true then (if bt kn s = true then (upd V c v, upd (upd H c (mxI (H c) (H p + 1))) c (mxI (upd H c (mxI (H c) (H p + 1)) c) (upd H c (mxI (H c) (H p + 1)) s + 1)), upd (upd R c (R c ||| bI p)) c (upd R c (R c ||| bI p) c ||| bI s), upd W c (-4), kn ||| bI c)
    else (V, upd H c (mxI (H c) (H p + 1)), upd (upd R c (R c ||| bI p)) c (upd R c (R c ||| bI p) c ||| bI s), upd W c (nI s), kn))
  else (V, H, upd R c (R c ||| bI p), upd W c (nI p), kn)
theorem c_two {V H R W : Nat → Int32} {kn : Int32} {K c p q : Nat} (hK : K = 2 ∨ K = 3 ∨ K = 4) (hc : c < 30) (hp : p < 30) (hq : q < 30) : fX3_tryTwo V H R W kn (nI K) (nI c) (nI p) (nI q) = some (twoC V H R W kn c p q (val2 K (V p) (V q))) := by
  unfold fX3_tryTwo twoC
  rw [c_takes hc hp]
  cases h : bt kn p
  · simp only [Bool.false_eq_true, if_false]
    rw [bd4_e, if_pos rfl]
  · simp only [if_true]
    rw [bd4_e, if_neg (by decide), c_takes hc hq]
    cases h2 : bt kn q
    · simp only [Bool.false_eq_true, if_false]
      rw [bd4_e, if_pos rfl]
    · simp only [if_true]
      rw [bd4_e, if_neg (by decide)]
      rcases hK with rfl | rfl | rfl
      · rw [if_pos (show nI 2 = 2 from rfl), rdN hp (by omega), rdN hq (by omega), c_settle hc, bd3_e]
        rfl
      · rw [if_neg (by decide), if_pos (show nI 3 = 3 from rfl), rdN hp (by omega), rdN hq (by omega), c_settle hc, bd3_e]
        rfl
      · rw [if_neg (by decide), if_neg (by decide), rdN hp (by omega), rdN hq (by omega), c_settle hc, bd3_e]
        rfl
/-- what the class leaves of an evaluation of c -/
def CP (c : Nat) (f : Fq) (T : Nat → Bool) (hg : Nat → Nat) (V H R W : Nat → Int32) (kn : Int32) (h : Nat) (o : (Nat → Int32) × (Nat → Int32) × (Nat → Int32) × (Nat → Int32) × Int32) : Prop :=
  (∀ d, d ≠ c → o.1 d = V d ∧ o.2.1 d = H d ∧ o.2.2.1 d = R d ∧ o.2.2.2.1 d = W d) ∧
  (∀ v, ocR f T V = some v → o.1 c = v ∧ o.2.2.2.1 c = -4 ∧ o.2.2.2.2 = kn ||| bI c) ∧
  (ocR f T V = none → o.1 c = V c ∧ o.2.2.2.1 c = nI (ocW f T V) ∧ o.2.2.2.2 = kn) ∧
  (∀ j, j < 32 → bt (o.2.2.1 c) j = (bt (R c) j || decide (∃ i, i < ocN f T V ∧ ocL f V i = j))) ∧
  (∃ h', o.2.1 c = nI h' ∧ h ≤ h' ∧ (∀ i, i < ocN f T V → T (ocL f V i) = true → hg (ocL f V i) + 1 ≤ h') ∧ (h' = h ∨ ∃ i, i < ocN f T V ∧ T (ocL f V i) = true ∧ h' = hg (ocL f V i) + 1))
theorem mxI_nI {a b : Nat} (ha : a < 2 ^ 30) (hb : b < 2 ^ 30) : mxI (nI a) (nI b) = nI (max a b) := by
  unfold mxI
  by_cases h : a < b
  · rw [if_pos (nI_lt h (by omega)), Nat.max_eq_right (by omega)]
  · rw [if_neg (nI_nlt (by omega) (by omega)), Nat.max_eq_left (by omega)]
theorem two_CP {c : Nat} {f : Fq} {T : Nat → Bool} {hg : Nat → Nat} {V H R W : Nat → Int32} {kn : Int32} {h : Nat} (hc : c < 30) (hf : VF f) (hK : f.1 = 2 ∨ f.1 = 3 ∨ f.1 = 4 ∨ f.1 = 5 ∨ f.1 = 8) (hT : ∀ d, d < 30 → T d = bt kn d) (hTc : T c = false) (hH : ∀ d, d < 30 → T d = true → H d = nI (hg d) ∧ hg d < 1000) (hh : H c = nI h) (hh2 : h < 1000) : CP c f T hg V H R W kn h (twoC V H R W kn c f.2.1 (sec f V) (val2 f.1 (V f.2.1) (V (sec f V)))) := by
  have hp : f.2.1 < 30 := by rcases hf with h1 | h1 | h1 | h1 | h1 | h1 <;> omega
  have hs : sec f V < 30 := sec_lt hf (by omega) V
  have e1 : ¬ f.1 ≤ 1 := by omega
  have e2 : ¬ (f.1 = 6 ∨ f.1 = 7) := by omega
  have oR : ocR f T V = if T f.2.1 = true ∧ T (sec f V) = true then some (val2 f.1 (V f.2.1) (V (sec f V))) else none := by unfold ocR; rw [if_neg e1, if_neg e2]
  have oN : ocN f T V = if T f.2.1 = true ∧ sec f V ≠ f.2.1 then 2 else 1 := by unfold ocN; rw [if_neg e1, if_neg e2]
  have oL : ∀ i, ocL f V i = if i = 0 then f.2.1 else sec f V := fun i => by unfold ocL; rw [if_neg e2]
  have oW : ocW f T V = if T f.2.1 = true then sec f V else f.2.1 := by unfold ocW; rw [if_neg e2]
  generalize hpe : f.2.1 = p at *
  generalize hse : sec f V = s at *
  generalize val2 f.1 (V p) (V s) = v at *
  unfold twoC
  rw [← hT p hp, ← hT s hs]
  cases hTp : T p
  · -- p isn't told
    have n1 : ocN f T V = 1 := by rw [oN]; simp [hTp]
    have r1 : ocR f T V = none := by rw [oR]; simp [hTp]
    have w1 : ocW f T V = p := by rw [oW]; simp [hTp]
    simp only [Bool.false_eq_true, if_false]
    refine ⟨fun d hd => ⟨rfl, rfl, un _ _ hd, un _ _ hd⟩, (fun v hv => by rw [r1] at hv; cases hv), fun _ => ⟨rfl, by rw [w1]; exact us _ _ _, rfl⟩, fun j hj => ?_, h, hh, Nat.le_refl _, fun i hi ht => ?_, Or.inl rfl⟩
    · show bt (upd R c _ c) j = _
      rw [us, b_or, bt_bI p (by omega) j hj, n1]
      congr 1
      apply decide_eq_decide.mpr
      constructor
      · rintro rfl; exact ⟨0, by omega, by rw [oL]; rfl⟩
      · rintro ⟨i, hi, e⟩; rw [oL, if_pos (by omega)] at e; exact e.symm
    · rw [n1] at hi
      rw [oL, if_pos (by omega), hTp] at ht
      cases ht
  · have hpc : p ≠ c := fun e => by rw [e, hTc] at hTp; cases hTp
    obtain ⟨hHp, hbp⟩ := hH p hp hTp
    cases hTs : T s
    · -- s isn't told
      have hsp : s ≠ p := fun e => by rw [e, hTp] at hTs; cases hTs
      have n1 : ocN f T V = 2 := by rw [oN]; simp [hTp, hsp]
      have r1 : ocR f T V = none := by rw [oR]; simp [hTs]
      have w1 : ocW f T V = s := by rw [oW]; simp [hTp]
      simp only [Bool.false_eq_true, if_false, if_true]
      refine ⟨fun d hd => ⟨rfl, un _ _ hd, by show upd _ c _ d = _; rw [un _ _ hd, un _ _ hd], un _ _ hd⟩, (fun v hv => by rw [r1] at hv; cases hv), fun _ => ⟨rfl, by rw [w1]; exact us _ _ _, rfl⟩, fun j hj => ?_, max h (hg p + 1), ?_, by omega, fun i hi ht => ?_, ?_⟩
      · show bt (upd _ c _ c) j = _
        rw [us, us, b_or, b_or, bt_bI p (by omega) j hj, bt_bI s (by omega) j hj, n1, Bool.or_assoc]
        congr 1
        rw [← Bool.decide_or]
        apply decide_eq_decide.mpr
        constructor
        · rintro (rfl | rfl)
          · exact ⟨0, by omega, by rw [oL]; rfl⟩
          · exact ⟨1, by omega, by rw [oL]; rfl⟩
        · rintro ⟨i, hi, e⟩
          rw [oL] at e
          split at e
          · exact Or.inl e.symm
          · exact Or.inr e.symm
      · show upd H c _ c = _
        rw [us, hh, hHp, nI_1, mxI_nI (by omega) (by omega)]
      · rw [oL] at ht ⊢
        split
        · omega
        · rename_i h9; rw [if_neg h9, hTs] at ht; cases ht
      · by_cases h9 : hg p + 1 ≤ h
        · exact Or.inl (by omega)
        · exact Or.inr ⟨0, by omega, by rw [oL]; exact hTp, by rw [oL]; show _ = hg p + 1; omega⟩
    · -- both
      have hsc : s ≠ c := fun e => by rw [e, hTc] at hTs; cases hTs
      obtain ⟨hHs, hbs⟩ := hH s hs hTs
      have r1 : ocR f T V = some v := by rw [oR]; simp [hTp, hTs]
      simp only [if_true]
      refine ⟨fun d hd => ⟨un _ _ hd, by show upd _ c _ d = _; rw [un _ _ hd, un _ _ hd], by show upd _ c _ d = _; rw [un _ _ hd, un _ _ hd], un _ _ hd⟩, (fun v' hv => by rw [r1] at hv; cases hv; exact ⟨us _ _ _, us _ _ _, rfl⟩), (fun h9 => by rw [r1] at h9; cases h9), fun j hj => ?_, max (max h (hg p + 1)) (hg s + 1), ?_, by omega, fun i hi ht => ?_, ?_⟩
      · show bt (upd _ c _ c) j = _
        rw [us, us, b_or, b_or, bt_bI p (by omega) j hj, bt_bI s (by omega) j hj, Bool.or_assoc]
        congr 1
        rw [← Bool.decide_or]
        apply decide_eq_decide.mpr
        constructor
        · rintro (rfl | rfl)
          · exact ⟨0, by rw [oN]; split <;> omega, by rw [oL]; rfl⟩
          · by_cases e : j = p
            · exact ⟨0, by rw [oN]; split <;> omega, by rw [oL, e]; rfl⟩
            · exact ⟨1, by rw [oN, if_pos ⟨hTp, e⟩]; omega, by rw [oL]; rfl⟩
        · rintro ⟨i, hi, e⟩
          rw [oL] at e
          split at e
          · exact Or.inl e.symm
          · exact Or.inr e.symm
      · show upd _ c _ c = _
        rw [us, us, un _ _ hsc, hh, hHp, hHs, nI_1, nI_1, mxI_nI (by omega) (by omega), mxI_nI (by omega) (by omega)]
      · rw [oL]
        split <;> omega
      · by_cases h9 : hg p + 1 ≤ h
        · by_cases h8 : hg s + 1 ≤ h
          · exact Or.inl (by omega)
          · refine Or.inr ?_
            by_cases e : s = p
            · exact ⟨0, by rw [oN]; split <;> omega, by rw [oL]; exact hTp, by rw [oL]; show _ = hg p + 1; rw [e] at h8 ⊢; omega⟩
            · exact ⟨1, by rw [oN, if_pos ⟨hTp, e⟩]; omega, by rw [oL]; exact hTs, by rw [oL]; show _ = hg s + 1; omega⟩
        · refine Or.inr ?_
          by_cases h8 : hg s + 1 ≤ hg p + 1
          · exact ⟨0, by rw [oN]; split <;> omega, by rw [oL]; exact hTp, by rw [oL]; show _ = hg p + 1; omega⟩
          · have e : s ≠ p := fun e => by rw [e] at h8; omega
            exact ⟨1, by rw [oN, if_pos ⟨hTp, e⟩]; omega, by rw [oL]; exact hTs, by rw [oL]; show _ = hg s + 1; omega⟩
