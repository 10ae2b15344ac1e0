/-! THE REFERENCE: one cell's evaluation -/
theorem m_isRead {mT mW mR mN : Nat → Int32} {T : Nat → Bool} {c o n : Nat} {l : Nat → Nat} (hc : c < 30) (ho : o < 30) (hT : mT o = if T o = true then 1 else 0) (hW : mW c = -4) (hN : mN c = nI n) (hn : n < 30) (hL : ∀ i, i < n → mR (30 * c + i) = nI (l i)) (hl : ∀ i, i < n → l i < 30) :
    fX8_isReadBy mT mW mR mN (nI c) (nI o) = some (if T o = true then 1 else 0, upd mW c (if T o = true then -4 else nI o), if (∃ i, i < n ∧ l i = o) then mR else upd mR (30 * c + n) (nI o), if (∃ i, i < n ∧ l i = o) then mN else upd mN c (nI (n + 1))) := by
  have fin : ∀ (mR' mN' : Nat → Int32), fX8_isReadBy_j92 mT (nI c) (nI o) mW mR' mN' = some (if T o = true then 1 else 0, upd mW c (if T o = true then -4 else nI o), mR', mN') := by
    intro mR' mN'
    unfold fX8_isReadBy_j92
    rw [rdN ho (by omega), hT]
    cases hTo : T o
    · simp only [Bool.false_eq_true, if_false, if_true]
      unfold fX8_isReadBy_j112
      rw [wrN hc (by omega), rdN ho (by omega), hT, hTo]
      simp only [Bool.false_eq_true, if_false]
      rw [ckT (Or.inl trivial)]
    · simp only [if_true]
      rw [if_neg (by decide)]
      unfold fX8_isReadBy_j112
      rw [wrN hc (by omega), rdN ho (by omega), hT, hTo]
      simp only [if_true]
      rw [ckT (Or.inr trivial)]
  unfold fX8_isReadBy
  rw [rdN hc (by omega), hW, if_pos rfl]
  refine fr1 (fX8_isReadBy_b18 mT (nI c) (nI o) mW mR mN) n (fun i a => a = if (∃ j, j < i ∧ l j = o) then 1 else 0) (fun r => r = _) (by omega) ?_ ?_ fu 0 0 (by omega) (by unfold fu; omega) ?_
  · intro self i a hi ha hself
    unfold fX8_isReadBy_b18
    rw [rdN hc (by omega), hN, if_neg (nI_ge hi (by omega))]
    by_cases he : ∃ j, j < i ∧ l j = o
    · rw [if_pos he] at ha
      rw [ha, if_neg (by decide)]
      unfold fX8_isReadBy_j49 fX8_isReadBy_j54
      rw [nI_1]
      refine hself _ ?_
      rw [if_pos]
      obtain ⟨j, hj, e⟩ := he
      exact ⟨j, by omega, e⟩
    · rw [if_neg he] at ha
      rw [ha, if_pos rfl, show (30 : Int32) = nI 30 from rfl, pk_mul, nI_add, rdN (by omega) (by omega), hL i hi]
      by_cases h2 : l i = o
      · rw [if_pos (by rw [h2])]
        unfold fX8_isReadBy_j49 fX8_isReadBy_j54
        rw [nI_1]
        exact hself _ (by rw [if_pos ⟨i, by omega, h2⟩])
      · rw [if_neg (fun e => h2 (nI_inj e (by have := hl i hi; omega) (by omega)))]
        unfold fX8_isReadBy_j54
        rw [nI_1]
        refine hself _ ?_
        rw [if_neg]
        rintro ⟨j, hj, e⟩
        by_cases h3 : j = i
        · exact h2 (h3 ▸ e)
        · exact he ⟨j, by omega, e⟩
  · intro self a ha
    unfold fX8_isReadBy_b18
    rw [rdN hc (by omega), hN, if_pos (nI_le (Nat.le_refl _) (by omega))]
    by_cases he : ∃ j, j < n ∧ l j = o
    · rw [if_pos he] at ha
      rw [ha, if_neg (by decide), fin, if_pos he, if_pos he]
    · rw [if_neg he] at ha
      rw [ha, if_pos rfl, rdN hc (by omega), hN, show (30 : Int32) = nI 30 from rfl, pk_mul, nI_add, wrN (by omega) (by omega), rdN hc (by omega), hN, wrN hc (by omega), nI_1, fin, if_neg he, if_neg he]
  · rw [if_neg (by rintro ⟨j, hj, _⟩; omega)]
/-- what the reference leaves of a try at c: the answer, the rows of waiting, reads, how many -/
def MV (c : Nat) (f : Fq) (T : Nat → Bool) (V mW mR mN : Nat → Int32) (o : Int32 × (Nat → Int32) × (Nat → Int32) × (Nat → Int32)) : Prop :=
  (∀ d, d ≠ c → o.2.1 d = mW d ∧ o.2.2.2 d = mN d) ∧ (∀ k, k < 30 * c ∨ 30 * c + 30 ≤ k → o.2.2.1 k = mR k) ∧ o.2.2.2 c = nI (ocN f T V) ∧ (∀ i, i < ocN f T V → o.2.2.1 (30 * c + i) = nI (ocL f V i)) ∧
  (∀ v, ocR f T V = some v → o.1 = v ∧ o.2.1 c = -4) ∧ (ocR f T V = none → o.2.1 c = nI (ocW f T V))
theorem oN_two {f : Fq} {T : Nat → Bool} {V : Nat → Int32} (hK : f.1 = 2 ∨ f.1 = 3 ∨ f.1 = 4 ∨ f.1 = 5 ∨ f.1 = 8) : ocR f T V = (if T f.2.1 = true ∧ T (sec f V) = true then some (val2 f.1 (V f.2.1) (V (sec f V))) else none) ∧ ocN f T V = (if T f.2.1 = true ∧ sec f V ≠ f.2.1 then 2 else 1) ∧ (∀ i, ocL f V i = if i = 0 then f.2.1 else sec f V) ∧ ocW f T V = (if T f.2.1 = true then sec f V else f.2.1) := by
  have e1 : ¬ f.1 ≤ 1 := by omega
  have e2 : ¬ (f.1 = 6 ∨ f.1 = 7) := by omega
  refine ⟨?_, ?_, fun i => ?_, ?_⟩
  · unfold ocR; rw [if_neg e1, if_neg e2]
  · unfold ocN; rw [if_neg e1, if_neg e2]
  · unfold ocL; rw [if_neg e2]
  · unfold ocW; rw [if_neg e2]
/-- two reads of the reference, p first, then what g gives by p's value -/
theorem m_two {mT mW mR mN V : Nat → Int32} {T : Nat → Bool} {c : Nat} {f : Fq} (hc : c < 30) (hf : VF f) (hK : f.1 = 2 ∨ f.1 = 3 ∨ f.1 = 4 ∨ f.1 = 5 ∨ f.1 = 8) (hT : ∀ d, d < 30 → mT d = if T d = true then 1 else 0) (hW : mW c = -4) (hN : mN c = nI 0)
    (g1 g2 : (Nat → Int32) → (Nat → Int32) → (Nat → Int32) → Option (Int32 × (Nat → Int32) × (Nat → Int32) × (Nat → Int32)))
    (prog : Option (Int32 × (Nat → Int32) × (Nat → Int32) × (Nat → Int32)))
    (hprog : prog = bd4 (fX8_isReadBy mT mW mR mN (nI c) (nI f.2.1)) fun r a b d => if r = 0 then some (0, a, b, d) else g1 a b d)
    (hg1 : T f.2.1 = true → ∀ a b d, g1 a b d = bd4 (fX8_isReadBy mT a b d (nI c) (nI (sec f V))) fun r a b d => if r = 0 then some (0, a, b, d) else g2 a b d)
    (hg2 : T f.2.1 = true → T (sec f V) = true → ∀ a b d, g2 a b d = some (val2 f.1 (V f.2.1) (V (sec f V)), a, b, d)) : ∃ o, prog = some o ∧ MV c f T V mW mR mN o := by
  have hp : f.2.1 < 30 := by rcases hf with h1 | h1 | h1 | h1 | h1 | h1 <;> omega
  have hs : sec f V < 30 := sec_lt hf (by omega) V
  obtain ⟨oR, oN, oL, oW⟩ := oN_two (T := T) (V := V) hK
  generalize hpe : f.2.1 = p at *
  generalize hse : sec f V = s at *
  generalize val2 f.1 (V p) (V s) = v at *
  have hno : ¬ ∃ i, i < 0 ∧ (fun _ => 0 : Nat → Nat) i = p := by rintro ⟨i, hi, _⟩; omega
  rw [hprog, m_isRead (l := fun _ => 0) hc hp (hT p hp) hW hN (by omega) (fun i hi => by omega) (fun i hi => by omega), if_neg hno, if_neg hno, bd4_e]
  cases hTp : T p
  · simp only [Bool.false_eq_true, if_false, if_true]
    have n1 : ocN f T V = 1 := by rw [oN]; simp [hTp]
    have r1 : ocR f T V = none := by rw [oR]; simp [hTp]
    have w1 : ocW f T V = p := by rw [oW]; simp [hTp]
    refine ⟨_, rfl, fun d hd => ⟨un _ _ hd, un _ _ hd⟩, fun k hk => un _ _ (by omega), by rw [n1]; exact us _ _ _, fun i hi => ?_, (fun v' hv => by rw [r1] at hv; cases hv), fun _ => by rw [w1]; exact us _ _ _⟩
    rw [n1] at hi
    rw [oL, if_pos (by omega), show i = 0 by omega]
    exact us _ _ _
  · simp only [if_true]
    rw [if_neg (by decide), hg1 hTp]
    have hL1 : ∀ i, i < 1 → upd mR (30 * c + 0) (nI p) (30 * c + i) = nI ((fun _ => p) i) := fun i hi => by rw [show i = 0 by omega]; exact us _ _ _
    rw [m_isRead (l := fun _ => p) (n := 1) hc hs (hT s hs) (us _ _ _) (us _ _ _) (by omega) hL1 (fun i _ => hp), bd4_e]
    cases hTs : T s
    · simp only [Bool.false_eq_true, if_false, if_true]
      have hsp : s ≠ p := fun e => by rw [e, hTp] at hTs; cases hTs
      have hno2 : ¬ ∃ i, i < 1 ∧ p = s := by rintro ⟨i, _, e⟩; exact hsp e.symm
      rw [if_neg hno2, if_neg hno2]
      have n1 : ocN f T V = 2 := by rw [oN]; simp [hTp, hsp]
      have r1 : ocR f T V = none := by rw [oR]; simp [hTs]
      have w1 : ocW f T V = s := by rw [oW]; simp [hTp]
      refine ⟨_, rfl, fun d hd => ⟨by show upd _ c _ d = _; rw [un _ _ hd, un _ _ hd], by show upd _ c _ d = _; rw [un _ _ hd, un _ _ hd]⟩, fun k hk => by show upd _ _ _ k = _; rw [un _ _ (by omega), un _ _ (by omega)], by rw [n1]; exact us _ _ _, fun i hi => ?_, (fun v' hv => by rw [r1] at hv; cases hv), fun _ => by rw [w1]; exact us _ _ _⟩
      rw [n1] at hi
      rw [oL]
      by_cases hi0 : i = 0
      · rw [if_pos hi0, hi0]
        show upd _ _ _ (30 * c + 0) = _
        rw [un _ _ (by omega)]
        exact us _ _ _
      · rw [if_neg hi0, show i = 1 by omega]
        exact us _ _ _
    · simp only [if_true]
      rw [if_neg (by decide), hg2 hTp hTs]
      have r1 : ocR f T V = some v := by rw [oR]; simp [hTp, hTs]
      by_cases hsp : s = p
      · have hyes : ∃ i, i < 1 ∧ p = s := ⟨0, by omega, hsp.symm⟩
        rw [if_pos hyes, if_pos hyes]
        have n1 : ocN f T V = 1 := by rw [oN]; simp [hsp]
        refine ⟨_, rfl, fun d hd => ⟨by show upd _ c _ d = _; rw [un _ _ hd, un _ _ hd], by show upd _ c _ d = _; rw [un _ _ hd]⟩, fun k hk => by show upd _ _ _ k = _; rw [un _ _ (by omega)], by rw [n1]; exact us _ _ _, fun i hi => ?_, (fun v' hv => by rw [r1] at hv; cases hv; exact ⟨rfl, us _ _ _⟩), (fun h9 => by rw [r1] at h9; cases h9)⟩
        rw [n1] at hi
        rw [oL, if_pos (by omega), show i = 0 by omega]
        exact us _ _ _
      · have hno2 : ¬ ∃ i, i < 1 ∧ p = s := by rintro ⟨i, _, e⟩; exact hsp e.symm
        rw [if_neg hno2, if_neg hno2]
        have n1 : ocN f T V = 2 := by rw [oN]; simp [hTp, hsp]
        refine ⟨_, rfl, fun d hd => ⟨by show upd _ c _ d = _; rw [un _ _ hd, un _ _ hd], by show upd _ c _ d = _; rw [un _ _ hd, un _ _ hd]⟩, fun k hk => by show upd _ _ _ k = _; rw [un _ _ (by omega), un _ _ (by omega)], by rw [n1]; exact us _ _ _, fun i hi => ?_, (fun v' hv => by rw [r1] at hv; cases hv; exact ⟨rfl, us _ _ _⟩), (fun h9 => by rw [r1] at h9; cases h9)⟩
        rw [n1] at hi
        rw [oL]
        by_cases hi0 : i = 0
        · rw [if_pos hi0, hi0]
          show upd _ _ _ (30 * c + 0) = _
          rw [un _ _ (by omega)]
          exact us _ _ _
        · rw [if_neg hi0, show i = 1 by omega]
          exact us _ _ _
theorem mxI_min (x : Int32) : mxI (-2147483648) x = x := by
  unfold mxI
  by_cases h : (-2147483648 : Int32) < x
  · rw [if_pos h]
  · rw [if_neg h]
    have h1 : ¬ (-2147483648 : Int) < x.toInt := fun z => h (Int32.lt_iff_toInt_lt.mpr z)
    have h2 := (toInt_rg x).1
    exact Int32.toInt_inj.mp (show (-2147483648 : Int) = x.toInt by omega)
theorem m_span {mT mW mR mN V st : Nat → Int32} {T : Nat → Bool} {c : Nat} {F : Fo} (hF : PM F st 0) (hc : c < 30) (hf : VF (F c)) (hK : (F c).1 = 6 ∨ (F c).1 = 7) (hT : ∀ d, d < 30 → mT d = if T d = true then 1 else 0) (hW : mW c = -4) (hN : mN c = nI 0) : ∃ o, fX8_spanned st V mT mW mR mN (nI c) = some o ∧ MV c (F c) T V mW mR mN o := by
  obtain ⟨s0, s1, s2, s3⟩ := hF c hc
  simp only [Nat.zero_add] at s0 s1 s2 s3
  generalize hfe : F c = f at *
  have hpq : f.2.1 ≤ f.2.2.1 ∧ f.2.2.1 < 30 := by rcases hf with h1 | h1 | h1 | h1 | h1 | h1 <;> omega
  have e1 : ¬ f.1 ≤ 1 := by omega
  have sp : spn f = f.2.2.1 + 1 - f.2.1 := rfl
  have oR : ocR f T V = if spl T f.2.1 (spn f) = spn f then some (if f.1 = 6 then smS V f.2.1 (spn f) else mxS V f.2.1 (spn f)) else none := by unfold ocR; rw [if_neg e1, if_pos hK]
  have oN : ocN f T V = if spl T f.2.1 (spn f) = spn f then spn f else spl T f.2.1 (spn f) + 1 := by unfold ocN; rw [if_neg e1, if_pos hK]
  have oL : ∀ i, ocL f V i = f.2.1 + i := fun i => by unfold ocL; rw [if_pos hK]
  have oW : ocW f T V = f.2.1 + spl T f.2.1 (spn f) := by unfold ocW; rw [if_pos hK]
  generalize hpe : f.2.1 = p at *
  generalize hqe : f.2.2.1 = q at *
  generalize hle : spn f = n at *
  obtain ⟨hpq, hq⟩ := hpq
  have main : ∀ b : Int32, (b = if f.1 = 6 then 1 else 0) → ∃ o, fX8_spanned_j16 st V mT (nI c) mW mR mN b = some o ∧ MV c f T V mW mR mN o := by
    intro b hb
    unfold fX8_spanned_j16
    rw [show (30 : Int32) = nI 30 from rfl, nI_add, rdN (by omega) (by omega), s1]
    refine fr4 (fX8_spanned_b33 st V mT (nI c) b (nI p)) (q + 1)
      (fun d a1 a2 a3 v => p ≤ d ∧ (∀ i, i < d - p → T (p + i) = true) ∧ (∀ e, e ≠ c → a1 e = mW e ∧ a3 e = mN e) ∧ a1 c = -4 ∧ a3 c = nI (d - p) ∧ (∀ k, k < 30 * c ∨ 30 * c + 30 ≤ k → a2 k = mR k) ∧ (∀ i, i < d - p → a2 (30 * c + i) = nI (p + i)) ∧ v = if f.1 = 6 then smS V p (d - p) else if d = p then 0 else mxS V p (d - p))
      (fun r => ∃ o, r = some o ∧ MV c f T V mW mR mN o) (by omega) ?_ ?_ fu p mW mR mN 0 (by omega) (by unfold fu; omega) ?_
    · intro self d a1 a2 a3 v hd ⟨hpd, ht, ho, hW1, hN1, hR1, hL1, hv⟩ hself
      have hd30 : d < 30 := by omega
      unfold fX8_spanned_b33
      have hno : ¬ ∃ i, i < d - p ∧ p + i = d := by rintro ⟨i, hi, e⟩; omega
      rw [show (60 : Int32) = nI 60 from rfl, nI_add, rdN (by omega) (by omega), s2, if_neg (nI_nlt (by omega) (by omega)), m_isRead (l := fun i => p + i) hc hd30 (hT d hd30) hW1 hN1 (by omega) hL1 (fun i hi => by show p + i < 30; omega), bd4_e, if_neg hno, if_neg hno]
      cases hTd : T d
      · simp only [Bool.false_eq_true, if_false, if_true]
        have hspl : spl T p n = d - p := spl_eq (by omega) ht (fun _ => by rw [show p + (d - p) = d by omega]; exact hTd)
        have r1 : ocR f T V = none := by rw [oR, hspl, if_neg (by omega)]
        have n1 : ocN f T V = d - p + 1 := by rw [oN, hspl, if_neg (by omega)]
        have w1 : ocW f T V = d := by rw [oW, hspl]; omega
        refine ⟨_, rfl, fun e he => ⟨by show upd _ c _ e = _; rw [un _ _ he]; exact (ho e he).1, by show upd _ c _ e = _; rw [un _ _ he]; exact (ho e he).2⟩, fun k hk => by show upd _ _ _ k = _; rw [un _ _ (by omega)]; exact hR1 k hk, by rw [n1]; exact us _ _ _, fun i hi => ?_, (fun v' hv => by rw [r1] at hv; cases hv), fun _ => by rw [w1]; exact us _ _ _⟩
        rw [n1] at hi
        rw [oL]
        by_cases h9 : i < d - p
        · show upd _ _ _ (30 * c + i) = _
          rw [un _ _ (by omega)]
          exact hL1 i h9
        · rw [show i = d - p by omega, show p + (d - p) = d by omega]
          exact us _ _ _
      · simp only [if_true]
        rw [if_neg (by decide)]
        have e3 : d + 1 - p = d - p + 1 := by omega
        have go : ∀ v' : Int32, (v' = if f.1 = 6 then smS V p (d + 1 - p) else mxS V p (d + 1 - p)) → ∃ o, fX8_spanned_j106 st V mT (nI c) self (upd a1 c (-4)) (upd a2 (30 * c + (d - p)) (nI d)) (upd a3 c (nI (d - p + 1))) b (nI p) (nI d) v' = some o ∧ MV c f T V mW mR mN o := by
          intro v' hv'
          unfold fX8_spanned_j106
          rw [nI_1]
          refine hself _ _ _ _ ⟨by omega, fun i hi => ?_, fun e he => ⟨by rw [un _ _ he]; exact (ho e he).1, by rw [un _ _ he]; exact (ho e he).2⟩, us _ _ _, by rw [us, e3], fun k hk => by rw [un _ _ (by omega)]; exact hR1 k hk, fun i hi => ?_, ?_⟩
          · by_cases h9 : i < d - p
            · exact ht i h9
            · rw [show p + i = d by omega]; exact hTd
          · by_cases h9 : i < d - p
            · rw [un _ _ (by omega)]; exact hL1 i h9
            · rw [show i = d - p by omega, us, show p + (d - p) = d by omega]
          · rw [hv', if_neg (show ¬ d + 1 = p by omega)]
        have hpd2 : p + (d - p) = d := by omega
        by_cases h6 : f.1 = 6
        · rw [if_pos h6] at hb hv
          rw [hb, if_neg (by decide), rdN hd30 (by omega), ← hb]
          exact go _ (by rw [if_pos h6, e3, smS, hv, hpd2])
        · rw [if_neg h6] at hb hv
          rw [hb, if_pos rfl, ← hb]
          by_cases hdp : d = p
          · rw [if_pos (by rw [hdp])]
            unfold fX8_spanned_j94
            rw [rdN hd30 (by omega)]
            refine go _ ?_
            rw [if_neg h6, e3, show d - p = 0 by omega, mxS, mxS, mxI_min, Nat.add_zero, hdp]
          · rw [if_neg (fun e => hdp (nI_inj e (by omega) (by omega))), rdN hd30 (by omega)]
            rw [if_neg hdp] at hv
            by_cases hle2 : V d ≤ v
            · rw [if_pos hle2]
              refine go _ ?_
              rw [if_neg h6, e3, mxS, ← hv, hpd2]
              unfold mxI
              rw [if_neg (fun z => by have := Int32.lt_iff_toInt_lt.mp z; have := Int32.le_iff_toInt_le.mp hle2; omega)]
            · rw [if_neg hle2]
              unfold fX8_spanned_j94
              rw [rdN hd30 (by omega)]
              refine go _ ?_
              rw [if_neg h6, e3, mxS, ← hv, hpd2]
              unfold mxI
              rw [if_pos (Int32.lt_iff_toInt_lt.mpr (by have : ¬ (V d).toInt ≤ v.toInt := fun z => hle2 (Int32.le_iff_toInt_le.mpr z); omega))]
    · intro self a1 a2 a3 v ⟨hpd, ht, ho, hW1, hN1, hR1, hL1, hv⟩
      unfold fX8_spanned_b33
      rw [show (60 : Int32) = nI 60 from rfl, nI_add, rdN (by omega) (by omega), s2, if_pos (nI_lt (by omega) (by omega))]
      have hnn : q + 1 - p = n := by omega
      rw [hnn] at ht hL1 hv hN1
      have hspl : spl T p n = n := spl_eq (by omega) ht (fun h9 => by omega)
      have n1 : ocN f T V = n := by rw [oN, if_pos hspl]
      refine ⟨_, rfl, ho, hR1, by rw [n1]; exact hN1, fun i hi => by rw [oL]; exact hL1 i (by omega), (fun v' hv' => ⟨?_, hW1⟩), (fun h9 => by rw [oR, if_pos hspl] at h9; cases h9)⟩
      rw [oR, if_pos hspl, if_neg (show ¬ q + 1 = p by omega)] at *
      exact hv.trans (Option.some.inj hv')
    · exact ⟨Nat.le_refl _, fun i hi => by omega, fun e he => ⟨rfl, rfl⟩, hW, by rw [Nat.sub_self]; exact hN, fun k _ => rfl, fun i hi => by omega, by rw [Nat.sub_self]; split <;> simp [smS]⟩
  unfold fX8_spanned
  rw [rdN (by omega) (by omega), s0]
  rcases hK with h6 | h7
  · rw [if_pos (by rw [h6]; decide)]
    exact main 1 (by rw [if_pos h6])
  · rw [if_neg (by rw [h7]; decide)]
    exact main 0 (by rw [if_neg (by omega)])
