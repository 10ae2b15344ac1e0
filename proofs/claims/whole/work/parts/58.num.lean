/-! TEXT: a number, an operand, behind a fault -/
def brC (C : Nat) : Int32 := if C = 4 then 1 else 0
def baC (C z : Nat) (ba : Int32) : Int32 := if C = 4 then nI z else ba
theorem m_broken {tp : Nat → Int32} {T sp he tm nm e ba : Int32} (he' : e = 1 ∨ e = 2 ∨ e = 3) : fX8_readsOn tp T e ba sp he tm nm = some (e, ba, sp, he, tm, nm) := by
  unfold fX8_readsOn
  rcases he' with rfl | rfl | rfl
  · rw [if_neg (by decide)]
  · rw [if_neg (by decide)]
  · rw [if_neg (by decide)]
theorem m_numB {tp : Nat → Int32} {T sp he tm nm e ba lo hi : Int32} (he' : e = 1 ∨ e = 2 ∨ e = 3) : fX8_numberRead tp T e ba sp he tm nm lo hi = some (lo, e, ba, sp, he, tm, nm) := by
  have h0 : ¬ e = 0 := by rcases he' with rfl | rfl | rfl <;> decide
  unfold fX8_numberRead fX8_numberRead_j20 fX8_numberRead_j47 fX8_numberRead_j62
  rw [if_neg h0, if_neg h0, if_neg h0, m_broken he', bd6_e]
theorem num {by_ tp : Nat → Int32} {T x y z C N : Nat} {tm nm : Int32} (h : TOK by_ tp T x y z C N tm nm) {lo hi : Nat} (hlo : lo < 2 ^ 31) (hhi : hi < 2 ^ 31) (f s t n ba : Int32) :
    (∃ e n' tc, (e = 1 ∨ e = 2 ∨ e = 3) ∧ fX6_takesNumber f by_ (nI T) (nI x) s t n (nI lo) (nI hi) = some (0, e, nI y, nI z, tc, n') ∧ fX8_numberRead tp (nI T) (brC C) (baC C z ba) (nI y) (nI z) tm nm (nI lo) (nI hi) = some (nI lo, e, nI z, nI y, nI z, tm, nm)) ∨
    (C = 2 ∧ lo ≤ N ∧ N ≤ hi ∧ fX6_takesNumber f by_ (nI T) (nI x) s t n (nI lo) (nI hi) = some (1, f, nI y, nI z, 2, nI N) ∧ ∀ y2 z2 C2 N2 tm2 nm2, TOK by_ tp T y y2 z2 C2 N2 tm2 nm2 → fX8_numberRead tp (nI T) (brC C) (baC C z ba) (nI y) (nI z) tm nm (nI lo) (nI hi) = some (nI N, brC C2, baC C2 z2 ba, nI y2, nI z2, tm2, nm2)) := by
  obtain ⟨t1, t2, t3, t4, t5, t6, t7, t8, t9⟩ := h
  obtain ⟨n', a1, a2⟩ := t8 s t n
  unfold fX6_takesNumber fX6_takesNumber_j35 fX6_fails fX6_fails_j14
  rw [a1, bd4_e]
  by_cases e4 : C = 4
  · subst e4
    refine Or.inl ⟨1, n', nI 4, Or.inl rfl, ?_, ?_⟩
    · rw [if_neg (show ¬ nI 4 = 2 by decide), if_pos (show nI 4 = 4 from rfl), bd2_e, ckT (Or.inl rfl)]
    · rw [show brC 4 = 1 from rfl, show baC 4 z ba = nI z from rfl, m_numB (Or.inl rfl)]
  · have hbr : brC C = 0 := if_neg e4
    have hba : baC C z ba = ba := if_neg e4
    rw [hbr, hba, t7 e4]
    have n4 : ¬ nI C = 4 := fun w => e4 (nI_inj (b := 4) w (by omega) (by omega))
    by_cases e2 : C = 2
    · subst e2
      obtain ⟨b1, rfl⟩ := t6 rfl
      rw [a2 rfl]
      have hin : fX8_in (nI N).toInt64 (nI lo).toInt64 (nI hi).toInt64 = some (if lo ≤ N ∧ N ≤ hi then 1 else 0) := by
        rw [f_in, to64, to64, to64, nI_toInt hlo, nI_toInt hhi, nI_toInt (by omega)]
        by_cases q : lo ≤ N ∧ N ≤ hi
        · rw [if_pos q, if_pos (by omega)]
        · rw [if_neg q, if_neg (by omega)]
      by_cases q : lo ≤ N ∧ N ≤ hi
      · refine Or.inr ⟨rfl, q.1, q.2, ?_, fun y2 z2 C2 N2 tm2 nm2 h2 => ?_⟩
        · rw [if_pos (show nI 2 = 2 from rfl), if_neg (nI_nlt q.1 (by omega)), if_pos (nI_le q.2 hhi)]
          rfl
        · unfold fX8_numberRead fX8_numberRead_j20 fX8_numberRead_j47 fX8_numberRead_j62
          rw [if_pos (show (0 : Int32) = 0 from rfl), if_pos (show nI 2 = 2 from rfl), if_pos (show (0 : Int32) = 0 from rfl), hin, if_pos q, bd1_e, if_neg (show ¬ (1 : Int32) = 0 by decide), if_pos (show (0 : Int32) = 0 from rfl), h2.2.2.2.2.2.2.2.2, bd6_e]
          rfl
      · refine Or.inl ⟨3, nI N, nI 2, Or.inr (Or.inr rfl), ?_, ?_⟩
        · rw [if_pos (show nI 2 = 2 from rfl), if_neg (show ¬ nI 2 = 4 by decide), bd2_e, ckT (Or.inl rfl)]
          by_cases q1 : N < lo
          · rw [if_pos (nI_lt q1 hlo)]
          · rw [if_neg (nI_nlt (by omega) (by omega)), if_neg (nI_ge (show hi < N by omega) (by omega))]
        · unfold fX8_numberRead fX8_numberRead_j20 fX8_fails
          rw [if_pos (show (0 : Int32) = 0 from rfl), if_pos (show nI 2 = 2 from rfl), if_pos (show (0 : Int32) = 0 from rfl), hin, if_neg q, bd1_e, if_pos (show (0 : Int32) = 0 from rfl), if_pos (show (0 : Int32) = 0 from rfl), bd2_e]
          unfold fX8_numberRead_j47 fX8_numberRead_j62
          rw [if_neg (show ¬ (3 : Int32) = 0 by decide), m_broken (Or.inr (Or.inr rfl)), bd6_e]
    · have n2 : ¬ nI C = 2 := fun w => e2 (nI_inj (b := 2) w (by omega) (by omega))
      refine Or.inl ⟨2, n', nI C, Or.inr (Or.inl rfl), ?_, ?_⟩
      · rw [if_neg n2, if_neg n4, bd2_e, ckT (Or.inl rfl)]
      · unfold fX8_numberRead fX8_fails
        rw [if_pos (show (0 : Int32) = 0 from rfl), if_neg n2, if_pos (show (0 : Int32) = 0 from rfl), bd2_e]
        unfold fX8_numberRead_j20 fX8_numberRead_j47 fX8_numberRead_j62
        rw [if_neg (show ¬ (2 : Int32) = 0 by decide), if_neg (show ¬ (2 : Int32) = 0 by decide), m_broken (Or.inr (Or.inl rfl)), bd6_e]
/-- an operand of the reference's -/
theorem m_op {tp en le st : Nat → Int32} {T sp he tm nm br ba p : Int32} {K c w k : Nat} (hK : K < 9) (hc : c < 30) (hw : w ≤ opN K) (hw3 : w ≤ 3) : lq8 (fX8_readLine_b102 tp T en le (nI K) (nI c) p) (k + 1) st br ba sp he tm nm (nI w) = bd7 (fX8_numberRead tp T br ba sp he tm nm (if K = 6 ∨ K = 7 then p else 0) 29) fun v br ba sp he tm nm => lq8 (fX8_readLine_b102 tp T en le (nI K) (nI c) p) k (upd st (360 + 30 * w + c) v) br ba sp he tm nm (nI (w + 1)) := by
  rw [lq8_s]
  generalize lq8 (fX8_readLine_b102 tp T en le (nI K) (nI c) p) k = self
  have ha : ((360 : Int32) + (30 : Int32) * nI w) + nI c = nI (360 + 30 * w + c) := by rw [show (30 : Int32) * nI w = nI (30 * w) from pk_mul 30 w, show (360 : Int32) + nI (30 * w) = nI (360 + 30 * w) from nI_add 360 _, nI_add]
  have fin : ∀ s3 : Int32, (bd7 (fX8_numberRead tp T br ba sp he tm nm s3 29) fun r br ba sp he tm nm => wr st 720 (nI (360 + 30 * w + c)) r fun w149 => self w149 br ba sp he tm nm (nI (w + 1))) = bd7 (fX8_numberRead tp T br ba sp he tm nm s3 29) fun v br ba sp he tm nm => self (upd st (360 + 30 * w + c) v) br ba sp he tm nm (nI (w + 1)) := fun s3 => by
    congr 1
    funext v br ba sp he tm nm
    rw [wrN (by omega) (by omega)]
  unfold fX8_readLine_b102 fX8_readLine_j139 fX8_readLine_j144
  rw [m_ops K hK, bd1_e, if_neg (nI_nlt hw (by have := opN_le K hK; omega)), ha, nI_1]
  by_cases e6 : K = 6
  · subst e6
    rw [if_pos (show nI 6 = 6 from rfl), if_pos (Or.inl rfl)]
    exact fin p
  · rw [if_neg (show ¬ nI K = 6 from fun q => e6 (nI_inj (b := 6) q (by omega) (by omega)))]
    by_cases e7 : K = 7
    · subst e7
      rw [if_pos (show nI 7 = 7 from rfl), if_pos (Or.inr rfl)]
      exact fin p
    · rw [if_neg (show ¬ nI K = 7 from fun q => e7 (nI_inj (b := 7) q (by omega) (by omega))), if_neg (by omega)]
      exact fin 0
/-- behind a fault the reference's line ends, its fault as it was -/
theorem m_tail {tp en le : Nat → Int32} {T sp he tm nm e ba p : Int32} {K c : Nat} (hK : K < 9) (hc : c < 30) (he' : e = 1 ∨ e = 2 ∨ e = 3) : ∀ r w k st, w + r = opN K + 1 → r < k → ∃ st', lq8 (fX8_readLine_b102 tp T en le (nI K) (nI c) p) k st e ba sp he tm nm (nI w) = some (st', e, ba, sp, he, tm, nm) ∧ ∀ j, (j < 360 ∨ 480 ≤ j) → st' j = st j := by
  have h0 : ¬ e = 0 := by rcases he' with rfl | rfl | rfl <;> decide
  have hO := opN_le K hK
  intro r
  induction r with
  | zero =>
    intro w k st hw hk
    obtain ⟨k, rfl⟩ : ∃ q, k = q + 1 := ⟨k - 1, by omega⟩
    rw [lq8_s]
    unfold fX8_readLine_b102 fX8_readLine_j176
    rw [m_ops K hK, bd1_e, if_pos (nI_lt (show opN K < w by omega) (by omega)), if_neg h0, m_broken he', bd6_e]
    exact ⟨st, rfl, fun _ _ => rfl⟩
  | succ r ih =>
    intro w k st hw hk
    obtain ⟨k, rfl⟩ : ∃ q, k = q + 1 := ⟨k - 1, by omega⟩
    rw [m_op hK hc (by omega) (by omega), m_numB he', bd7_e]
    obtain ⟨st', a1, a2⟩ := ih (w + 1) k _ (by omega) (by omega)
    refine ⟨st', a1, fun j hj => ?_⟩
    rw [a2 j hj, un _ _ (by omega)]
theorem m_b31 {tp en le st : Nat → Int32} {T sp he tm nm br ba : Int32} {K c : Nat} (hK : K < 9) (hc : c < 30) : ∃ st1, lq2 (fX8_readLine_b31 tp T en le br ba sp he tm nm (nI K) (nI c)) fu st 1 = fX8_readLine_j84 tp T en le st1 br ba sp he tm nm (nI K) (nI c) 0 (nI (if K = 1 then 999 else 29)) ∧ (st1 (360 + c) = nI K ∧ st1 (390 + c) = 0 ∧ st1 (420 + c) = 0 ∧ st1 (450 + c) = 0) ∧ ∀ j, j ≠ 360 + c → j ≠ 390 + c → j ≠ 420 + c → j ≠ 450 + c → st1 j = st j := by
  have ha : ∀ i : Nat, ((360 : Int32) + (30 : Int32) * nI i) + nI c = nI (360 + 30 * i + c) := fun i => by rw [show (30 : Int32) * nI i = nI (30 * i) from pk_mul 30 i, show (360 : Int32) + nI (30 * i) = nI (360 + 30 * i) from nI_add 360 _, nI_add]
  have step : ∀ (st : Nat → Int32) (i k : Nat), i < 4 → lq2 (fX8_readLine_b31 tp T en le br ba sp he tm nm (nI K) (nI c)) (k + 1) st (nI i) = lq2 (fX8_readLine_b31 tp T en le br ba sp he tm nm (nI K) (nI c)) k (upd st (360 + 30 * i + c) 0) (nI (i + 1)) := fun st i k hi => by
    rw [lq2_s]
    generalize lq2 (fX8_readLine_b31 tp T en le br ba sp he tm nm (nI K) (nI c)) k = self
    unfold fX8_readLine_b31
    rw [if_neg (show ¬ (4 : Int32) ≤ nI i from nI_ge (b := 4) hi (by omega)), ha, wrN (by omega) (by omega), nI_1]
  refine ⟨upd (upd (upd (upd st (390 + c) 0) (420 + c) 0) (450 + c) 0) (360 + c) (nI K), ?_, ⟨us _ _ _, ?_, ?_, ?_⟩, fun j h1 h2 h3 h4 => ?_⟩
  · rw [show fu = 996 + 1 + 1 + 1 + 1 from rfl, show (1 : Int32) = nI 1 from rfl, step _ 1 _ (by omega), step _ 2 _ (by omega), step _ 3 _ (by omega), lq2_s]
    unfold fX8_readLine_b31
    rw [if_pos (show (4 : Int32) ≤ nI (3 + 1) by decide), show (360 : Int32) + nI c = nI (360 + c) from nI_add 360 c, wrN (by omega) (by omega)]
    by_cases e : K = 1
    · rw [if_pos e, e, if_pos (show nI 1 = 1 from rfl)]; rfl
    · rw [if_neg e, if_neg (show ¬ nI K = 1 from fun w => e (nI_inj (b := 1) w (by omega) (by omega)))]; rfl
  · rw [un _ _ (by omega), un _ _ (by omega), un _ _ (by omega), us]
  · rw [un _ _ (by omega), un _ _ (by omega), us]
  · rw [un _ _ (by omega), us]
  · rw [un _ _ h1, un _ _ h4, un _ _ h3, un _ _ h2]
/-- an operand of the class's -/
theorem c_op {by_ d : Nat → Int32} {T f a s t n M : Int32} {K c w k : Nat} (hK : K < 9) (hc : c < 30) (hw : w ≤ opN K) (hw3 : w ≤ 3) : lq7 (fX6_takesLine_b67 by_ T (nI K) (nI c) M (nI (opN K))) (k + 1) d f a s t n (nI w) = bd6 (fX6_takesNumber f by_ T a s t n (if (K = 6 ∨ K = 7) ∧ w = 2 then d (4 * c + 1) else 0) M) fun r f a s t n => if r = 0 then some (0, d, f, a, s, t, n) else lq7 (fX6_takesLine_b67 by_ T (nI K) (nI c) M (nI (opN K))) k (upd d (4 * c + w) n) f a s t n (nI (w + 1)) := by
  rw [lq7_s]
  generalize lq7 (fX6_takesLine_b67 by_ T (nI K) (nI c) M (nI (opN K))) k = self
  have ha : nI c * 4 + nI w = nI (4 * c + w) := by rw [show (4 : Int32) = nI 4 from rfl, pk_mul, nI_add, Nat.mul_comm]
  have fin : ∀ s3 : Int32, (bd6 (fX6_takesNumber f by_ T a s t n s3 M) fun r f a s t n => if r = 0 then some (0, d, f, a, s, t, n) else bd1 (wr d 120 (nI (4 * c + w)) n fun w10 => some w10) fun d => self d f a s t n (nI (w + 1))) = bd6 (fX6_takesNumber f by_ T a s t n s3 M) fun r f a s t n => if r = 0 then some (0, d, f, a, s, t, n) else self (upd d (4 * c + w) n) f a s t n (nI (w + 1)) := fun s3 => by
    congr 1
    funext r f a s t n
    rw [wrN (by omega) (by omega), bd1_e]
  unfold fX6_takesLine_b67 fX6_takesLine_j99 fX6_takesLine_j100 fX1_setOperand
  rw [if_neg (nI_nlt hw (by have := opN_le K hK; omega)), f_isSpan (k := K) (by omega), bd1_e, ha, nI_1]
  by_cases e : K = 6 ∨ K = 7
  · rw [if_pos e, if_neg (show ¬ (1 : Int32) = 0 by decide)]
    by_cases e2 : w = 2
    · subst e2
      rw [if_pos (show nI 2 = 2 from rfl), f_part1 hc, bd1_e, if_pos ⟨e, rfl⟩]
      exact fin _
    · rw [if_neg (show ¬ nI w = 2 from fun q => e2 (nI_inj (b := 2) q (by omega) (by omega))), if_neg (fun q => e2 q.2)]
      exact fin _
  · rw [if_neg e, if_pos (show (0 : Int32) = 0 from rfl), if_neg (fun q => e q.1)]
    exact fin _
