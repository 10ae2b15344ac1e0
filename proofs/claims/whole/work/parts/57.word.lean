/-! TEXT: the words -/
def enN (k : Nat) : Nat := ([0, 3, 6, 9, 12, 16, 19, 23, 27] : List Nat).getD k 0
def leN (k : Nat) : Nat := ([110, 117, 109, 97, 100, 100, 115, 117, 98, 109, 117, 108, 112, 105, 99, 107, 115, 117, 109, 109, 111, 115, 116, 119, 104, 101, 110] : List Nat).getD k 0
def wl (n : Nat) : Nat := enN (n + 1) - enN n
/-- the reference's tables -/
def EL (en le : Nat → Int32) : Prop := (∀ k, k < 9 → en k = nI (enN k)) ∧ ∀ k, k < 27 → le k = nI (leN k)
theorem wd_len : ∀ n, n < 8 → fJ0_length_8abf5 n = some (nI (wl n)) := by decide +kernel
theorem wd_ch : ∀ n, n < 8 → ∀ j, j < 4 → j < wl n → fJ0_charAt_5068e n (nI j) = some (nI (leN (enN n + j))) := by decide +kernel
theorem wd_of : ∀ n, n < 8 → fX6_wordOf (nI (n + 1)) = some n := by decide +kernel
theorem wl_le : ∀ n, n < 8 → wl n ≤ 4 ∧ enN n + wl n ≤ 27 ∧ enN (n + 1) = enN n + wl n ∧ ∀ j, j < 4 → leN (enN n + j) < 128 := by decide +kernel
def wm (tb : Nat → Nat) (z y n : Nat) : Bool := decide (y - z = wl n ∧ ∀ j, j < wl n → tb (z + j) = leN (enN n + j))
theorem c_isWord {by_ tp : Nat → Int32} {tb : Nat → Nat} {T z y n : Nat} (h : TP by_ tp tb T) (hz : z ≤ y) (hy : y ≤ T) (hn : n < 8) : fX5_isWord by_ (nI y) (nI z) 1 n = some (if wm tb z y n = true then 1 else 0) := by
  have hT := h.1
  obtain ⟨w1, w2, w3, w4⟩ := wl_le n hn
  unfold fX5_isWord
  rw [if_pos (show (1 : Int32) = 1 from rfl), wd_len n hn, bd1_e, pk_sub hz]
  by_cases e : y - z = wl n
  · rw [if_pos (by rw [e])]
    refine fr0 (fX5_isWord_b28 by_ (nI y) (nI z) 1 n) (wl n) (fun j => ∀ i, i < j → tb (z + i) = leN (enN n + i)) (fun r => r = some (if wm tb z y n = true then 1 else 0)) (by omega) ?_ ?_ fu 0 (by omega) (by unfold fu; omega) (fun i hi => by omega)
    · intro self j hj hI hself
      have hb := h.2 (z + j) (by omega)
      unfold fX5_isWord_b28
      rw [wd_len n hn, bd1_e, if_neg (nI_ge hj (by omega)), nI_add, rdN (by omega) (by omega), hb.2.1, wd_ch n hn j (by omega) hj, bd1_e, nI_1]
      by_cases q : tb (z + j) = leN (enN n + j)
      · rw [if_pos (by rw [q])]
        refine hself (fun i hi => ?_)
        by_cases k : i = j
        · rw [k]; exact q
        · exact hI i (by omega)
      · rw [if_neg (fun w => q (nI_inj w (by omega) (by have := w4 j (by omega); omega))), if_neg]
        intro w
        exact q ((of_decide_eq_true w).2 j hj)
    · intro self hI
      unfold fX5_isWord_b28
      rw [wd_len n hn, bd1_e, if_pos (nI_le (Nat.le_refl _) (by omega)), if_pos (show wm tb z y n = true from decide_eq_true ⟨e, hI⟩)]
  · rw [if_neg (fun w => e (nI_inj w (by omega) (by omega))), if_neg]
    intro w
    exact e (of_decide_eq_true w).1
theorem c_isWord0 {by_ : Nat → Int32} {a s t : Int32} {n : Nat} (ht : ¬ t = 1) : fX5_isWord by_ a s t n = some 0 := by
  unfold fX5_isWord
  rw [if_neg ht]
def fk (w : Nat → Bool) : Nat → Nat → Nat
  | 0, _ => 0
  | r + 1, n => if w n = true then n + 1 else fk w r (n + 1)
theorem fk_le (w : Nat → Bool) : ∀ r n, fk w r n = 0 ∨ (1 ≤ fk w r n ∧ fk w r n ≤ n + r)
  | 0, n => Or.inl rfl
  | r + 1, n => by
    unfold fk
    split
    · exact Or.inr ⟨by omega, by omega⟩
    · rcases fk_le w r (n + 1) with h | h
      · exact Or.inl h
      · exact Or.inr ⟨h.1, by omega⟩
theorem c_kind {by_ tp : Nat → Int32} {tb : Nat → Nat} {T z y : Nat} (h : TP by_ tp tb T) (hz : z ≤ y) (hy : y ≤ T) : ∀ r n k, n + r = 8 → r < k → lq1 (fX6_kindTold_b2 by_ (nI y) (nI z) 1) k (nI (n + 1)) = some (nI (fk (wm tb z y) r n)) := by
  intro r
  induction r with
  | zero =>
    intro n k hn hk
    obtain ⟨k, rfl⟩ : ∃ e, k = e + 1 := ⟨k - 1, by omega⟩
    have : n = 8 := by omega
    subst this
    rw [lq1_s]
    unfold fX6_kindTold_b2
    rw [if_pos (show (9 : Int32) ≤ nI (8 + 1) by decide)]
    rfl
  | succ r ih =>
    intro n k hn hk
    obtain ⟨k, rfl⟩ : ∃ e, k = e + 1 := ⟨k - 1, by omega⟩
    rw [lq1_s]
    have e1 : fX6_kindTold_b2 by_ (nI y) (nI z) 1 (lq1 (fX6_kindTold_b2 by_ (nI y) (nI z) 1) k) (nI (n + 1)) = if wm tb z y n = true then some (nI (n + 1)) else lq1 (fX6_kindTold_b2 by_ (nI y) (nI z) 1) k (nI (n + 1 + 1)) := by
      generalize lq1 (fX6_kindTold_b2 by_ (nI y) (nI z) 1) k = self
      unfold fX6_kindTold_b2
      rw [if_neg (show ¬ (9 : Int32) ≤ nI (n + 1) from nI_ge (b := 9) (by omega) (by omega)), wd_of n (by omega), bd1_e, c_isWord h hz hy (by omega), bd1_e, nI_1]
      cases wm tb z y n
      · rfl
      · rfl
    rw [e1, ih (n + 1) k (by omega) (by omega)]
    show _ = some (nI (if wm tb z y n = true then n + 1 else fk (wm tb z y) r (n + 1)))
    split <;> rfl
theorem c_kind0 {by_ : Nat → Int32} {a s t : Int32} (ht : ¬ t = 1) : fX6_kindTold by_ a s t = some 0 := by
  unfold fX6_kindTold
  refine fr0 (fX6_kindTold_b2 by_ a s t) 9 (fun n => 1 ≤ n) (fun r => r = some 0) (by omega) ?_ ?_ fu 1 (by omega) (by unfold fu; omega) (by omega)
  · intro self n hn hI hself
    obtain ⟨n, rfl⟩ : ∃ m, n = m + 1 := ⟨n - 1, by omega⟩
    unfold fX6_kindTold_b2
    rw [if_neg (show ¬ (9 : Int32) ≤ nI (n + 1) from nI_ge (b := 9) (by omega) (by omega)), wd_of n (by omega), bd1_e, c_isWord0 ht, bd1_e, if_pos (show (0 : Int32) = 0 from rfl), nI_1]
    exact hself (by omega)
  · intro self hI
    unfold fX6_kindTold_b2
    rw [if_pos (show (9 : Int32) ≤ nI 9 by decide)]
theorem m_word {by_ tp en le : Nat → Int32} {tb : Nat → Nat} {T z y n : Nat} (h : TP by_ tp tb T) (hE : EL en le) (hz : z ≤ y) (hy : y ≤ T) (hn : n < 8) (self : Int32 → Option Int32) : fX8_kindHere_b2 tp (nI T) (nI y) (nI z) 1 en le self (nI n) = if wm tb z y n = true then some (nI (n + 1)) else self (nI (n + 1)) := by
  have hT := h.1
  obtain ⟨w1, w2, w3, w4⟩ := wl_le n hn
  unfold fX8_kindHere_b2 fX8_kindHere_j48
  rw [if_neg (show ¬ (8 : Int32) ≤ nI n from nI_ge (b := 8) hn (by omega)), if_pos (show (1 : Int32) = 1 from rfl), nI_1, rdN (by omega) (by omega), rdN (by omega) (by omega), hE.1 _ (by omega), hE.1 _ (by omega), pk_sub hz, pk_sub (show enN n ≤ enN (n + 1) by omega)]
  by_cases e : y - z = wl n
  · rw [if_pos (by rw [e]; rfl)]
    refine fr1 (fX8_kindHere_b51 tp (nI T) (nI y) (nI z) 1 en le self (nI n)) (wl n) (fun j f => (f = 1 ∧ ∀ i, i < j → tb (z + i) = leN (enN n + i)) ∨ (f = 0 ∧ wm tb z y n = false)) (fun r => r = if wm tb z y n = true then some (nI (n + 1)) else self (nI (n + 1))) (by omega) ?_ ?_ fu 0 1 (by omega) (by unfold fu; omega) (Or.inl ⟨rfl, fun i hi => by omega⟩)
    · intro self2 j f hj hI hself
      unfold fX8_kindHere_b51 fX8_kindHere_j106 fX8_kindHere_j99
      rcases hI with ⟨rfl, hI⟩ | ⟨rfl, hI⟩
      · have hb := h.2 (z + j) (by omega)
        rw [if_neg (show ¬ (1 : Int32) = 0 by decide), pk_sub hz, if_neg (nI_ge (show j < y - z by omega) (by omega)), nI_add, m_byteIn h (by omega), bd1_e, rdN (by omega) (by omega), hE.1 _ (by omega), nI_add, rdN (by omega) (by omega), hE.2 _ (by omega), nI_1]
        by_cases q : tb (z + j) = leN (enN n + j)
        · rw [if_pos (by rw [q])]
          refine hself _ (Or.inl ⟨rfl, fun i hi => ?_⟩)
          by_cases k : i = j
          · rw [k]; exact q
          · exact hI i (by omega)
        · rw [if_neg (fun w => q (nI_inj w (by omega) (by have := w4 j (by omega); omega)))]
          exact hself _ (Or.inr ⟨rfl, decide_eq_false (fun w => q (w.2 j hj))⟩)
      · rw [if_pos (show (0 : Int32) = 0 from rfl), if_pos (show (0 : Int32) = 0 from rfl), hI, if_neg (by decide), nI_1]
    · intro self2 f hI
      unfold fX8_kindHere_b51 fX8_kindHere_j106
      rcases hI with ⟨rfl, hI⟩ | ⟨rfl, hI⟩
      · rw [if_neg (show ¬ (1 : Int32) = 0 by decide), pk_sub hz, if_pos (nI_le (show y - z ≤ wl n by omega) (by omega)), if_neg (show ¬ (1 : Int32) = 0 by decide), if_pos (show wm tb z y n = true from decide_eq_true ⟨e, hI⟩), nI_1]
      · rw [if_pos (show (0 : Int32) = 0 from rfl), if_pos (show (0 : Int32) = 0 from rfl), hI, if_neg (by decide), nI_1]
  · rw [if_neg (show ¬ nI (y - z) = nI (enN (n + 1) - enN n) from fun w => e (nI_inj (b := wl n) w (by omega) (by omega))), show fu = 999 + 1 from rfl, lq2_s]
    unfold fX8_kindHere_b51 fX8_kindHere_j106
    rw [if_pos (show (0 : Int32) = 0 from rfl), if_pos (show (0 : Int32) = 0 from rfl), show wm tb z y n = false from decide_eq_false (fun w => e w.1), if_neg (by decide), nI_1]
theorem m_kind {by_ tp en le : Nat → Int32} {tb : Nat → Nat} {T z y : Nat} (h : TP by_ tp tb T) (hE : EL en le) (hz : z ≤ y) (hy : y ≤ T) : ∀ r n k, n + r = 8 → r < k → lq1 (fX8_kindHere_b2 tp (nI T) (nI y) (nI z) 1 en le) k (nI n) = some (if fk (wm tb z y) r n = 0 then -4 else nI (fk (wm tb z y) r n)) := by
  intro r
  induction r with
  | zero =>
    intro n k hn hk
    obtain ⟨k, rfl⟩ : ∃ e, k = e + 1 := ⟨k - 1, by omega⟩
    have : n = 8 := by omega
    subst this
    rw [lq1_s]
    unfold fX8_kindHere_b2
    rw [if_pos (show (8 : Int32) ≤ nI 8 by decide)]
    rfl
  | succ r ih =>
    intro n k hn hk
    obtain ⟨k, rfl⟩ : ∃ e, k = e + 1 := ⟨k - 1, by omega⟩
    rw [lq1_s, m_word h hE hz hy (by omega), ih (n + 1) k (by omega) (by omega)]
    unfold fk
    by_cases q : wm tb z y n = true
    · rw [if_pos q, if_pos q, if_neg (by omega)]
    · rw [if_neg q, if_neg q]
      cases r <;> rfl
/-- which kind a name tells: the same -/
theorem kinds {by_ tp en le : Nat → Int32} {tb : Nat → Nat} {T z y C : Nat} (h : TP by_ tp tb T) (hE : EL en le) (hz : z ≤ y) (hy : y ≤ T) (hC : C ≤ 3) : (fX6_kindTold by_ (nI y) (nI z) (nI C) = some 0 ∧ fX8_kindHere tp (nI T) (nI y) (nI z) (nI C) en le = some (-4)) ∨ ∃ K, 1 ≤ K ∧ K ≤ 8 ∧ C = 1 ∧ fX6_kindTold by_ (nI y) (nI z) (nI C) = some (nI K) ∧ fX8_kindHere tp (nI T) (nI y) (nI z) (nI C) en le = some (nI K) := by
  by_cases e : C = 1
  · subst e
    have a := c_kind h hz hy 8 0 fu rfl (by unfold fu; omega)
    have b := m_kind h hE hz hy 8 0 fu rfl (by unfold fu; omega)
    rcases fk_le (wm tb z y) 8 0 with q | ⟨q1, q2⟩
    · rw [q] at a b
      exact Or.inl ⟨a, b⟩
    · rw [if_neg (by omega)] at b
      exact Or.inr ⟨_, q1, by omega, rfl, a, b⟩
  · have ne : ¬ nI C = 1 := fun w => e (nI_inj (b := 1) w (by omega) (by omega))
    refine Or.inl ⟨c_kind0 ne, ?_⟩
    unfold fX8_kindHere
    rw [show fu = 999 + 1 from rfl, lq1_s]
    unfold fX8_kindHere_b2
    rw [if_neg (show ¬ (8 : Int32) ≤ 0 by decide), if_neg ne]
