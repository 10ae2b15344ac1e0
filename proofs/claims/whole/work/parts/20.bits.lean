/-! rows on bits, shifts and unsigned numbers, to paste: each family out of a closed proof of our own, whole with what it rests on; each by itself clean at Lean in its own claim (generation 39, form 5). Take a family whole -/
/-! ===== Int32 by its bits: bt x i ===== -/
def bt (x : Int32) (i : Nat) : Bool := x.toBitVec.getLsbD i
theorem b_ext {x y : Int32} (h : ∀ i, i < 32 → bt x i = bt y i) : x = y := Int32.toBitVec_inj.mp (BitVec.eq_of_getLsbD_eq (fun i hi => h i hi))
theorem b_or (x y : Int32) (i : Nat) : bt (x ||| y) i = (bt x i || bt y i) := by unfold bt; rw [Int32.toBitVec_or, BitVec.getLsbD_or]
theorem b_and (x y : Int32) (i : Nat) : bt (x &&& y) i = (bt x i && bt y i) := by unfold bt; rw [Int32.toBitVec_and, BitVec.getLsbD_and]
theorem b_xor (x y : Int32) (i : Nat) : bt (x ^^^ y) i = (bt x i ^^ bt y i) := by unfold bt; rw [Int32.toBitVec_xor, BitVec.getLsbD_xor]
theorem b_big {x : Int32} {i : Nat} (h : 32 ≤ i) : bt x i = false := BitVec.getLsbD_of_ge _ _ h
theorem b_255 (i : Nat) : bt 255 i = decide (i < 8) := by
  rcases Nat.lt_or_ge i 32 with h | h
  · exact (by decide +kernel : ∀ i, i < 32 → bt 255 i = decide (i < 8)) i h
  · rw [b_big h, decide_eq_false (by omega)]
theorem b_65535 (i : Nat) : bt 65535 i = decide (i < 16) := by
  rcases Nat.lt_or_ge i 32 with h | h
  · exact (by decide +kernel : ∀ i, i < 32 → bt 65535 i = decide (i < 16)) i h
  · rw [b_big h, decide_eq_false (by omega)]
theorem b_m1 : ∀ i, i < 32 → bt (-1) i = true := by decide +kernel
theorem b_0 (i : Nat) : bt 0 i = false := BitVec.getLsbD_zero
theorem s_l : ∀ n, n < 32 → ((nI n &&& 31).toBitVec.smod 32).toNat = n := by decide +kernel
theorem s_u : ∀ n, n < 32 → (((nI n).toUInt32 &&& Int32.toUInt32 31).toBitVec % 32).toNat = n := by decide +kernel
theorem b_shl (n : Nat) (hn : n < 32) (x : Int32) {i : Nat} (hi : i < 32) : bt (x <<< (nI n &&& 31)) i = (decide (n ≤ i) && bt x (i - n)) := by
  unfold bt
  rw [Int32.toBitVec_shiftLeft]
  show (x.toBitVec <<< ((nI n &&& 31).toBitVec.smod 32).toNat).getLsbD i = _
  rw [s_l n hn, BitVec.getLsbD_shiftLeft]
  rcases Nat.lt_or_ge i n with h | h
  · simp [h, Nat.not_le.mpr h]
  · simp [hi, h, Nat.not_lt.mpr h]
theorem b_ushr (n : Nat) (hn : n < 32) (x : Int32) (i : Nat) : bt ((x.toUInt32 >>> ((nI n).toUInt32 &&& Int32.toUInt32 31)).toInt32) i = bt x (n + i) := by
  show (x.toUInt32 >>> ((nI n).toUInt32 &&& Int32.toUInt32 31)).toBitVec.getLsbD i = x.toUInt32.toBitVec.getLsbD (n + i)
  rw [UInt32.toBitVec_shiftRight]
  show (x.toUInt32.toBitVec >>> (((nI n).toUInt32 &&& Int32.toUInt32 31).toBitVec % 32).toNat).getLsbD i = _
  rw [s_u n hn, BitVec.getLsbD_ushiftRight]
theorem b_sshr (n : Nat) (hn : n < 32) (x : Int32) {i : Nat} (hi : i < 32) : bt (x >>> (nI n &&& 31)) i = if n + i < 32 then bt x (n + i) else bt x 31 := by
  unfold bt
  rw [Int32.toBitVec_shiftRight]
  show (x.toBitVec.sshiftRight ((nI n &&& 31).toBitVec.smod 32).toNat).getLsbD i = _
  rw [s_l n hn, BitVec.getLsbD_sshiftRight, BitVec.msb_eq_getLsbD_last]
  simp [hi]
theorem b_shl8 (x : Int32) {i : Nat} (hi : i < 32) : bt (x <<< ((8 : Int32) &&& 31)) i = (decide (8 ≤ i) && bt x (i - 8)) := b_shl 8 (by omega) x hi
theorem b_shl16 (x : Int32) {i : Nat} (hi : i < 32) : bt (x <<< ((16 : Int32) &&& 31)) i = (decide (16 ≤ i) && bt x (i - 16)) := b_shl 16 (by omega) x hi
theorem b_shl24 (x : Int32) {i : Nat} (hi : i < 32) : bt (x <<< ((24 : Int32) &&& 31)) i = (decide (24 ≤ i) && bt x (i - 24)) := b_shl 24 (by omega) x hi
theorem b_sshr8 (x : Int32) {i : Nat} (hi : i < 32) : bt (x >>> ((8 : Int32) &&& 31)) i = if 8 + i < 32 then bt x (8 + i) else bt x 31 := b_sshr 8 (by omega) x hi
/-! ===== nI under and, xor, >>>, one bit, 65535 ===== -/
theorem wb_of32 (x : Int32) : ∃ n, n < 2 ^ 32 ∧ x = nI n := ⟨x.toBitVec.toNat, x.toBitVec.isLt, Int32.toBitVec_inj.mp (by show _ = BitVec.ofNat 32 _; simp)⟩
/-! plain facts to paste, each family by itself; over the kit's nI, lN and upd -/
/-! ===== drawers: more things than places ===== -/
theorem fb_holes : ∀ (m n : Nat) (f : Nat → Nat), (∀ i, i < n → f i < m) → (∀ i j, i < j → j < n → f i ≠ f j) → n ≤ m := by
  intro m
  induction m with
  | zero =>
    intro n f h1 _
    rcases Nat.eq_zero_or_pos n with h | h
    · omega
    · exact absurd (h1 0 h) (Nat.not_lt_zero _)
  | succ m ih =>
    intro n f h1 h2
    by_cases hx : ∃ i, i < n ∧ f i = m
    · obtain ⟨a, ha, hfa⟩ := hx
      have hg := ih (n - 1) (fun i => if i < a then f i else f (i + 1)) (by
        intro i hi
        by_cases q : i < a
        · simp only [if_pos q]
          have b1 := h1 i (by omega)
          have b2 := h2 i a q ha
          omega
        · simp only [if_neg q]
          have b1 := h1 (i + 1) (by omega)
          have b2 := h2 a (i + 1) (by omega) (by omega)
          omega) (by
        intro i j hij hj
        by_cases q : i < a
        · by_cases r : j < a
          · simp only [if_pos q, if_pos r]
            exact h2 i j hij (by omega)
          · simp only [if_pos q, if_neg r]
            exact h2 i (j + 1) (by omega) (by omega)
        · have r : ¬ j < a := by omega
          simp only [if_neg q, if_neg r]
          exact h2 (i + 1) (j + 1) (by omega) (by omega))
      omega
    · have hg := ih n f (fun i hi => by
        have b1 := h1 i hi
        have b2 : f i ≠ m := fun e => hx ⟨i, hi, e⟩
        omega) h2
      omega
/-- two of them in one place -/
theorem fb_twice {m n : Nat} {f : Nat → Nat} (h : ∀ i, i < n → f i < m) (hm : m < n) : ∃ i j, i < j ∧ j < n ∧ f i = f j := by
  refine Classical.byContradiction fun hx => ?_
  have := fb_holes m n f h (fun i j hij hj e => hx ⟨i, j, hij, hj, e⟩)
  omega
/-- as many as places, none twice: each place is taken -/
theorem fb_onto {n : Nat} {f : Nat → Nat} (h : ∀ i, i < n → f i < n) (h2 : ∀ i j, i < j → j < n → f i ≠ f j) {y : Nat} (hy : y < n) : ∃ i, i < n ∧ f i = y := by
  refine Classical.byContradiction fun hx => ?_
  have hne : ∀ i, i < n → f i ≠ y := fun i hi e => hx ⟨i, hi, e⟩
  have := fb_holes (n - 1) n (fun i => if f i < y then f i else f i - 1) (by
    intro i hi
    have b1 := h i hi
    have b2 := hne i hi
    by_cases q : f i < y
    · simp only [if_pos q]; omega
    · simp only [if_neg q]; omega) (by
    intro i j hij hj
    have b1 := hne i (by omega)
    have b2 := hne j hj
    have b3 := h2 i j hij hj
    by_cases q : f i < y
    · by_cases r : f j < y
      · simp only [if_pos q, if_pos r]; exact b3
      · simp only [if_pos q, if_neg r]; omega
    · by_cases r : f j < y
      · simp only [if_neg q, if_pos r]; omega
      · simp only [if_neg q, if_neg r]; omega)
  omega
/-! ===== how many places have a property ===== -/
def fb_ct (p : Nat → Bool) : Nat → Nat
  | 0 => 0
  | n + 1 => fb_ct p n + (if p n then 1 else 0)
theorem fb_ct_succ (p : Nat → Bool) (n : Nat) : fb_ct p (n + 1) = fb_ct p n + (if p n then 1 else 0) := rfl
theorem fb_ct_le (p : Nat → Bool) : ∀ n, fb_ct p n ≤ n
  | 0 => Nat.le_refl _
  | n + 1 => by
    have h := fb_ct_le p n
    rw [fb_ct_succ]
    split <;> omega
theorem fb_ct_step (p : Nat → Bool) (m : Nat) : ∀ n, fb_ct p m ≤ fb_ct p (m + n)
  | 0 => Nat.le_refl _
  | n + 1 => by
    have h := fb_ct_step p m n
    show fb_ct p m ≤ fb_ct p (m + n + 1)
    rw [fb_ct_succ]
    omega
theorem fb_ct_mono (p : Nat → Bool) {m n : Nat} (h : m ≤ n) : fb_ct p m ≤ fb_ct p n := by
  have := fb_ct_step p m (n - m)
  rwa [Nat.add_sub_cancel' h] at this
theorem fb_ct_cong {p q : Nat → Bool} : ∀ {n : Nat}, (∀ k, k < n → p k = q k) → fb_ct p n = fb_ct q n
  | 0, _ => rfl
  | n + 1, h => by
    rw [fb_ct_succ, fb_ct_succ, fb_ct_cong (fun k hk => h k (by omega)), h n (by omega)]
/-- one place changed -/
theorem fb_ct_out (p : Nat → Bool) (b : Bool) {i n : Nat} (h : n ≤ i) : fb_ct (fun k => if k = i then b else p k) n = fb_ct p n :=
  fb_ct_cong fun k hk => if_neg (by omega)
theorem fb_ct_upd (p : Nat → Bool) (b : Bool) {i : Nat} : ∀ {n : Nat}, i < n → fb_ct (fun k => if k = i then b else p k) n + (if p i then 1 else 0) = fb_ct p n + (if b then 1 else 0)
  | 0, h => absurd h (Nat.not_lt_zero i)
  | n + 1, h => by
    rw [fb_ct_succ, fb_ct_succ]
    rcases Nat.lt_or_ge i n with q | q
    · have := fb_ct_upd p b q
      have e : (if n = i then b else p n) = p n := if_neg (by omega)
      rw [e]
      omega
    · have e : i = n := by omega
      subst e
      rw [fb_ct_out p b (Nat.le_refl _)]
      simp only [if_true]
      omega
theorem fb_ct_sub {p q : Nat → Bool} : ∀ {n : Nat}, (∀ k, k < n → p k = true → q k = true) → fb_ct p n ≤ fb_ct q n
  | 0, _ => Nat.le_refl _
  | n + 1, h => by
    have h1 := fb_ct_sub (n := n) (p := p) (q := q) (fun k hk => h k (by omega))
    have h2 := h n (by omega)
    rw [fb_ct_succ, fb_ct_succ]
    cases hp : p n <;> cases hq : q n <;> simp_all <;> omega
theorem fb_ct_or {p q : Nat → Bool} : ∀ {n : Nat}, (∀ k, k < n → ¬ (p k = true ∧ q k = true)) → fb_ct (fun k => p k || q k) n = fb_ct p n + fb_ct q n
  | 0, _ => rfl
  | n + 1, h => by
    have h1 := fb_ct_or (n := n) (p := p) (q := q) (fun k hk => h k (by omega))
    have h2 := h n (by omega)
    rw [fb_ct_succ, fb_ct_succ, fb_ct_succ, h1]
    cases hp : p n <;> cases hq : q n <;> simp_all <;> omega
theorem fb_ct_not (p : Nat → Bool) : ∀ n, fb_ct p n + fb_ct (fun k => !p k) n = n
  | 0 => rfl
  | n + 1 => by
    have h := fb_ct_not p n
    rw [fb_ct_succ, fb_ct_succ]
    cases p n <;> simp <;> omega
theorem fb_ct_split (p : Nat → Bool) (m : Nat) : ∀ n, fb_ct p (m + n) = fb_ct p m + fb_ct (fun k => p (m + k)) n
  | 0 => rfl
  | n + 1 => by
    have h := fb_ct_split p m n
    show fb_ct p (m + n + 1) = _
    rw [fb_ct_succ, fb_ct_succ, h, Nat.add_assoc]
theorem fb_ct_zero {p : Nat → Bool} : ∀ {n : Nat}, fb_ct p n = 0 ↔ ∀ k, k < n → p k = false
  | 0 => ⟨fun _ k hk => absurd hk (Nat.not_lt_zero k), fun _ => rfl⟩
  | n + 1 => by
    have h := fb_ct_zero (p := p) (n := n)
    rw [fb_ct_succ]
    constructor
    · intro e k hk
      have e1 : fb_ct p n = 0 := by omega
      rcases Nat.lt_or_ge k n with q | q
      · exact h.mp e1 k q
      · have ek : k = n := by omega
        subst ek
        cases hp : p k
        · rfl
        · simp [hp] at e
    · intro a
      rw [h.mpr (fun k hk => a k (by omega)), a n (by omega)]
      rfl
theorem fb_ct_pos {p : Nat → Bool} {n : Nat} : 0 < fb_ct p n ↔ ∃ k, k < n ∧ p k = true := by
  constructor
  · intro h
    refine Classical.byContradiction fun hx => ?_
    have := fb_ct_zero.mpr (fun k hk => by
      cases hp : p k
      · rfl
      · exact absurd ⟨k, hk, hp⟩ hx : ∀ k, k < n → p k = false)
    omega
  · rintro ⟨k, hk, hp⟩
    rcases Nat.eq_zero_or_pos (fb_ct p n) with e | e
    · have := fb_ct_zero.mp e k hk
      rw [this] at hp
      cases hp
    · exact e
theorem fb_ct_all {p : Nat → Bool} {n : Nat} : fb_ct p n = n ↔ ∀ k, k < n → p k = true := by
  have h := fb_ct_not p n
  constructor
  · intro e k hk
    have z : fb_ct (fun k => !p k) n = 0 := by omega
    have := fb_ct_zero.mp z k hk
    cases hp : p k
    · simp [hp] at this
    · rfl
  · intro a
    have z : fb_ct (fun k => !p k) n = 0 := fb_ct_zero.mpr (fun k hk => by simp [a k hk])
    omega
/-- the k-th place with the property -/
theorem fb_ct_kth {p : Nat → Bool} {k : Nat} : ∀ {n : Nat}, k < fb_ct p n → ∃ i, i < n ∧ p i = true ∧ fb_ct p i = k
  | 0, h => absurd h (Nat.not_lt_zero k)
  | n + 1, h => by
    rcases Nat.lt_or_ge k (fb_ct p n) with q | q
    · obtain ⟨i, h1, h2⟩ := fb_ct_kth q
      exact ⟨i, by omega, h2⟩
    · rw [fb_ct_succ] at h
      cases hp : p n
      · simp [hp] at h; omega
      · simp [hp] at h
        exact ⟨n, by omega, hp, by omega⟩
theorem fb_ct_kth_one {p : Nat → Bool} {i j : Nat} (hi : p i = true) (hj : p j = true) (e : fb_ct p i = fb_ct p j) : i = j := by
  have key : ∀ a b : Nat, a < b → p a = true → fb_ct p a < fb_ct p b := by
    intro a b hab ha
    have h := fb_ct_mono p (show a + 1 ≤ b from hab)
    rw [fb_ct_succ, ha] at h
    simp at h
    omega
  rcases Nat.lt_trichotomy i j with q | q | q
  · have := key i j q hi; omega
  · exact q
  · have := key j i q hj; omega
/-! ===== sums over a range: one place changed, parts, bounds ===== -/
/-! POPULATION COUNT -/
theorem nand_step {k a m b n : Nat} (ha : a < 2 ^ k) (hm : m < 2 ^ k) : (2 ^ k * b + a) &&& (2 ^ k * n + m) = 2 ^ k * (b &&& n) + (a &&& m) := by
  apply Nat.eq_of_testBit_eq
  intro j
  have hlt : a &&& m < 2 ^ k := Nat.lt_of_le_of_lt Nat.and_le_left ha
  rw [Nat.testBit_and, Nat.testBit_two_pow_mul_add _ ha, Nat.testBit_two_pow_mul_add _ hm, Nat.testBit_two_pow_mul_add _ hlt]
  split
  · rw [Nat.testBit_and]
  · rw [Nat.testBit_and]
theorem nand4 {a0 a1 a2 a3 m : Nat} (h0 : a0 < 256) (h1 : a1 < 256) (h2 : a2 < 256) (h3 : a3 < 256) (hm : m < 256) : (a0 + 256 * (a1 + 256 * (a2 + 256 * a3))) &&& (m + 256 * (m + 256 * (m + 256 * m))) = (a0 &&& m) + 256 * ((a1 &&& m) + 256 * ((a2 &&& m) + 256 * (a3 &&& m))) := by
  have e : ∀ (x y : Nat), y + 256 * x = 2 ^ 8 * x + y := fun x y => by omega
  rw [e, e _ m, nand_step (k := 8) (by omega) (by omega), e _ a1, e _ m, nand_step (k := 8) (by omega) (by omega), e _ a2, e _ m, nand_step (k := 8) (by omega) (by omega)]
  omega
/-- bits of a number, summed -/
def pcN : Nat → Nat → Nat
  | 0, _ => 0
  | n + 1, x => x % 2 + pcN n (x / 2)
theorem pcN_split (m : Nat) : ∀ (n x : Nat), pcN (n + m) x = pcN n x + pcN m (x / 2 ^ n)
  | 0, x => by simp [pcN]
  | n + 1, x => by
    rw [show n + 1 + m = (n + m) + 1 by omega, pcN, pcN, pcN_split m n (x / 2), Nat.div_div_eq_div_mul, Nat.pow_succ, Nat.mul_comm 2]
    omega
theorem pcN_mod : ∀ (n x : Nat), pcN n (x % 2 ^ n) = pcN n x
  | 0, x => rfl
  | n + 1, x => by
    rw [pcN, pcN, Nat.pow_succ, Nat.mul_comm, ← pcN_mod n (x / 2), Nat.mod_mul_right_mod]
    congr 2
    rw [Nat.mod_mul_right_div_self]
theorem pcN_ct (x : Nat) : ∀ n, pcN n x = fb_ct (fun i => x.testBit i) n
  | 0 => rfl
  | n + 1 => by
    rw [fb_ct_succ, ← pcN_ct x n, pcN_split 1 n x]
    show _ = _ + if x.testBit n = true then 1 else 0
    rw [pcN, pcN, Nat.testBit_eq_decide_div_mod_eq]
    have := Nat.mod_lt (x / 2 ^ n) (show 0 < 2 by omega)
    by_cases h : x / 2 ^ n % 2 = 1 <;> simp [h] <;> omega
def pk1 (a : Nat) : Nat := a - ((a / 2) &&& 85)
def pk2 (a : Nat) : Nat := (a &&& 51) + ((a / 4) &&& 51)
theorem pk1_t : ∀ a, a < 256 → ∀ b, b < 2 → ((a / 2 + 128 * b) &&& 85) = ((a / 2) &&& 85) ∧ ((a / 2) &&& 85) ≤ a ∧ pk1 a < 256 := by decide +kernel
theorem pk2_t : ∀ a, a < 256 → ∀ b, b < 4 → ((a / 4 + 64 * b) &&& 51) = ((a / 4) &&& 51) := by decide +kernel
theorem pk2_b : ∀ a, a < 256 → pk2 (pk1 a) < 69 ∧ (pk2 (pk1 a) + pk2 (pk1 a) / 16) &&& 15 = pcN 8 a ∧ pcN 8 a ≤ 8 ∧ pk2 (pk1 a) % 16 ≤ 4 := by decide +kernel
theorem ush_nI {n k : Nat} (hn : n < 2 ^ 32) (hk : k < 32) : ((nI n).toUInt32 >>> ((nI k).toUInt32 &&& Int32.toUInt32 31)).toInt32 = nI (n / 2 ^ k) := pk_ushrN hn (nI k) k (s_u k hk)
theorem and_nI {a b : Nat} (ha : a < 2 ^ 32) (hb : b < 2 ^ 32) : nI a &&& nI b = nI (a &&& b) := by
  apply Int32.toBitVec_inj.mp
  apply BitVec.eq_of_toNat_eq
  have hl : a &&& b < 2 ^ 32 := Nat.lt_of_le_of_lt Nat.and_le_left ha
  rw [Int32.toBitVec_and, BitVec.toNat_and, pk_tn ha, pk_tn hb, pk_tn hl]
set_option maxHeartbeats 4000000 in
theorem bc1 {a0 a1 a2 a3 : Nat} (h0 : a0 < 256) (h1 : a1 < 256) (h2 : a2 < 256) (h3 : a3 < 256) : nI (a0 + 256 * (a1 + 256 * (a2 + 256 * a3))) - (((nI (a0 + 256 * (a1 + 256 * (a2 + 256 * a3)))).toUInt32 >>> ((1 : Int32).toUInt32 &&& Int32.toUInt32 31)).toInt32 &&& (1431655765 : Int32)) = nI (pk1 a0 + 256 * (pk1 a1 + 256 * (pk1 a2 + 256 * pk1 a3))) := by
  rw [show (1 : Int32) = nI 1 from rfl, ush_nI (by omega) (by omega), show (1431655765 : Int32) = nI (85 + 256 * (85 + 256 * (85 + 256 * 85))) from rfl, and_nI (by omega) (by omega)]
  have q0 := pk1_t a0 h0 (a1 % 2) (by omega)
  have q1 := pk1_t a1 h1 (a2 % 2) (by omega)
  have q2 := pk1_t a2 h2 (a3 % 2) (by omega)
  have q3 := pk1_t a3 h3 0 (by omega)
  rw [show (a0 + 256 * (a1 + 256 * (a2 + 256 * a3))) / 2 ^ 1 = (a0 / 2 + 128 * (a1 % 2)) + 256 * ((a1 / 2 + 128 * (a2 % 2)) + 256 * ((a2 / 2 + 128 * (a3 % 2)) + 256 * (a3 / 2 + 128 * 0))) by omega]
  rw [nand4 (by omega) (by omega) (by omega) (by omega) (by omega), q0.1, q1.1, q2.1, q3.1]
  have r0 := q0.2.1
  have r1 := q1.2.1
  have r2 := q2.2.1
  have r3 := q3.2.1
  unfold pk1
  rw [pk_sub (by omega)]
  congr 1
  omega
set_option maxHeartbeats 4000000 in
theorem bc2 {d0 d1 d2 d3 : Nat} (b0 : d0 < 256) (b1 : d1 < 256) (b2 : d2 < 256) (b3 : d3 < 256) : (nI (d0 + 256 * (d1 + 256 * (d2 + 256 * d3))) &&& (858993459 : Int32)) + (((nI (d0 + 256 * (d1 + 256 * (d2 + 256 * d3)))).toUInt32 >>> ((2 : Int32).toUInt32 &&& Int32.toUInt32 31)).toInt32 &&& (858993459 : Int32)) = nI (pk2 d0 + 256 * (pk2 d1 + 256 * (pk2 d2 + 256 * pk2 d3))) := by
  rw [show (2 : Int32) = nI 2 from rfl, ush_nI (by omega) (by omega), show (858993459 : Int32) = nI (51 + 256 * (51 + 256 * (51 + 256 * 51))) from rfl, and_nI (by omega) (by omega), and_nI (by omega) (by omega), nand4 b0 b1 b2 b3 (by omega)]
  rw [show (d0 + 256 * (d1 + 256 * (d2 + 256 * d3))) / 2 ^ 2 = (d0 / 4 + 64 * (d1 % 4)) + 256 * ((d1 / 4 + 64 * (d2 % 4)) + 256 * ((d2 / 4 + 64 * (d3 % 4)) + 256 * (d3 / 4 + 64 * 0))) by omega]
  rw [nand4 (by omega) (by omega) (by omega) (by omega) (by omega), pk2_t d0 b0 _ (by omega), pk2_t d1 b1 _ (by omega), pk2_t d2 b2 _ (by omega), pk2_t d3 b3 _ (by omega), nI_add]
  unfold pk2
  congr 1
  omega
theorem and15 (a b : Nat) : ((a + 16 * b) &&& 15) = (a &&& 15) := by
  have h1 := Nat.and_two_pow_sub_one_eq_mod (a + 16 * b) 4
  have h2 := Nat.and_two_pow_sub_one_eq_mod a 4
  simp only [show (2 : Nat) ^ 4 - 1 = 15 from rfl] at h1 h2
  rw [h1, h2]
  omega
set_option maxHeartbeats 4000000 in
theorem bc3 {d0 d1 d2 d3 : Nat} (b0 : d0 < 69) (b1 : d1 < 69) (b2 : d2 < 69) (b3 : d3 < 69) (e1 : d1 % 16 ≤ 4) (e2 : d2 % 16 ≤ 4) (e3 : d3 % 16 ≤ 4) : (nI (d0 + 256 * (d1 + 256 * (d2 + 256 * d3))) + ((nI (d0 + 256 * (d1 + 256 * (d2 + 256 * d3)))).toUInt32 >>> ((4 : Int32).toUInt32 &&& Int32.toUInt32 31)).toInt32) &&& (252645135 : Int32) = nI (((d0 + d0 / 16) &&& 15) + 256 * (((d1 + d1 / 16) &&& 15) + 256 * (((d2 + d2 / 16) &&& 15) + 256 * ((d3 + d3 / 16) &&& 15)))) := by
  rw [show (4 : Int32) = nI 4 from rfl, ush_nI (by omega) (by omega), nI_add, show (252645135 : Int32) = nI (15 + 256 * (15 + 256 * (15 + 256 * 15))) from rfl, and_nI (by omega) (by omega)]
  rw [show d0 + 256 * (d1 + 256 * (d2 + 256 * d3)) + (d0 + 256 * (d1 + 256 * (d2 + 256 * d3))) / 2 ^ 4 = (d0 + d0 / 16 + 16 * (d1 % 16)) + 256 * ((d1 + d1 / 16 + 16 * (d2 % 16)) + 256 * ((d2 + d2 / 16 + 16 * (d3 % 16)) + 256 * (d3 + d3 / 16))) by omega]
  rw [nand4 (by omega) (by omega) (by omega) (by omega) (by omega), and15, and15, and15]
set_option maxHeartbeats 4000000 in
theorem bc4 {d0 d1 d2 d3 : Nat} (b0 : d0 ≤ 8) (b1 : d1 ≤ 8) (b2 : d2 ≤ 8) (b3 : d3 ≤ 8) : nI (d0 + 256 * (d1 + 256 * (d2 + 256 * d3))) + ((nI (d0 + 256 * (d1 + 256 * (d2 + 256 * d3)))).toUInt32 >>> ((8 : Int32).toUInt32 &&& Int32.toUInt32 31)).toInt32 = nI ((d0 + d1) + 256 * ((d1 + d2) + 256 * ((d2 + d3) + 256 * d3))) := by
  rw [show (8 : Int32) = nI 8 from rfl, ush_nI (by omega) (by omega), nI_add]
  congr 1
  omega
set_option maxHeartbeats 4000000 in
theorem bc5 {d0 d1 d2 d3 : Nat} (b0 : d0 ≤ 8) (b1 : d1 ≤ 8) (b2 : d2 ≤ 8) (b3 : d3 ≤ 8) : (nI ((d0 + d1) + 256 * ((d1 + d2) + 256 * ((d2 + d3) + 256 * d3))) + ((nI ((d0 + d1) + 256 * ((d1 + d2) + 256 * ((d2 + d3) + 256 * d3)))).toUInt32 >>> ((16 : Int32).toUInt32 &&& Int32.toUInt32 31)).toInt32) &&& (63 : Int32) = nI (d0 + d1 + d2 + d3) := by
  rw [show (16 : Int32) = nI 16 from rfl, ush_nI (by omega) (by omega), nI_add, show (63 : Int32) = nI (2 ^ 6 - 1) from rfl, and_nI (by omega) (by omega), Nat.and_two_pow_sub_one_eq_mod]
  rw [show (d0 + d1 + 256 * (d1 + d2 + 256 * (d2 + d3 + 256 * d3))) / 2 ^ 16 = d2 + d3 + 256 * d3 by omega]
  congr 1
  omega
theorem pcN_32 {a0 a1 a2 a3 : Nat} (h0 : a0 < 256) (h1 : a1 < 256) (h2 : a2 < 256) (h3 : a3 < 256) : pcN 32 (a0 + 256 * (a1 + 256 * (a2 + 256 * a3))) = pcN 8 a0 + pcN 8 a1 + pcN 8 a2 + pcN 8 a3 := by
  have e : ∀ n (x y : Nat), x < 256 → pcN (8 + n) (x + 256 * y) = pcN 8 x + pcN n y := fun n x y hx => by
    rw [pcN_split n 8, ← pcN_mod 8 (x + 256 * y)]
    rw [show (x + 256 * y) % 2 ^ 8 = x by omega, show (x + 256 * y) / 2 ^ 8 = y by omega]
  rw [show (32 : Nat) = 8 + (8 + (8 + 8)) from rfl, e _ _ _ h0, e _ _ _ h1, e _ _ _ h2]
  omega
set_option maxHeartbeats 4000000 in
theorem bitCount_nat (x : Nat) (hx : x < 2 ^ 32) : fJ6_bitCount_0f7a4 (nI x) = some (nI (pcN 32 x)) := by
  obtain ⟨a0, a1, a2, a3, h0, h1, h2, h3, rfl⟩ : ∃ a0 a1 a2 a3, a0 < 256 ∧ a1 < 256 ∧ a2 < 256 ∧ a3 < 256 ∧ x = a0 + 256 * (a1 + 256 * (a2 + 256 * a3)) := ⟨x % 256, x / 256 % 256, x / 65536 % 256, x / 16777216, by omega, by omega, by omega, by omega, by omega⟩
  have c0 := pk2_b a0 h0
  have c1 := pk2_b a1 h1
  have c2 := pk2_b a2 h2
  have c3 := pk2_b a3 h3
  have b0 := (pk1_t a0 h0 0 (by omega)).2.2
  have b1 := (pk1_t a1 h1 0 (by omega)).2.2
  have b2 := (pk1_t a2 h2 0 (by omega)).2.2
  have b3 := (pk1_t a3 h3 0 (by omega)).2.2
  unfold fJ6_bitCount_0f7a4
  rw [bc1 h0 h1 h2 h3, bc2 b0 b1 b2 b3, bc3 c0.1 c1.1 c2.1 c3.1 c1.2.2.2 c2.2.2.2 c3.2.2.2, c0.2.1, c1.2.1, c2.2.1, c3.2.1, bc4 c0.2.2.1 c1.2.2.1 c2.2.2.1 c3.2.2.1, bc5 c0.2.2.1 c1.2.2.1 c2.2.2.1 c3.2.2.1, pcN_32 h0 h1 h2 h3]
/-- how many of the set are there -/
def pop (x : Int32) : Nat := fb_ct (bt x) 32
theorem bitCount_pop (x : Int32) : fJ6_bitCount_0f7a4 x = some (nI (pop x)) := by
  obtain ⟨n, hn, rfl⟩ := wb_of32 x
  rw [bitCount_nat n hn, pcN_ct]
  congr 2
  unfold pop
  apply fb_ct_cong
  intro k _
  show _ = (nI n).toBitVec.getLsbD k
  rw [← BitVec.testBit_toNat, pk_tn hn]
theorem pop_le (x : Int32) : pop x ≤ 32 := fb_ct_le _ _
