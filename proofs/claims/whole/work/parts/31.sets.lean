/-! SETS OF CELLS: reads, readers, counts -/
def RB (A : AS) (R : Nat → Int32) : Prop := ∀ d, d < 30 → ∀ j, j < 32 → bt (R d) j = decide (∃ i, i < aN A d ∧ aL A d i = j)
def ML (A : AS) (mR mN : Nat → Int32) : Prop := ∀ d, d < 30 → mN d = nI (aN A d) ∧ ∀ i, i < aN A d → mR (30 * d + i) = nI (aL A d i)
def AL (A : AS) : Prop := ∀ d, d < 30 → Lp (aN A d) (aL A d)
theorem RB_hi {A : AS} {R : Nat → Int32} (hL : AL A) (hR : RB A R) {d j : Nat} (hd : d < 30) (hj : 30 ≤ j) : bt (R d) j = false := by
  by_cases e : j < 32
  · rw [hR d hd j e]
    refine decide_eq_false (fun ⟨i, hi, hl⟩ => ?_)
    have := (hL d hd).2.1 i hi
    omega
  · exact b_big (by omega)
theorem RB_iff {A : AS} {R : Nat → Int32} (hR : RB A R) {d j : Nat} (hd : d < 30) (hj : j < 32) : bt (R d) j = true ↔ ∃ i, i < aN A d ∧ aL A d i = j := by
  rw [hR d hd j hj]
  exact decide_eq_true_iff
theorem bool_eq {a b : Bool} (h : a = true ↔ b = true) : a = b := by
  cases a <;> cases b
  · rfl
  · exact absurd (h.mpr rfl) (by decide)
  · exact absurd (h.mp rfl) (by decide)
  · rfl
theorem m_bitsRead {A : AS} {R mR mN : Nat → Int32} {d : Nat} (hL : AL A) (hR : RB A R) (hM : ML A mR mN) (hd : d < 30) : fX8_bitsRead mR mN (nI d) = some (R d) := by
  obtain ⟨hN, hl⟩ := hM d hd
  obtain ⟨p1, p2, p3, p4⟩ := hL d hd
  unfold fX8_bitsRead
  refine fr1 (fX8_bitsRead_b4 mR mN (nI d)) (aN A d) (fun t x => ∀ j, j < 32 → (bt x j = true ↔ ∃ i, i < t ∧ aL A d i = j)) (fun r => r = some (R d)) (by omega) ?_ ?_ fu 0 0 (by omega) (by unfold fu; omega) (fun j _ => ⟨fun z => (by rw [b_0] at z; cases z), fun ⟨i, hi, _⟩ => absurd hi (Nat.not_lt_zero i)⟩)
  · intro self t x ht hI hself
    unfold fX8_bitsRead_b4
    rw [rdN hd (by omega), hN, if_neg (nI_ge ht (by omega)), show (30 : Int32) = nI 30 from rfl, pk_mul, nI_add, rdN (by omega) (by omega), hl t ht, nI_1]
    refine hself _ (fun j hj => ?_)
    rw [b_or, show (1 : Int32) <<< (nI (aL A d t) &&& 31) = bI (aL A d t) from rfl, bt_bI _ (by have := p2 t ht; omega) j hj, Bool.or_eq_true, hI j hj, decide_eq_true_iff]
    constructor
    · rintro (⟨i, hi, e⟩ | e)
      · exact ⟨i, by omega, e⟩
      · exact ⟨t, by omega, e.symm⟩
    · rintro ⟨i, hi, e⟩
      by_cases z : i = t
      · exact Or.inr (by rw [← e, z])
      · exact Or.inl ⟨i, by omega, e⟩
  · intro self x hI
    unfold fX8_bitsRead_b4
    rw [rdN hd (by omega), hN, if_pos (nI_le (Nat.le_refl _) (by omega))]
    congr 1
    refine b_ext (fun j hj => bool_eq ?_)
    rw [hI j hj, RB_iff hR hd hj]
theorem m_isReading {A : AS} {R mR mN : Nat → Int32} {d e : Nat} (hL : AL A) (hR : RB A R) (hM : ML A mR mN) (hd : d < 30) (he : e < 30) : fX8_isReading mR mN (nI d) (nI e) = some (if bt (R d) e = true then 1 else 0) := by
  obtain ⟨hN, hl⟩ := hM d hd
  obtain ⟨p1, p2, p3, p4⟩ := hL d hd
  unfold fX8_isReading
  refine fr1 (fX8_isReading_b5 mR mN (nI d) (nI e)) (aN A d) (fun t x => (x = 1 ∧ ∃ i, i < t ∧ aL A d i = e) ∨ (x = 0 ∧ ¬ ∃ i, i < t ∧ aL A d i = e)) (fun r => r = some (if bt (R d) e = true then 1 else 0)) (by omega) ?_ ?_ fu 0 0 (by omega) (by unfold fu; omega) (Or.inr ⟨rfl, fun ⟨i, hi, _⟩ => absurd hi (Nat.not_lt_zero i)⟩)
  · intro self t x ht hI hself
    unfold fX8_isReading_b5 fX8_isReading_j36 fX8_isReading_j41
    rw [rdN hd (by omega), hN, if_neg (nI_ge ht (by omega)), show (30 : Int32) = nI 30 from rfl, pk_mul, nI_add, rdN (by omega) (by omega), hl t ht, nI_1]
    rcases hI with ⟨rfl, i, hi, z⟩ | ⟨rfl, hn⟩
    · rw [if_neg (show ¬ (1 : Int32) = 0 by decide)]
      exact hself _ (Or.inl ⟨rfl, i, by omega, z⟩)
    · rw [if_pos rfl]
      by_cases z : aL A d t = e
      · rw [z, if_pos rfl]
        exact hself _ (Or.inl ⟨rfl, t, by omega, z⟩)
      · rw [if_neg (fun q => z (nI_inj q (by have := p2 t ht; omega) (by omega)))]
        refine hself _ (Or.inr ⟨rfl, fun ⟨i, hi, q⟩ => ?_⟩)
        by_cases y : i = t
        · exact z (y ▸ q)
        · exact hn ⟨i, by omega, q⟩
  · intro self x hI
    unfold fX8_isReading_b5
    rw [rdN hd (by omega), hN, if_pos (nI_le (Nat.le_refl _) (by omega))]
    rcases hI with ⟨rfl, hn⟩ | ⟨rfl, hn⟩
    · rw [ckT (Or.inr rfl), if_pos ((RB_iff hR hd (by omega)).mpr hn)]
    · rw [ckT (Or.inl rfl), if_neg (fun z => hn ((RB_iff hR hd (by omega)).mp z))]
theorem and_zero (x y : Int32) : x &&& y = 0 ↔ ∀ e, e < 32 → ¬ (bt x e = true ∧ bt y e = true) := by
  constructor
  · intro h e he ⟨h1, h2⟩
    have := b_and x y e
    rw [h, b_0, h1, h2] at this
    cases this
  · intro h
    refine b_ext (fun i hi => ?_)
    rw [b_and, b_0]
    have := h i hi
    cases h1 : bt x i <;> cases h2 : bt y i
    · rfl
    · rfl
    · rfl
    · exact absurd ⟨h1, h2⟩ this
theorem c_readers {A : AS} {R : Nat → Int32} (p : Int32) (hL : AL A) (hR : RB A R) : ∃ x, fX3_readersOf R p = some x ∧ (∀ d, d < 30 → (bt x d = true ↔ ∃ e, e < 32 ∧ bt (R d) e = true ∧ bt p e = true)) ∧ (∀ d, 30 ≤ d → bt x d = false) := by
  unfold fX3_readersOf
  refine fr1 (fX3_readersOf_b4 R p) 30 (fun t x => (∀ d, d < t → (bt x d = true ↔ ∃ e, e < 32 ∧ bt (R d) e = true ∧ bt p e = true)) ∧ (∀ d, t ≤ d → bt x d = false)) (fun r => ∃ x, r = some x ∧ (∀ d, d < 30 → (bt x d = true ↔ ∃ e, e < 32 ∧ bt (R d) e = true ∧ bt p e = true)) ∧ (∀ d, 30 ≤ d → bt x d = false)) (by omega) ?_ ?_ fu 0 0 (by omega) (by unfold fu; omega) ⟨fun d hd => by omega, fun d _ => b_0 d⟩
  · intro self t x ht ⟨i1, i2⟩ hself
    unfold fX3_readersOf_b4 fX3_readersOf_j28
    rw [if_neg (ge30 ht), rdN ht (by omega), nI_1]
    by_cases h : R t &&& p = 0
    · rw [if_pos h]
      refine hself _ ⟨fun d hd => ?_, fun d hd => i2 d (by omega)⟩
      by_cases e : d = t
      · rw [e, i2 t (Nat.le_refl _)]
        exact ⟨fun z => (by cases z), fun ⟨y, hy, h1, h2⟩ => absurd ⟨h1, h2⟩ ((and_zero _ _).mp h y hy)⟩
      · exact i1 d (by omega)
    · rw [if_neg h, f_bit, bd1_e]
      refine hself _ ⟨fun d hd => ?_, fun d hd => ?_⟩
      · rw [b_or, bt_bI t (by omega) d (by omega)]
        by_cases e : d = t
        · rw [e, decide_eq_true rfl, Bool.or_true]
          refine ⟨fun _ => ?_, fun _ => rfl⟩
          by_cases q : ∃ e, e < 32 ∧ bt (R t) e = true ∧ bt p e = true
          · exact q
          · exact absurd ((and_zero _ _).mpr (fun y hy z => q ⟨y, hy, z.1, z.2⟩)) h
        · rw [decide_eq_false e, Bool.or_false]
          exact i1 d (by omega)
      · by_cases e : d < 32
        · rw [b_or, bt_bI t (by omega) d e, i2 d (by omega), decide_eq_false (by omega)]; rfl
        · exact b_big (by omega)
  · intro self x hI
    unfold fX3_readersOf_b4
    rw [if_pos le30]
    exact ⟨x, rfl, hI⟩
theorem c_readers1 {A : AS} {R : Nat → Int32} {c : Nat} (hL : AL A) (hR : RB A R) (hc : c < 30) : ∃ x, fX3_readersOf R (bI c) = some x ∧ (∀ d, d < 30 → bt x d = bt (R d) c) ∧ (∀ d, 30 ≤ d → bt x d = false) := by
  obtain ⟨x, h1, h2, h3⟩ := c_readers (bI c) hL hR
  refine ⟨x, h1, fun d hd => bool_eq ?_, h3⟩
  rw [h2 d hd]
  constructor
  · rintro ⟨e, he, h4, h5⟩
    rw [bt_bI c (by omega) e he, decide_eq_true_iff] at h5
    rw [← h5]; exact h4
  · intro h
    exact ⟨c, by omega, h, by rw [bt_bI c (by omega) c (by omega), decide_eq_true rfl]⟩
theorem pop30 {x : Int32} (h : ∀ d, 30 ≤ d → bt x d = false) : pop x = fb_ct (bt x) 30 := by
  unfold pop
  rw [fb_ct_succ, fb_ct_succ, h 31 (by omega), h 30 (by omega)]
  rfl
theorem m_readersOf {A : AS} {R mR mN : Nat → Int32} {c : Nat} (hL : AL A) (hR : RB A R) (hM : ML A mR mN) (hc : c < 30) : fX8_readersOf mR mN (nI c) = some (nI (fb_ct (fun d => bt (R d) c) 30)) := by
  unfold fX8_readersOf
  refine fr1 (fX8_readersOf_b4 mR mN (nI c)) 30 (fun t x => x = nI (fb_ct (fun d => bt (R d) c) t)) (fun r => r = some (nI (fb_ct (fun d => bt (R d) c) 30))) (by omega) ?_ ?_ fu 0 0 (by omega) (by unfold fu; omega) rfl
  · intro self t x ht hI hself
    unfold fX8_readersOf_b4 fX8_readersOf_j25
    rw [if_neg (ge30 ht), m_isReading hL hR hM ht hc, bd1_e, nI_1, hI]
    cases hb : bt (R t) c
    · rw [if_neg (show ¬ false = true by decide), if_pos rfl]
      refine hself _ ?_
      rw [fb_ct_succ, hb, if_neg (show ¬ false = true by decide), Nat.add_zero]
      exact Int32.add_zero _
    · rw [if_pos (show true = true from rfl), if_neg (show ¬ (1 : Int32) = 0 by decide), nI_1]
      refine hself _ ?_
      rw [fb_ct_succ, hb, if_pos (show true = true from rfl)]
  · intro self x hI
    unfold fX8_readersOf_b4
    rw [if_pos le30, hI]
theorem c_nth (x : Int32) {P : Nat} (hP : P < 2 ^ 31) : (∃ y, y < 30 ∧ bt x y = true ∧ fb_ct (bt x) y = P ∧ fX7_nthOf x (nI P) = some (nI y)) ∨ (fb_ct (bt x) 30 ≤ P ∧ fX7_nthOf x (nI P) = some (-4)) := by
  unfold fX7_nthOf
  refine fr1 (fX7_nthOf_b4 x (nI P)) 30 (fun t l => l = nI (fb_ct (bt x) t) ∧ fb_ct (bt x) t ≤ P) (fun r => (∃ y, y < 30 ∧ bt x y = true ∧ fb_ct (bt x) y = P ∧ r = some (nI y)) ∨ (fb_ct (bt x) 30 ≤ P ∧ r = some (-4))) (by omega) ?_ ?_ fu 0 0 (by omega) (by unfold fu; omega) ⟨rfl, Nat.zero_le _⟩
  · intro self t l ht ⟨i1, i2⟩ hself
    unfold fX7_nthOf_b4 fX7_nthOf_j28
    rw [if_neg (ge30 ht), has_bt (by omega), nI_1, i1]
    cases hb : bt x t
    · rw [if_neg (show ¬ false = true by decide)]
      have e : fb_ct (bt x) (t + 1) = fb_ct (bt x) t := by rw [fb_ct_succ, hb]; rfl
      exact hself _ ⟨by rw [e], by rw [e]; exact i2⟩
    · rw [if_pos (show true = true from rfl)]
      have e : fb_ct (bt x) (t + 1) = fb_ct (bt x) t + 1 := by rw [fb_ct_succ, hb]; rfl
      have := fb_ct_le (bt x) t
      by_cases z : fb_ct (bt x) t = P
      · rw [z, if_pos rfl]
        exact Or.inl ⟨t, ht, hb, z, rfl⟩
      · rw [if_neg (fun q => z (nI_inj q (by omega) hP)), nI_1]
        exact hself _ ⟨by rw [e], by omega⟩
  · intro self l ⟨i1, i2⟩
    unfold fX7_nthOf_b4
    rw [if_pos le30]
    exact Or.inr ⟨i2, rfl⟩
theorem ct_asc {p : Nat → Bool} {m : Nat} {l : Nat → Nat} (h1 : ∀ i, i < m → l i < 30) (h2 : ∀ i j, i < j → j < m → l i < l j) (h3 : ∀ y, y < 30 → (p y = true ↔ ∃ i, i < m ∧ l i = y)) : ∀ t, t ≤ 30 → ∃ k, k ≤ m ∧ fb_ct p t = k ∧ (∀ i, i < k → l i < t) ∧ (∀ i, k ≤ i → i < m → t ≤ l i) := by
  intro t
  induction t with
  | zero => exact fun _ => ⟨0, Nat.zero_le _, rfl, fun i hi => absurd hi (Nat.not_lt_zero i), fun i _ _ => Nat.zero_le _⟩
  | succ t ih =>
    intro ht
    obtain ⟨k, k1, k2, k3, k4⟩ := ih (by omega)
    cases hp : p t with
    | true =>
      obtain ⟨i, hi, e⟩ := (h3 t (by omega)).mp hp
      have a1 : k ≤ i := by
        by_cases z : i < k
        · have := k3 i z; omega
        · omega
      have a2 : i = k := by
        by_cases z : k < i
        · have := h2 k i z hi
          have := k4 k (Nat.le_refl _) (by omega)
          omega
        · omega
      subst a2
      refine ⟨i + 1, by omega, by rw [fb_ct_succ, hp, k2]; rfl, fun j hj => ?_, fun j hj hm => ?_⟩
      · by_cases z : j = i
        · rw [z]; omega
        · have := k3 j (by omega); omega
      · have := h2 i j (by omega) hm; omega
    | false =>
      refine ⟨k, k1, by rw [fb_ct_succ, hp, k2]; rfl, fun j hj => by have := k3 j hj; omega, fun j hj hm => ?_⟩
      have := k4 j hj hm
      by_cases z : l j = t
      · have := (h3 t (by omega)).mpr ⟨j, hm, z⟩
        rw [hp] at this; cases this
      · omega
theorem ct_asc_i {p : Nat → Bool} {m : Nat} {l : Nat → Nat} (h1 : ∀ i, i < m → l i < 30) (h2 : ∀ i j, i < j → j < m → l i < l j) (h3 : ∀ y, y < 30 → (p y = true ↔ ∃ i, i < m ∧ l i = y)) {i : Nat} (hi : i < m) : fb_ct p (l i) = i := by
  obtain ⟨k, k1, k2, k3, k4⟩ := ct_asc h1 h2 h3 (l i) (by have := h1 i hi; omega)
  rw [k2]
  by_cases z : i < k
  · have := k3 i z; omega
  · by_cases z2 : k < i
    · have := h2 k i z2 hi
      have := k4 k (Nat.le_refl _) (by omega)
      omega
    · omega
theorem ct_asc_n {p : Nat → Bool} {m : Nat} {l : Nat → Nat} (h1 : ∀ i, i < m → l i < 30) (h2 : ∀ i j, i < j → j < m → l i < l j) (h3 : ∀ y, y < 30 → (p y = true ↔ ∃ i, i < m ∧ l i = y)) : fb_ct p 30 = m := by
  obtain ⟨k, k1, k2, k3, k4⟩ := ct_asc h1 h2 h3 30 (Nat.le_refl _)
  rw [k2]
  by_cases z : k < m
  · have := k4 k (Nat.le_refl _) z
    have := h1 k z
    omega
  · omega
/-- how many bits: as many as there are in the list -/
theorem ct_list {l : Nat → Nat} : ∀ {m : Nat} {p : Nat → Bool}, (∀ i, i < m → l i < 30) → (∀ i j, i < j → j < m → l i ≠ l j) → (∀ y, y < 30 → (p y = true ↔ ∃ i, i < m ∧ l i = y)) → fb_ct p 30 = m
  | 0, p, _, _, h3 => by
    rw [fb_ct_zero]
    intro k hk
    cases e : p k
    · rfl
    · obtain ⟨i, hi, _⟩ := (h3 k hk).mp e
      omega
  | m + 1, p, h1, h2, h3 => by
    have ih := ct_list (l := l) (m := m) (p := up p (l m) false) (fun i hi => h1 i (by omega)) (fun i j hi hj => h2 i j hi (by omega)) (fun y hy => by
      by_cases e : y = l m
      · rw [e, up_s]
        exact ⟨fun z => (by cases z), fun ⟨i, hi, q⟩ => absurd q (h2 i m hi (by omega))⟩
      · rw [up_n _ _ e, h3 y hy]
        constructor
        · rintro ⟨i, hi, q⟩
          refine ⟨i, ?_, q⟩
          by_cases z : i = m
          · rw [z] at q; exact absurd q.symm e
          · omega
        · rintro ⟨i, hi, q⟩
          exact ⟨i, by omega, q⟩)
    have hb := fb_ct_upd p false (i := l m) (n := 30) (h1 m (by omega))
    rw [(h3 (l m) (h1 m (by omega))).mpr ⟨m, by omega, rfl⟩, if_pos rfl, if_neg (by decide)] at hb
    have hu : fb_ct (fun k => if k = l m then false else p k) 30 = m := ih
    omega
theorem pop_R {A : AS} {R : Nat → Int32} {d : Nat} (hL : AL A) (hR : RB A R) (hd : d < 30) : pop (R d) = aN A d := by
  rw [pop30 (fun j hj => RB_hi hL hR hd hj)]
  exact ct_list (l := aL A d) (hL d hd).2.1 (hL d hd).2.2.1 (fun y hy => RB_iff hR hd (by omega))
