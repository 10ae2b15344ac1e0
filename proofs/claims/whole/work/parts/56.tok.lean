/-! TEXT: the tokens, read by both -/
def scn (p : Nat → Bool) : Nat → Nat → Nat
  | 0, x => x
  | d + 1, x => if p x = true then scn p d (x + 1) else x
theorem scn_ge (p : Nat → Bool) : ∀ d x, x ≤ scn p d x
  | 0, x => Nat.le_refl x
  | d + 1, x => by
    unfold scn
    split
    · have := scn_ge p d (x + 1); omega
    · omega
theorem scn_le (p : Nat → Bool) : ∀ d x, scn p d x ≤ x + d
  | 0, x => Nat.le_refl x
  | d + 1, x => by
    unfold scn
    split
    · have := scn_le p d (x + 1); omega
    · omega
theorem scn_end (p : Nat → Bool) : ∀ d x, scn p d x < x + d → p (scn p d x) = false
  | 0, x, h => absurd h (by unfold scn; omega)
  | d + 1, x, h => by
    unfold scn at h ⊢
    split
    · rename_i q
      rw [if_pos q] at h
      exact scn_end p d (x + 1) (by omega)
    · rename_i q
      cases e : p x
      · rfl
      · exact absurd e q
theorem scn_pos (p : Nat → Bool) {d x : Nat} (hd : 0 < d) (hp : p x = true) : x < scn p d x := by
  obtain ⟨d, rfl⟩ : ∃ e, d = e + 1 := ⟨d - 1, by omega⟩
  unfold scn
  rw [if_pos hp]
  have := scn_ge p d (x + 1)
  omega
theorem scan1 {α : Type} (body : (Int32 → Option α) → Int32 → Option α) (p : Nat → Bool) (T : Nat) (E : Nat → Option α) (hs : ∀ self x, x < T → p x = true → body self (nI x) = self (nI (x + 1))) (he : ∀ self x, x ≤ T → (x < T → p x = false) → body self (nI x) = E x) : ∀ d x k, x + d = T → d < k → lq1 body k (nI x) = E (scn p d x) := by
  intro d
  induction d with
  | zero =>
    intro x k hx hk
    obtain ⟨k, rfl⟩ : ∃ e, k = e + 1 := ⟨k - 1, by omega⟩
    rw [lq1_s]
    exact he _ x (by omega) (fun h => by omega)
  | succ d ih =>
    intro x k hx hk
    obtain ⟨k, rfl⟩ : ∃ e, k = e + 1 := ⟨k - 1, by omega⟩
    rw [lq1_s]
    cases e : p x
    · rw [he _ x (by omega) (fun _ => e)]
      unfold scn
      rw [if_neg (by rw [e]; decide)]
    · rw [hs _ x (by omega) e, ih (x + 1) k (by omega) (by omega)]
      unfold scn
      rw [if_pos e]
      cases d <;> rfl
def acc (p : Nat → Bool) (g : Nat → Int32 → Int32) : Nat → Nat → Int32 → Int32
  | 0, _, v => v
  | d + 1, x, v => if p x = true then acc p g d (x + 1) (g x v) else v
theorem scan2 {α : Type} (body : (Int32 → Int32 → Option α) → Int32 → Int32 → Option α) (p : Nat → Bool) (g : Nat → Int32 → Int32) (T : Nat) (B : Nat) (E : Nat → Int32 → Option α) (hs : ∀ self x v, B ≤ x → x < T → p x = true → body self (nI x) v = self (nI (x + 1)) (g x v)) (he : ∀ self x v, B ≤ x → x ≤ T → (x < T → p x = false) → body self (nI x) v = E x v) : ∀ d x k v, B ≤ x → x + d = T → d < k → lq2 body k (nI x) v = E (scn p d x) (acc p g d x v) := by
  intro d
  induction d with
  | zero =>
    intro x k v hB hx hk
    obtain ⟨k, rfl⟩ : ∃ e, k = e + 1 := ⟨k - 1, by omega⟩
    rw [lq2_s]
    exact he _ x v hB (by omega) (fun h => by omega)
  | succ d ih =>
    intro x k v hB hx hk
    obtain ⟨k, rfl⟩ : ∃ e, k = e + 1 := ⟨k - 1, by omega⟩
    rw [lq2_s]
    cases e : p x
    · rw [he _ x v hB (by omega) (fun _ => e)]
      unfold scn acc
      rw [if_neg (by rw [e]; decide), if_neg (by rw [e]; decide)]
    · rw [hs _ x v hB (by omega) e, ih (x + 1) k (g x v) (by omega) (by omega) (by omega)]
      have h1 : scn p (d + 1) x = scn p d (x + 1) := by rw [scn, if_pos e]
      have h2 : acc p g (d + 1) x v = acc p g d (x + 1) (g x v) := by rw [acc, if_pos e]
      rw [h1, h2]
/-- the tape: T bytes, the same for both -/
def TP (by_ tp : Nat → Int32) (tb : Nat → Nat) (T : Nat) : Prop := T ≤ 320 ∧ ∀ k, k < T → tb k < 128 ∧ by_ k = nI (tb k) ∧ tp k = nI (tb k)
theorem TP_of {by_ tp : Nat → Int32} {sz td : Int32} (h : TR by_ sz tp td) : ∃ tb T, sz = nI T ∧ td = nI T ∧ TP by_ tp tb T := by
  obtain ⟨T, hT, h1, h2, h3⟩ := h
  refine ⟨fun k => (by_ k).toInt.toNat, T, h1, h2, hT, fun k hk => ?_⟩
  obtain ⟨v, hv, e1, e2⟩ := h3 k hk
  have : (by_ k).toInt.toNat = v := by rw [e1, nI_toInt (by omega)]; omega
  show (by_ k).toInt.toNat < 128 ∧ by_ k = nI (by_ k).toInt.toNat ∧ tp k = nI (by_ k).toInt.toNat
  rw [this]
  exact ⟨hv, e1, e2⟩
def iL (v : Nat) : Bool := decide (97 ≤ v ∧ v ≤ 122)
def iG (v : Nat) : Bool := decide (48 ≤ v ∧ v ≤ 57)
theorem c_letter : ∀ v, v < 128 → fX5_isLetter (nI v) = some (if iL v = true then 1 else 0) := by decide +kernel
theorem c_figure : ∀ v, v < 128 → fX5_isFigure (nI v) = some (if iG v = true then 1 else 0) := by decide +kernel
theorem m_letter : ∀ v, v < 128 → fX8_in (nI v).toInt64 97 122 = some (if iL v = true then 1 else 0) := by decide +kernel
theorem m_figure : ∀ v, v < 128 → fX8_in (nI v).toInt64 48 57 = some (if iG v = true then 1 else 0) := by decide +kernel
theorem m_letter4 : fX8_in (-4 : Int32).toInt64 97 122 = some 0 := by decide +kernel
theorem m_figure4 : fX8_in (-4 : Int32).toInt64 48 57 = some 0 := by decide +kernel
theorem m_byteIn {by_ tp : Nat → Int32} {tb : Nat → Nat} {T k : Nat} (h : TP by_ tp tb T) (hk : k < T) : fX8_byteAt tp (nI T) (nI k) = some (nI (tb k)) := by
  unfold fX8_byteAt
  rw [if_neg (nI_ge hk (by have := h.1; omega)), rdN (by have := h.1; omega) (by omega), (h.2 k hk).2.2]
theorem m_byteOut {tp : Nat → Int32} {T k : Nat} (hk : T ≤ k) (h : k < 2 ^ 30) : fX8_byteAt tp (nI T) (nI k) = some (-4) := by
  unfold fX8_byteAt
  rw [if_pos (nI_le hk (by omega))]
def pS (tb : Nat → Nat) : Nat → Bool := fun x => decide (tb x = 32)
def pL (tb : Nat → Nat) : Nat → Bool := fun x => iL (tb x)
def pG (tb : Nat → Nat) : Nat → Bool := fun x => iG (tb x)
def gC (tb : Nat → Nat) : Nat → Int32 → Int32 := fun x v => v * 10 + (nI (tb x) - 48)
def gM (tb : Nat → Nat) (z : Nat) : Nat → Int32 → Int32 := fun x v => if (3 : Int32) ≤ nI x - nI z then v else 10 * v + nI (tb x) - 48
theorem c_skip {by_ tp : Nat → Int32} {tb : Nat → Nat} {T x : Nat} (h : TP by_ tp tb T) (hx : x ≤ T) (s t n : Int32) : fX5_nextToken by_ (nI T) (nI x) s t n = fX5_nextToken_j38 by_ (nI T) (nI (scn (pS tb) (T - x) x)) s t n := by
  have hT := h.1
  unfold fX5_nextToken
  refine scan1 _ (pS tb) T (fun z => fX5_nextToken_j38 by_ (nI T) (nI z) s t n) ?_ ?_ (T - x) x fu (by omega) (by unfold fu; omega)
  · intro self x hx hp
    unfold fX5_nextToken_b0
    rw [if_neg (nI_ge hx (by omega)), rdN (by omega) (by omega), (h.2 x hx).2.1, of_decide_eq_true hp, if_pos (show nI 32 = 32 from rfl), nI_1]
  · intro self x hx hp
    unfold fX5_nextToken_b0
    by_cases e : x = T
    · rw [e, if_pos (nI_le (Nat.le_refl _) (by omega))]
    · have hx' : x < T := by omega
      rw [if_neg (nI_ge hx' (by omega)), rdN (by omega) (by omega), (h.2 x hx').2.1, if_neg (show ¬ nI (tb x) = 32 from fun z => of_decide_eq_false (hp hx') (nI_inj (b := 32) z (by have := (h.2 x hx').1; omega) (by omega)))]
theorem c_name {by_ tp : Nat → Int32} {tb : Nat → Nat} {T z : Nat} (h : TP by_ tp tb T) (hz : z ≤ T) (t : Int32) : fX5_takeName by_ (nI T) (nI z) t = some (nI (scn (pL tb) (T - z) z), 1) := by
  have hT := h.1
  unfold fX5_takeName
  refine scan1 _ (pL tb) T (fun y => some (nI y, 1)) ?_ ?_ (T - z) z fu (by omega) (by unfold fu; omega)
  · intro self x hx hp
    unfold fX5_takeName_b0
    rw [if_neg (nI_ge hx (by omega)), rdN (by omega) (by omega), (h.2 x hx).2.1, c_letter _ (h.2 x hx).1, bd1_e, if_pos (show iL (tb x) = true from hp), if_neg (show ¬ (1 : Int32) = 0 by decide), nI_1]
  · intro self x hx hp
    unfold fX5_takeName_b0 fX5_takeName_j39
    by_cases e : x = T
    · rw [e, if_pos (nI_le (Nat.le_refl _) (by omega))]
    · have hx' : x < T := by omega
      rw [if_neg (nI_ge hx' (by omega)), rdN (by omega) (by omega), (h.2 x hx').2.1, c_letter _ (h.2 x hx').1, bd1_e, if_neg (show ¬ iL (tb x) = true from fun q => by have := hp hx'; unfold pL at this; rw [this] at q; exact absurd q (by decide)), if_pos (show (0 : Int32) = 0 from rfl)]
theorem c_number {by_ tp : Nat → Int32} {tb : Nat → Nat} {T z : Nat} (h : TP by_ tp tb T) (hz : z ≤ T) (t n : Int32) : fX5_takeNumber by_ (nI T) (nI z) (nI z) t n = some (nI (scn (pG tb) (T - z) z), (if (3 : Int32) < nI (scn (pG tb) (T - z) z) - nI z then 4 else 2), acc (pG tb) (gC tb) (T - z) z 0) := by
  have hT := h.1
  unfold fX5_takeNumber
  refine scan2 _ (pG tb) (gC tb) T z (fun y v => some (nI y, (if (3 : Int32) < nI y - nI z then 4 else 2), v)) ?_ ?_ (T - z) z fu 0 (Nat.le_refl _) (by omega) (by unfold fu; omega)
  · intro self x v _ hx hp
    unfold fX5_takeNumber_b5
    rw [if_neg (nI_ge hx (by omega)), rdN (by omega) (by omega), (h.2 x hx).2.1, c_figure _ (h.2 x hx).1, bd1_e, if_pos (show iG (tb x) = true from hp), if_neg (show ¬ (1 : Int32) = 0 by decide), rdN (by omega) (by omega), (h.2 x hx).2.1, nI_1]
    rfl
  · intro self x v _ hx hp
    unfold fX5_takeNumber_b5 fX5_takeNumber_j68 fX5_takeNumber_j87
    have fin : (if (3 : Int32) < nI x - nI z then some (nI x, (4 : Int32), v) else some (nI x, 2, v)) = some (nI x, (if (3 : Int32) < nI x - nI z then 4 else 2), v) := by split <;> rfl
    by_cases e : x = T
    · rw [e] at fin
      rw [e, if_pos (nI_le (Nat.le_refl _) (by omega))]
      exact fin
    · have hx' : x < T := by omega
      rw [if_neg (nI_ge hx' (by omega)), rdN (by omega) (by omega), (h.2 x hx').2.1, c_figure _ (h.2 x hx').1, bd1_e, if_neg (show ¬ iG (tb x) = true from fun q => by have := hp hx'; unfold pG at this; rw [this] at q; exact absurd q (by decide)), if_pos (show (0 : Int32) = 0 from rfl)]
      exact fin
theorem m_name {by_ tp : Nat → Int32} {tb : Nat → Nat} {T z : Nat} (h : TP by_ tp tb T) (hz : z ≤ T) (br ba t : Int32) : lq1 (fX8_readsOn_b84 tp (nI T) br ba (nI z) t 0) fu (nI z) = some (br, ba, nI (scn (pL tb) (T - z) z), nI z, 1, 0) := by
  have hT := h.1
  refine scan1 _ (pL tb) T (fun y => some (br, ba, nI y, nI z, 1, 0)) ?_ ?_ (T - z) z fu (by omega) (by unfold fu; omega)
  · intro self x hx hp
    unfold fX8_readsOn_b84
    rw [m_byteIn h hx, bd1_e, m_letter _ (h.2 x hx).1, bd1_e, if_pos (show iL (tb x) = true from hp), if_neg (show ¬ (1 : Int32) = 0 by decide), nI_1]
  · intro self x hx hp
    unfold fX8_readsOn_b84
    by_cases e : x = T
    · rw [e, m_byteOut (Nat.le_refl _) (by omega), bd1_e, m_letter4, bd1_e, if_pos (show (0 : Int32) = 0 from rfl)]
    · have hx' : x < T := by omega
      rw [m_byteIn h hx', bd1_e, m_letter _ (h.2 x hx').1, bd1_e, if_neg (show ¬ iL (tb x) = true from fun q => by have := hp hx'; unfold pL at this; rw [this] at q; exact absurd q (by decide)), if_pos (show (0 : Int32) = 0 from rfl)]
theorem m_number {by_ tp : Nat → Int32} {tb : Nat → Nat} {T z : Nat} (h : TP by_ tp tb T) (hz : z ≤ T) (ba t : Int32) : lq2 (fX8_readsOn_b140 tp (nI T) 0 ba (nI z) t) fu (nI z) 0 = some ((if (3 : Int32) < nI (scn (pG tb) (T - z) z) - nI z then 1 else 0), (if (3 : Int32) < nI (scn (pG tb) (T - z) z) - nI z then nI z else ba), nI (scn (pG tb) (T - z) z), nI z, 2, acc (pG tb) (gM tb z) (T - z) z 0) := by
  have hT := h.1
  refine scan2 _ (pG tb) (gM tb z) T z (fun y v => some ((if (3 : Int32) < nI y - nI z then 1 else 0), (if (3 : Int32) < nI y - nI z then nI z else ba), nI y, nI z, 2, v)) ?_ ?_ (T - z) z fu 0 (Nat.le_refl _) (by omega) (by unfold fu; omega)
  · intro self x v _ hx hp
    unfold fX8_readsOn_b140 fX8_readsOn_j201 gM
    rw [m_byteIn h hx, bd1_e, m_figure _ (h.2 x hx).1, bd1_e, if_pos (show iG (tb x) = true from hp), if_neg (show ¬ (1 : Int32) = 0 by decide), nI_1]
    by_cases e : (3 : Int32) ≤ nI x - nI z
    · rw [if_pos e, if_pos e]
    · rw [if_neg e, if_neg e, bd1_e]
  · intro self x v hB hx hp
    unfold fX8_readsOn_b140 fX8_fails
    have hs := pk_sub_toInt (a := x) (b := z) (by omega) (by omega)
    have h3 : (3 : Int32).toInt = 3 := rfl
    have fin : (if nI x - nI z ≤ (3 : Int32) then some ((0 : Int32), ba, nI x, nI z, (2 : Int32), v) else bd2 (if (0 : Int32) = 0 then some ((1 : Int32), nI z) else some (0, ba)) fun a b => some (a, b, nI x, nI z, 2, v)) = some ((if (3 : Int32) < nI x - nI z then 1 else 0), (if (3 : Int32) < nI x - nI z then nI z else ba), nI x, nI z, 2, v) := by
      by_cases q : nI x - nI z ≤ (3 : Int32)
      · have q2 : ¬ (3 : Int32) < nI x - nI z := fun w => by
          have := Int32.lt_iff_toInt_lt.mp w
          have := Int32.le_iff_toInt_le.mp q
          omega
        rw [if_pos q, if_neg q2, if_neg q2]
      · have q2 : (3 : Int32) < nI x - nI z := Int32.lt_iff_toInt_lt.mpr (by
          have : ¬ (nI x - nI z).toInt ≤ (3 : Int32).toInt := fun w => q (Int32.le_iff_toInt_le.mpr w)
          omega)
        rw [if_neg q, if_pos (show (0 : Int32) = 0 from rfl), bd2_e, if_pos q2, if_pos q2]
    by_cases e : x = T
    · rw [e] at fin
      rw [e, m_byteOut (Nat.le_refl _) (by omega), bd1_e, m_figure4, bd1_e, if_pos (show (0 : Int32) = 0 from rfl)]
      exact fin
    · have hx' : x < T := by omega
      rw [m_byteIn h hx', bd1_e, m_figure _ (h.2 x hx').1, bd1_e, if_neg (show ¬ iG (tb x) = true from fun q => by have := hp hx'; unfold pG at this; rw [this] at q; exact absurd q (by decide)), if_pos (show (0 : Int32) = 0 from rfl)]
      exact fin
theorem accs {tb : Nat → Nat} {z : Nat} (hz : z < 1000) : ∀ d j v, j ≤ 3 → v < 10 ^ j → scn (pG tb) d (z + j) ≤ z + 3 → ∃ w, w ≤ 999 ∧ acc (pG tb) (gC tb) d (z + j) (nI v) = nI w ∧ acc (pG tb) (gM tb z) d (z + j) (nI v) = nI w
  | 0, j, v, hj, hv, _ => by
    refine ⟨v, ?_, rfl, rfl⟩
    have hc : j = 0 ∨ j = 1 ∨ j = 2 ∨ j = 3 := by omega
    rcases hc with rfl | rfl | rfl | rfl <;> omega
  | d + 1, j, v, hj, hv, hs => by
    unfold acc
    cases e : pG tb (z + j)
    · rw [if_neg (by decide), if_neg (by decide)]
      refine ⟨v, ?_, rfl, rfl⟩
      have hc : j = 0 ∨ j = 1 ∨ j = 2 ∨ j = 3 := by omega
      rcases hc with rfl | rfl | rfl | rfl <;> omega
    · rw [if_pos rfl, if_pos rfl]
      unfold scn at hs
      rw [if_pos e] at hs
      have h1 := scn_ge (pG tb) d (z + j + 1)
      have hb : 48 ≤ tb (z + j) ∧ tb (z + j) ≤ 57 := of_decide_eq_true e
      have hv' : v < 100 := by
        have hc : j = 0 ∨ j = 1 ∨ j = 2 := by omega
        rcases hc with rfl | rfl | rfl <;> omega
      have g1 : gC tb (z + j) (nI v) = nI (10 * v + (tb (z + j) - 48)) := by
        unfold gC
        rw [show (10 : Int32) = nI 10 from rfl, pk_mul, show (48 : Int32) = nI 48 from rfl, pk_sub (by omega), nI_add, Nat.mul_comm]
      have g2 : gM tb z (z + j) (nI v) = nI (10 * v + (tb (z + j) - 48)) := by
        unfold gM
        have hsub := pk_sub_toInt (a := z + j) (b := z) (by omega) (by omega)
        have h3 : (3 : Int32).toInt = 3 := rfl
        rw [if_neg (fun w => by have := Int32.le_iff_toInt_le.mp w; omega), show (10 : Int32) = nI 10 from rfl, pk_mul, show (48 : Int32) = nI 48 from rfl, nI_add, pk_sub (by omega)]
        congr 1
        omega
      rw [g1, g2]
      refine accs hz d (j + 1) _ (by omega) ?_ hs
      have hc : j = 0 ∨ j = 1 ∨ j = 2 := by omega
      rcases hc with rfl | rfl | rfl <;> omega
/-- the token behind place x, as both read it: from z to y, of sort C (4: none), its number N -/
def TOK (by_ tp : Nat → Int32) (T x y z C N : Nat) (tm nm : Int32) : Prop := x ≤ z ∧ z ≤ y ∧ y ≤ T ∧ C ≤ 4 ∧ (C ≠ 0 → z < y) ∧ (C = 2 → N ≤ 999 ∧ nm = nI N) ∧ (C ≠ 4 → tm = nI C) ∧ (∀ s t n, ∃ n', fX5_nextToken by_ (nI T) (nI x) s t n = some (nI y, nI z, nI C, n') ∧ (C = 2 → n' = nI N)) ∧ ∀ ba h t n, fX8_readsOn tp (nI T) 0 ba (nI x) h t n = some (if C = 4 then 1 else 0, if C = 4 then nI z else ba, nI y, nI z, tm, nm)
theorem tok {by_ tp : Nat → Int32} {tb : Nat → Nat} {T x : Nat} (h : TP by_ tp tb T) (hx : x ≤ T) : ∃ y z C N tm nm, TOK by_ tp T x y z C N tm nm := by
  have hT := h.1
  have z1 := scn_ge (pS tb) (T - x) x
  have z2 := scn_le (pS tb) (T - x) x
  have z3 := scn_end (pS tb) (T - x) x
  have hm : ∀ ba h' t n, fX8_readsOn tp (nI T) 0 ba (nI x) h' t n = fX8_readsOn_b8 tp (nI T) 0 ba h' t n (fun _ => none) (nI (scn (pS tb) (T - x) x)) := by
    intro ba h' t n
    unfold fX8_readsOn
    rw [if_pos (show (0 : Int32) ≤ 0 by decide)]
    refine scan1 _ (pS tb) T (fun z => fX8_readsOn_b8 tp (nI T) 0 ba h' t n (fun _ => none) (nI z)) ?_ ?_ (T - x) x fu (by omega) (by unfold fu; omega)
    · intro self x hx hp
      unfold fX8_readsOn_b8
      rw [m_byteIn h hx, bd1_e, of_decide_eq_true hp, if_pos (show nI 32 = 32 from rfl), nI_1]
    · intro self x hx hp
      unfold fX8_readsOn_b8
      by_cases e : x = T
      · rw [e, m_byteOut (Nat.le_refl _) (by omega), bd1_e, if_neg (show ¬ (-4 : Int32) = 32 by decide), bd1_e, bd1_e, if_neg (show ¬ (-4 : Int32) = 32 by decide)]
      · have hx' : x < T := by omega
        have ne : ¬ nI (tb x) = 32 := fun z => of_decide_eq_false (hp hx') (nI_inj (b := 32) z (by have := (h.2 x hx').1; omega) (by omega))
        rw [m_byteIn h hx', bd1_e, if_neg ne, bd1_e, bd1_e, if_neg ne]
  generalize hz : scn (pS tb) (T - x) x = z at *
  by_cases e : z = T
  · refine ⟨T, T, 0, 0, 0, 0, by omega, Nat.le_refl _, Nat.le_refl _, by omega, fun q => absurd rfl q, fun q => by omega, fun _ => rfl, fun s t n => ⟨n, ?_, fun q => by omega⟩, fun ba h' t n => ?_⟩
    · rw [c_skip h hx, hz, e]
      unfold fX5_nextToken_j38
      rw [if_neg (show ¬ nI T < nI T from fun w => Int.lt_irrefl _ (Int32.lt_iff_toInt_lt.mp w))]
      rfl
    · rw [hm, e]
      unfold fX8_readsOn_b8
      rw [m_byteOut (Nat.le_refl _) (by omega), bd1_e, if_neg (show ¬ (-4 : Int32) = 32 by decide), bd1_e, if_pos (show (-4 : Int32) = -4 from rfl)]
      rfl
  · have hzT : z < T := by omega
    obtain ⟨b1, b2, b3⟩ := h.2 z hzT
    have ne : ¬ nI (tb z) = 32 := fun w => of_decide_eq_false (z3 (by omega)) (nI_inj (b := 32) w (by omega) (by omega))
    cases eL : iL (tb z)
    · cases eG : iG (tb z)
      · by_cases e59 : tb z = 59
        · refine ⟨z + 1, z, 3, 0, 3, 0, z1, by omega, by omega, by omega, fun _ => by omega, fun q => by omega, fun _ => rfl, fun s t n => ⟨n, ?_, fun q => by omega⟩, fun ba h' t n => ?_⟩
          · rw [c_skip h hx, hz]
            unfold fX5_nextToken_j38 fX5_nextToken_j129
            rw [if_pos (nI_lt hzT (by omega)), rdN (by omega) (by omega), b2, c_letter _ b1, eL, bd1_e, if_neg (show ¬ false = true by decide), if_pos (show (0 : Int32) = 0 from rfl), rdN (by omega) (by omega), b2, c_figure _ b1, eG, bd1_e, if_neg (show ¬ false = true by decide), if_pos (show (0 : Int32) = 0 from rfl), rdN (by omega) (by omega), b2, e59, if_pos (show nI 59 = 59 from rfl), nI_1]
            rfl
          · rw [hm]
            unfold fX8_readsOn_b8
            rw [m_byteIn h hzT, bd1_e, if_neg ne, bd1_e, if_neg (nI_ne_m4 (by omega)), m_letter _ b1, eL, bd1_e, if_neg (show ¬ false = true by decide), if_pos (show (0 : Int32) = 0 from rfl), m_figure _ b1, eG, bd1_e, if_neg (show ¬ false = true by decide), if_pos (show (0 : Int32) = 0 from rfl), e59, if_pos (show nI 59 = 59 from rfl), nI_1]
            rfl
        · have n59 : ¬ nI (tb z) = 59 := fun w => e59 (nI_inj (b := 59) w (by omega) (by omega))
          refine ⟨z + 1, z, 4, 0, 3, 0, z1, by omega, by omega, by omega, fun _ => by omega, fun q => by omega, fun q => absurd rfl q, fun s t n => ⟨n, ?_, fun q => by omega⟩, fun ba h' t n => ?_⟩
          · rw [c_skip h hx, hz]
            unfold fX5_nextToken_j38 fX5_nextToken_j129
            rw [if_pos (nI_lt hzT (by omega)), rdN (by omega) (by omega), b2, c_letter _ b1, eL, bd1_e, if_neg (show ¬ false = true by decide), if_pos (show (0 : Int32) = 0 from rfl), rdN (by omega) (by omega), b2, c_figure _ b1, eG, bd1_e, if_neg (show ¬ false = true by decide), if_pos (show (0 : Int32) = 0 from rfl), rdN (by omega) (by omega), b2, if_neg n59, nI_1]
            rfl
          · rw [hm]
            unfold fX8_readsOn_b8 fX8_fails
            rw [m_byteIn h hzT, bd1_e, if_neg ne, bd1_e, if_neg (nI_ne_m4 (by omega)), m_letter _ b1, eL, bd1_e, if_neg (show ¬ false = true by decide), if_pos (show (0 : Int32) = 0 from rfl), m_figure _ b1, eG, bd1_e, if_neg (show ¬ false = true by decide), if_pos (show (0 : Int32) = 0 from rfl), if_neg n59, if_pos (show (0 : Int32) = 0 from rfl), bd2_e, nI_1]
            rfl
      · have y1 := scn_pos (pG tb) (d := T - z) (x := z) (by omega) eG
        have y2 := scn_le (pG tb) (T - z) z
        have hcl : ∀ s t n, fX5_nextToken by_ (nI T) (nI x) s t n = some (nI (scn (pG tb) (T - z) z), nI z, (if (3 : Int32) < nI (scn (pG tb) (T - z) z) - nI z then 4 else 2), acc (pG tb) (gC tb) (T - z) z 0) := by
          intro s t n
          rw [c_skip h hx, hz]
          unfold fX5_nextToken_j38
          rw [if_pos (nI_lt hzT (by omega)), rdN (by omega) (by omega), b2, c_letter _ b1, eL, bd1_e, if_neg (show ¬ false = true by decide), if_pos (show (0 : Int32) = 0 from rfl), rdN (by omega) (by omega), b2, c_figure _ b1, eG, bd1_e, if_pos (show true = true from rfl), if_neg (show ¬ (1 : Int32) = 0 by decide), c_number h (by omega), bd3_e]
        have hml : ∀ ba h' t n, fX8_readsOn tp (nI T) 0 ba (nI x) h' t n = some ((if (3 : Int32) < nI (scn (pG tb) (T - z) z) - nI z then 1 else 0), (if (3 : Int32) < nI (scn (pG tb) (T - z) z) - nI z then nI z else ba), nI (scn (pG tb) (T - z) z), nI z, 2, acc (pG tb) (gM tb z) (T - z) z 0) := by
          intro ba h' t n
          rw [hm]
          unfold fX8_readsOn_b8
          rw [m_byteIn h hzT, bd1_e, if_neg ne, bd1_e, if_neg (nI_ne_m4 (by omega)), m_letter _ b1, eL, bd1_e, if_neg (show ¬ false = true by decide), if_pos (show (0 : Int32) = 0 from rfl), m_figure _ b1, eG, bd1_e, if_pos (show true = true from rfl), if_neg (show ¬ (1 : Int32) = 0 by decide)]
          exact m_number h (by omega) ba t
        have hs := pk_sub_toInt (a := scn (pG tb) (T - z) z) (b := z) (by omega) (by omega)
        have h3 : (3 : Int32).toInt = 3 := rfl
        by_cases q : scn (pG tb) (T - z) z ≤ z + 3
        · have q2 : ¬ (3 : Int32) < nI (scn (pG tb) (T - z) z) - nI z := fun w => by have := Int32.lt_iff_toInt_lt.mp w; omega
          obtain ⟨w, w1, w2, w3⟩ := accs (tb := tb) (z := z) (by omega) (T - z) 0 0 (by omega) (by decide) q
          refine ⟨scn (pG tb) (T - z) z, z, 2, w, 2, acc (pG tb) (gM tb z) (T - z) z 0, z1, by omega, by omega, by omega, fun _ => y1, fun _ => ⟨w1, w3⟩, fun _ => rfl, fun s t n => ⟨_, ?_, fun _ => w2⟩, fun ba h' t n => ?_⟩
          · rw [hcl, if_neg q2]; rfl
          · rw [hml, if_neg q2, if_neg q2]; rfl
        · have q2 : (3 : Int32) < nI (scn (pG tb) (T - z) z) - nI z := Int32.lt_iff_toInt_lt.mpr (by omega)
          refine ⟨scn (pG tb) (T - z) z, z, 4, 0, 2, acc (pG tb) (gM tb z) (T - z) z 0, z1, by omega, by omega, by omega, fun _ => y1, fun w => by omega, fun w => absurd rfl w, fun s t n => ⟨acc (pG tb) (gC tb) (T - z) z 0, ?_, fun w => by omega⟩, fun ba h' t n => ?_⟩
          · rw [hcl, if_pos q2]; rfl
          · rw [hml, if_pos q2, if_pos q2]; rfl
    · have y1 := scn_pos (pL tb) (d := T - z) (x := z) (by omega) eL
      have y2 := scn_le (pL tb) (T - z) z
      refine ⟨scn (pL tb) (T - z) z, z, 1, 0, 1, 0, z1, by omega, by omega, by omega, fun _ => y1, fun q => by omega, fun _ => rfl, fun s t n => ⟨n, ?_, fun q => by omega⟩, fun ba h' t n => ?_⟩
      · rw [c_skip h hx, hz]
        unfold fX5_nextToken_j38
        rw [if_pos (nI_lt hzT (by omega)), rdN (by omega) (by omega), b2, c_letter _ b1, eL, bd1_e, if_pos (show true = true from rfl), if_neg (show ¬ (1 : Int32) = 0 by decide), c_name h (by omega), bd2_e]
        rfl
      · rw [hm]
        unfold fX8_readsOn_b8
        rw [m_byteIn h hzT, bd1_e, if_neg ne, bd1_e, if_neg (nI_ne_m4 (by omega)), m_letter _ b1, eL, bd1_e, if_pos (show true = true from rfl), if_neg (show ¬ (1 : Int32) = 0 by decide), m_name h (by omega)]
        rfl
