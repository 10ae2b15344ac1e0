/-! PURE: loops, numbers, bits, the helpers' programs -/
theorem rdN {α : Type} {f : Nat → Int32} {n c : Nat} {k : Int32 → Option α} (h : c < n) (hn : n < 2 ^ 31) : rd f n (nI c) k = k (f c) := by
  unfold rd
  rw [if_pos (nI_in h hn), nI_clamp (by omega)]
theorem wrN {α : Type} {f : Nat → Int32} {n c : Nat} {v : Int32} {k : (Nat → Int32) → Option α} (h : c < n) (hn : n < 2 ^ 31) : wr f n (nI c) v k = k (upd f c v) := by
  unfold wr
  rw [if_pos (nI_in h hn), nI_clamp (by omega)]
theorem ckT {α : Type} {c : Prop} {_ : Decidable c} {k : Option α} (h : c) : ck c k = k := if_pos h
theorem us (f : Nat → Int32) (k : Nat) (v : Int32) : upd f k v k = v := by unfold upd; rw [if_pos rfl]
theorem un (f : Nat → Int32) {k j : Nat} (v : Int32) (h : j ≠ k) : upd f k v j = f j := by unfold upd; rw [if_neg h]
theorem ge30 {c : Nat} (h : c < 30) : ¬ (30 : Int32) ≤ nI c := nI_ge (b := 30) h (by omega)
theorem le30 : (30 : Int32) ≤ nI 30 := nI_le (a := 30) (Nat.le_refl _) (by omega)
theorem nI_ne_m4 {c : Nat} (h : c < 2 ^ 31) : ¬ nI c = (-4 : Int32) := fun e => by
  have h1 := nI_toInt h
  rw [e] at h1
  have : ((-4 : Int32)).toInt = -4 := rfl
  omega
theorem nI_inj {a b : Nat} (h : nI a = nI b) (ha : a < 2 ^ 31) (hb : b < 2 ^ 31) : a = b := (nI_eq ha hb).mp h
theorem ix30 (x : Int32) : (x.toInt < 0 ∨ 30 ≤ x.toInt) ∨ ∃ j : Nat, j < 30 ∧ x = nI j := by
  rcases pk_ix x (n := 30) (by omega) with h | h | h
  · exact Or.inl (Or.inl (Int32.lt_iff_toInt_lt.mp h))
  · refine Or.inl (Or.inr ?_)
    have := Int32.le_iff_toInt_le.mp h
    rwa [nI_toInt (by omega)] at this
  · exact Or.inr h
def bI (c : Nat) : Int32 := (1 : Int32) <<< (nI c &&& 31)
theorem bt_bI : ∀ c, c < 32 → ∀ i, i < 32 → bt (bI c) i = decide (i = c) := by decide +kernel
theorem f_bit {c : Nat} : fX7_bit (nI c) = some (bI c) := rfl
theorem and1 (x : Int32) : x &&& 1 = if bt x 0 then 1 else 0 := by
  apply b_ext
  intro i hi
  have h1 : ∀ i, i < 32 → bt (1 : Int32) i = decide (i = 0) := by decide +kernel
  rw [b_and, h1 i hi]
  by_cases h0 : i = 0
  · subst h0
    cases h : bt x 0
    · simp [b_0]
    · simp [h1]
  · cases h : bt x 0
    · simp [h0, b_0]
    · simp [h0, h1 i hi]
theorem f_has (x : Int32) {c : Nat} (h : c < 32) : fX7_has x (nI c) = some (if bt x c then 1 else 0) := by
  unfold fX7_has
  rw [and1, b_ushr c h, Nat.add_zero]
  cases bt x c <;> rfl
theorem f_isCell (x : Int32) : fX7_isCell x = some (if 0 ≤ x.toInt ∧ x.toInt < 30 then 1 else 0) := by
  unfold fX7_isCell
  have e0 : (x < 0) ↔ x.toInt < 0 := Int32.lt_iff_toInt_lt
  have e1 : ((30 : Int32) ≤ x) ↔ 30 ≤ x.toInt := Int32.le_iff_toInt_le
  by_cases h0 : x.toInt < 0
  · rw [if_pos (e0.mpr h0), if_neg (by omega)]
  · rw [if_neg (fun h => h0 (e0.mp h))]
    by_cases h1 : 30 ≤ x.toInt
    · rw [if_pos (e1.mpr h1), if_neg (by omega)]
    · rw [if_neg (fun h => h1 (e1.mp h)), if_pos (by omega)]
theorem f_isCellN {c : Nat} (h : c < 30) : fX7_isCell (nI c) = some 1 := by
  rw [f_isCell, nI_toInt (by omega), if_pos (by omega)]
theorem f_in (a b c : Int64) : fX8_in a b c = some (if b.toInt ≤ a.toInt ∧ a.toInt ≤ c.toInt then 1 else 0) := by
  unfold fX8_in
  have Lt : ∀ x y : Int64, x < y ↔ x.toInt < y.toInt := fun _ _ => Int64.lt_iff_toInt_lt
  have h1 : lg_cmp a b < 0 ↔ a.toInt < b.toInt := by
    unfold lg_cmp
    by_cases g : a > b
    · rw [if_pos g]
      have := (Lt b a).mp g
      exact ⟨fun h => absurd h (by decide), fun h => by omega⟩
    · rw [if_neg g]
      have h3 : ¬ b.toInt < a.toInt := fun h => g ((Lt b a).mpr h)
      by_cases q : a = b
      · rw [if_pos q]
        subst q
        exact ⟨fun h => absurd h (by decide), fun h => by omega⟩
      · rw [if_neg q]
        have h4 : a.toInt ≠ b.toInt := fun h => q (Int64.toInt_inj.mp h)
        exact ⟨fun _ => by omega, fun _ => by decide⟩
  have h2 : 0 < lg_cmp a c ↔ c.toInt < a.toInt := by
    unfold lg_cmp
    by_cases g : a > c
    · rw [if_pos g]
      have := (Lt c a).mp g
      exact ⟨fun _ => this, fun _ => by decide⟩
    · rw [if_neg g]
      have h3 : ¬ c.toInt < a.toInt := fun h => g ((Lt c a).mpr h)
      by_cases q : a = c
      · rw [if_pos q]
        exact ⟨fun h => absurd h (by decide), fun h => absurd h h3⟩
      · rw [if_neg q]
        exact ⟨fun h => absurd h (by decide), fun h => absurd h h3⟩
  by_cases e1 : a.toInt < b.toInt
  · rw [if_pos (h1.mpr e1), if_neg (by omega)]
  · rw [if_neg (fun h => e1 (h1.mp h))]
    by_cases e2 : c.toInt < a.toInt
    · rw [if_pos (h2.mpr e2), if_neg (by omega)]
    · rw [if_neg (fun h => e2 (h2.mp h)), if_pos (by omega)]
theorem fr0 {α : Type} (body : (Int32 → Option α) → Int32 → Option α) (N : Nat) (I : Nat → Prop) (Post : Option α → Prop) (hN : N < 2 ^ 30)
    (hs : ∀ (self : Int32 → Option α) (c : Nat) , c < N → I c  → (I (c + 1)  → Post (self  (nI (c + 1)))) → Post (body self  (nI c)))
    (hf : ∀ (self : Int32 → Option α) , I N  → Post (body self  (nI N))) : ∀ (n c : Nat) , c ≤ N → N < n + c → I c  → Post (lq1 body n  (nI c)) := by
  intro n
  induction n with
  | zero => intro c  h1 h2 _; omega
  | succ n ih =>
    intro c  h1 h2 hI
    rw [lq1_s]
    by_cases e : c = N
    · subst e
      exact hf _  hI
    · exact hs _ c  (by omega) hI (fun  hb => ih (c + 1)  (by omega) (by omega) hb)
theorem fr1 {A1 α : Type} (body : (A1 → Int32 → Option α) → A1 → Int32 → Option α) (N : Nat) (I : Nat → A1 → Prop) (Post : Option α → Prop) (hN : N < 2 ^ 30)
    (hs : ∀ (self : A1 → Int32 → Option α) (c : Nat) (a1 : A1) , c < N → I c a1 → (∀ (b1 : A1) , I (c + 1) b1 → Post (self b1 (nI (c + 1)))) → Post (body self a1 (nI c)))
    (hf : ∀ (self : A1 → Int32 → Option α) (a1 : A1) , I N a1 → Post (body self a1 (nI N))) : ∀ (n c : Nat) (a1 : A1) , c ≤ N → N < n + c → I c a1 → Post (lq2 body n a1 (nI c)) := by
  intro n
  induction n with
  | zero => intro c a1 h1 h2 _; omega
  | succ n ih =>
    intro c a1 h1 h2 hI
    rw [lq2_s]
    by_cases e : c = N
    · subst e
      exact hf _ _ hI
    · exact hs _ c _ (by omega) hI (fun b1 hb => ih (c + 1) b1 (by omega) (by omega) hb)
theorem fr2 {A1 A2 α : Type} (body : (A1 → A2 → Int32 → Option α) → A1 → A2 → Int32 → Option α) (N : Nat) (I : Nat → A1 → A2 → Prop) (Post : Option α → Prop) (hN : N < 2 ^ 30)
    (hs : ∀ (self : A1 → A2 → Int32 → Option α) (c : Nat) (a1 : A1) (a2 : A2) , c < N → I c a1 a2 → (∀ (b1 : A1) (b2 : A2) , I (c + 1) b1 b2 → Post (self b1 b2 (nI (c + 1)))) → Post (body self a1 a2 (nI c)))
    (hf : ∀ (self : A1 → A2 → Int32 → Option α) (a1 : A1) (a2 : A2) , I N a1 a2 → Post (body self a1 a2 (nI N))) : ∀ (n c : Nat) (a1 : A1) (a2 : A2) , c ≤ N → N < n + c → I c a1 a2 → Post (lq3 body n a1 a2 (nI c)) := by
  intro n
  induction n with
  | zero => intro c a1 a2 h1 h2 _; omega
  | succ n ih =>
    intro c a1 a2 h1 h2 hI
    rw [lq3_s]
    by_cases e : c = N
    · subst e
      exact hf _ _ _ hI
    · exact hs _ c _ _ (by omega) hI (fun b1 b2 hb => ih (c + 1) b1 b2 (by omega) (by omega) hb)
theorem fr3 {A1 A2 A3 α : Type} (body : (A1 → A2 → A3 → Int32 → Option α) → A1 → A2 → A3 → Int32 → Option α) (N : Nat) (I : Nat → A1 → A2 → A3 → Prop) (Post : Option α → Prop) (hN : N < 2 ^ 30)
    (hs : ∀ (self : A1 → A2 → A3 → Int32 → Option α) (c : Nat) (a1 : A1) (a2 : A2) (a3 : A3) , c < N → I c a1 a2 a3 → (∀ (b1 : A1) (b2 : A2) (b3 : A3) , I (c + 1) b1 b2 b3 → Post (self b1 b2 b3 (nI (c + 1)))) → Post (body self a1 a2 a3 (nI c)))
    (hf : ∀ (self : A1 → A2 → A3 → Int32 → Option α) (a1 : A1) (a2 : A2) (a3 : A3) , I N a1 a2 a3 → Post (body self a1 a2 a3 (nI N))) : ∀ (n c : Nat) (a1 : A1) (a2 : A2) (a3 : A3) , c ≤ N → N < n + c → I c a1 a2 a3 → Post (lq4 body n a1 a2 a3 (nI c)) := by
  intro n
  induction n with
  | zero => intro c a1 a2 a3 h1 h2 _; omega
  | succ n ih =>
    intro c a1 a2 a3 h1 h2 hI
    rw [lq4_s]
    by_cases e : c = N
    · subst e
      exact hf _ _ _ _ hI
    · exact hs _ c _ _ _ (by omega) hI (fun b1 b2 b3 hb => ih (c + 1) b1 b2 b3 (by omega) (by omega) hb)
theorem fr4 {A1 A2 A3 A4 α : Type} (body : (A1 → A2 → A3 → A4 → Int32 → Option α) → A1 → A2 → A3 → A4 → Int32 → Option α) (N : Nat) (I : Nat → A1 → A2 → A3 → A4 → Prop) (Post : Option α → Prop) (hN : N < 2 ^ 30)
    (hs : ∀ (self : A1 → A2 → A3 → A4 → Int32 → Option α) (c : Nat) (a1 : A1) (a2 : A2) (a3 : A3) (a4 : A4) , c < N → I c a1 a2 a3 a4 → (∀ (b1 : A1) (b2 : A2) (b3 : A3) (b4 : A4) , I (c + 1) b1 b2 b3 b4 → Post (self b1 b2 b3 b4 (nI (c + 1)))) → Post (body self a1 a2 a3 a4 (nI c)))
    (hf : ∀ (self : A1 → A2 → A3 → A4 → Int32 → Option α) (a1 : A1) (a2 : A2) (a3 : A3) (a4 : A4) , I N a1 a2 a3 a4 → Post (body self a1 a2 a3 a4 (nI N))) : ∀ (n c : Nat) (a1 : A1) (a2 : A2) (a3 : A3) (a4 : A4) , c ≤ N → N < n + c → I c a1 a2 a3 a4 → Post (lq5 body n a1 a2 a3 a4 (nI c)) := by
  intro n
  induction n with
  | zero => intro c a1 a2 a3 a4 h1 h2 _; omega
  | succ n ih =>
    intro c a1 a2 a3 a4 h1 h2 hI
    rw [lq5_s]
    by_cases e : c = N
    · subst e
      exact hf _ _ _ _ _ hI
    · exact hs _ c _ _ _ _ (by omega) hI (fun b1 b2 b3 b4 hb => ih (c + 1) b1 b2 b3 b4 (by omega) (by omega) hb)
theorem fr5 {A1 A2 A3 A4 A5 α : Type} (body : (A1 → A2 → A3 → A4 → A5 → Int32 → Option α) → A1 → A2 → A3 → A4 → A5 → Int32 → Option α) (N : Nat) (I : Nat → A1 → A2 → A3 → A4 → A5 → Prop) (Post : Option α → Prop) (hN : N < 2 ^ 30)
    (hs : ∀ (self : A1 → A2 → A3 → A4 → A5 → Int32 → Option α) (c : Nat) (a1 : A1) (a2 : A2) (a3 : A3) (a4 : A4) (a5 : A5) , c < N → I c a1 a2 a3 a4 a5 → (∀ (b1 : A1) (b2 : A2) (b3 : A3) (b4 : A4) (b5 : A5) , I (c + 1) b1 b2 b3 b4 b5 → Post (self b1 b2 b3 b4 b5 (nI (c + 1)))) → Post (body self a1 a2 a3 a4 a5 (nI c)))
    (hf : ∀ (self : A1 → A2 → A3 → A4 → A5 → Int32 → Option α) (a1 : A1) (a2 : A2) (a3 : A3) (a4 : A4) (a5 : A5) , I N a1 a2 a3 a4 a5 → Post (body self a1 a2 a3 a4 a5 (nI N))) : ∀ (n c : Nat) (a1 : A1) (a2 : A2) (a3 : A3) (a4 : A4) (a5 : A5) , c ≤ N → N < n + c → I c a1 a2 a3 a4 a5 → Post (lq6 body n a1 a2 a3 a4 a5 (nI c)) := by
  intro n
  induction n with
  | zero => intro c a1 a2 a3 a4 a5 h1 h2 _; omega
  | succ n ih =>
    intro c a1 a2 a3 a4 a5 h1 h2 hI
    rw [lq6_s]
    by_cases e : c = N
    · subst e
      exact hf _ _ _ _ _ _ hI
    · exact hs _ c _ _ _ _ _ (by omega) hI (fun b1 b2 b3 b4 b5 hb => ih (c + 1) b1 b2 b3 b4 b5 (by omega) (by omega) hb)
theorem fr6 {A1 A2 A3 A4 A5 A6 α : Type} (body : (A1 → A2 → A3 → A4 → A5 → A6 → Int32 → Option α) → A1 → A2 → A3 → A4 → A5 → A6 → Int32 → Option α) (N : Nat) (I : Nat → A1 → A2 → A3 → A4 → A5 → A6 → Prop) (Post : Option α → Prop) (hN : N < 2 ^ 30)
    (hs : ∀ (self : A1 → A2 → A3 → A4 → A5 → A6 → Int32 → Option α) (c : Nat) (a1 : A1) (a2 : A2) (a3 : A3) (a4 : A4) (a5 : A5) (a6 : A6) , c < N → I c a1 a2 a3 a4 a5 a6 → (∀ (b1 : A1) (b2 : A2) (b3 : A3) (b4 : A4) (b5 : A5) (b6 : A6) , I (c + 1) b1 b2 b3 b4 b5 b6 → Post (self b1 b2 b3 b4 b5 b6 (nI (c + 1)))) → Post (body self a1 a2 a3 a4 a5 a6 (nI c)))
    (hf : ∀ (self : A1 → A2 → A3 → A4 → A5 → A6 → Int32 → Option α) (a1 : A1) (a2 : A2) (a3 : A3) (a4 : A4) (a5 : A5) (a6 : A6) , I N a1 a2 a3 a4 a5 a6 → Post (body self a1 a2 a3 a4 a5 a6 (nI N))) : ∀ (n c : Nat) (a1 : A1) (a2 : A2) (a3 : A3) (a4 : A4) (a5 : A5) (a6 : A6) , c ≤ N → N < n + c → I c a1 a2 a3 a4 a5 a6 → Post (lq7 body n a1 a2 a3 a4 a5 a6 (nI c)) := by
  intro n
  induction n with
  | zero => intro c a1 a2 a3 a4 a5 a6 h1 h2 _; omega
  | succ n ih =>
    intro c a1 a2 a3 a4 a5 a6 h1 h2 hI
    rw [lq7_s]
    by_cases e : c = N
    · subst e
      exact hf _ _ _ _ _ _ _ hI
    · exact hs _ c _ _ _ _ _ _ (by omega) hI (fun b1 b2 b3 b4 b5 b6 hb => ih (c + 1) b1 b2 b3 b4 b5 b6 (by omega) (by omega) hb)
theorem fr7 {A1 A2 A3 A4 A5 A6 A7 α : Type} (body : (A1 → A2 → A3 → A4 → A5 → A6 → A7 → Int32 → Option α) → A1 → A2 → A3 → A4 → A5 → A6 → A7 → Int32 → Option α) (N : Nat) (I : Nat → A1 → A2 → A3 → A4 → A5 → A6 → A7 → Prop) (Post : Option α → Prop) (hN : N < 2 ^ 30)
    (hs : ∀ (self : A1 → A2 → A3 → A4 → A5 → A6 → A7 → Int32 → Option α) (c : Nat) (a1 : A1) (a2 : A2) (a3 : A3) (a4 : A4) (a5 : A5) (a6 : A6) (a7 : A7) , c < N → I c a1 a2 a3 a4 a5 a6 a7 → (∀ (b1 : A1) (b2 : A2) (b3 : A3) (b4 : A4) (b5 : A5) (b6 : A6) (b7 : A7) , I (c + 1) b1 b2 b3 b4 b5 b6 b7 → Post (self b1 b2 b3 b4 b5 b6 b7 (nI (c + 1)))) → Post (body self a1 a2 a3 a4 a5 a6 a7 (nI c)))
    (hf : ∀ (self : A1 → A2 → A3 → A4 → A5 → A6 → A7 → Int32 → Option α) (a1 : A1) (a2 : A2) (a3 : A3) (a4 : A4) (a5 : A5) (a6 : A6) (a7 : A7) , I N a1 a2 a3 a4 a5 a6 a7 → Post (body self a1 a2 a3 a4 a5 a6 a7 (nI N))) : ∀ (n c : Nat) (a1 : A1) (a2 : A2) (a3 : A3) (a4 : A4) (a5 : A5) (a6 : A6) (a7 : A7) , c ≤ N → N < n + c → I c a1 a2 a3 a4 a5 a6 a7 → Post (lq8 body n a1 a2 a3 a4 a5 a6 a7 (nI c)) := by
  intro n
  induction n with
  | zero => intro c a1 a2 a3 a4 a5 a6 a7 h1 h2 _; omega
  | succ n ih =>
    intro c a1 a2 a3 a4 a5 a6 a7 h1 h2 hI
    rw [lq8_s]
    by_cases e : c = N
    · subst e
      exact hf _ _ _ _ _ _ _ _ hI
    · exact hs _ c _ _ _ _ _ _ _ (by omega) hI (fun b1 b2 b3 b4 b5 b6 b7 hb => ih (c + 1) b1 b2 b3 b4 b5 b6 b7 (by omega) (by omega) hb)
theorem fr8 {A1 A2 A3 A4 A5 A6 A7 A8 α : Type} (body : (A1 → A2 → A3 → A4 → A5 → A6 → A7 → A8 → Int32 → Option α) → A1 → A2 → A3 → A4 → A5 → A6 → A7 → A8 → Int32 → Option α) (N : Nat) (I : Nat → A1 → A2 → A3 → A4 → A5 → A6 → A7 → A8 → Prop) (Post : Option α → Prop) (hN : N < 2 ^ 30)
    (hs : ∀ (self : A1 → A2 → A3 → A4 → A5 → A6 → A7 → A8 → Int32 → Option α) (c : Nat) (a1 : A1) (a2 : A2) (a3 : A3) (a4 : A4) (a5 : A5) (a6 : A6) (a7 : A7) (a8 : A8) , c < N → I c a1 a2 a3 a4 a5 a6 a7 a8 → (∀ (b1 : A1) (b2 : A2) (b3 : A3) (b4 : A4) (b5 : A5) (b6 : A6) (b7 : A7) (b8 : A8) , I (c + 1) b1 b2 b3 b4 b5 b6 b7 b8 → Post (self b1 b2 b3 b4 b5 b6 b7 b8 (nI (c + 1)))) → Post (body self a1 a2 a3 a4 a5 a6 a7 a8 (nI c)))
    (hf : ∀ (self : A1 → A2 → A3 → A4 → A5 → A6 → A7 → A8 → Int32 → Option α) (a1 : A1) (a2 : A2) (a3 : A3) (a4 : A4) (a5 : A5) (a6 : A6) (a7 : A7) (a8 : A8) , I N a1 a2 a3 a4 a5 a6 a7 a8 → Post (body self a1 a2 a3 a4 a5 a6 a7 a8 (nI N))) : ∀ (n c : Nat) (a1 : A1) (a2 : A2) (a3 : A3) (a4 : A4) (a5 : A5) (a6 : A6) (a7 : A7) (a8 : A8) , c ≤ N → N < n + c → I c a1 a2 a3 a4 a5 a6 a7 a8 → Post (lq9 body n a1 a2 a3 a4 a5 a6 a7 a8 (nI c)) := by
  intro n
  induction n with
  | zero => intro c a1 a2 a3 a4 a5 a6 a7 a8 h1 h2 _; omega
  | succ n ih =>
    intro c a1 a2 a3 a4 a5 a6 a7 a8 h1 h2 hI
    rw [lq9_s]
    by_cases e : c = N
    · subst e
      exact hf _ _ _ _ _ _ _ _ _ hI
    · exact hs _ c _ _ _ _ _ _ _ _ (by omega) hI (fun b1 b2 b3 b4 b5 b6 b7 b8 hb => ih (c + 1) b1 b2 b3 b4 b5 b6 b7 b8 (by omega) (by omega) hb)
theorem fr9 {A1 A2 A3 A4 A5 A6 A7 A8 A9 α : Type} (body : (A1 → A2 → A3 → A4 → A5 → A6 → A7 → A8 → A9 → Int32 → Option α) → A1 → A2 → A3 → A4 → A5 → A6 → A7 → A8 → A9 → Int32 → Option α) (N : Nat) (I : Nat → A1 → A2 → A3 → A4 → A5 → A6 → A7 → A8 → A9 → Prop) (Post : Option α → Prop) (hN : N < 2 ^ 30)
    (hs : ∀ (self : A1 → A2 → A3 → A4 → A5 → A6 → A7 → A8 → A9 → Int32 → Option α) (c : Nat) (a1 : A1) (a2 : A2) (a3 : A3) (a4 : A4) (a5 : A5) (a6 : A6) (a7 : A7) (a8 : A8) (a9 : A9) , c < N → I c a1 a2 a3 a4 a5 a6 a7 a8 a9 → (∀ (b1 : A1) (b2 : A2) (b3 : A3) (b4 : A4) (b5 : A5) (b6 : A6) (b7 : A7) (b8 : A8) (b9 : A9) , I (c + 1) b1 b2 b3 b4 b5 b6 b7 b8 b9 → Post (self b1 b2 b3 b4 b5 b6 b7 b8 b9 (nI (c + 1)))) → Post (body self a1 a2 a3 a4 a5 a6 a7 a8 a9 (nI c)))
    (hf : ∀ (self : A1 → A2 → A3 → A4 → A5 → A6 → A7 → A8 → A9 → Int32 → Option α) (a1 : A1) (a2 : A2) (a3 : A3) (a4 : A4) (a5 : A5) (a6 : A6) (a7 : A7) (a8 : A8) (a9 : A9) , I N a1 a2 a3 a4 a5 a6 a7 a8 a9 → Post (body self a1 a2 a3 a4 a5 a6 a7 a8 a9 (nI N))) : ∀ (n c : Nat) (a1 : A1) (a2 : A2) (a3 : A3) (a4 : A4) (a5 : A5) (a6 : A6) (a7 : A7) (a8 : A8) (a9 : A9) , c ≤ N → N < n + c → I c a1 a2 a3 a4 a5 a6 a7 a8 a9 → Post (lq10 body n a1 a2 a3 a4 a5 a6 a7 a8 a9 (nI c)) := by
  intro n
  induction n with
  | zero => intro c a1 a2 a3 a4 a5 a6 a7 a8 a9 h1 h2 _; omega
  | succ n ih =>
    intro c a1 a2 a3 a4 a5 a6 a7 a8 a9 h1 h2 hI
    rw [lq10_s]
    by_cases e : c = N
    · subst e
      exact hf _ _ _ _ _ _ _ _ _ _ hI
    · exact hs _ c _ _ _ _ _ _ _ _ _ (by omega) hI (fun b1 b2 b3 b4 b5 b6 b7 b8 b9 hb => ih (c + 1) b1 b2 b3 b4 b5 b6 b7 b8 b9 (by omega) (by omega) hb)
theorem fr10 {A1 A2 A3 A4 A5 A6 A7 A8 A9 A10 α : Type} (body : (A1 → A2 → A3 → A4 → A5 → A6 → A7 → A8 → A9 → A10 → Int32 → Option α) → A1 → A2 → A3 → A4 → A5 → A6 → A7 → A8 → A9 → A10 → Int32 → Option α) (N : Nat) (I : Nat → A1 → A2 → A3 → A4 → A5 → A6 → A7 → A8 → A9 → A10 → Prop) (Post : Option α → Prop) (hN : N < 2 ^ 30)
    (hs : ∀ (self : A1 → A2 → A3 → A4 → A5 → A6 → A7 → A8 → A9 → A10 → Int32 → Option α) (c : Nat) (a1 : A1) (a2 : A2) (a3 : A3) (a4 : A4) (a5 : A5) (a6 : A6) (a7 : A7) (a8 : A8) (a9 : A9) (a10 : A10) , c < N → I c a1 a2 a3 a4 a5 a6 a7 a8 a9 a10 → (∀ (b1 : A1) (b2 : A2) (b3 : A3) (b4 : A4) (b5 : A5) (b6 : A6) (b7 : A7) (b8 : A8) (b9 : A9) (b10 : A10) , I (c + 1) b1 b2 b3 b4 b5 b6 b7 b8 b9 b10 → Post (self b1 b2 b3 b4 b5 b6 b7 b8 b9 b10 (nI (c + 1)))) → Post (body self a1 a2 a3 a4 a5 a6 a7 a8 a9 a10 (nI c)))
    (hf : ∀ (self : A1 → A2 → A3 → A4 → A5 → A6 → A7 → A8 → A9 → A10 → Int32 → Option α) (a1 : A1) (a2 : A2) (a3 : A3) (a4 : A4) (a5 : A5) (a6 : A6) (a7 : A7) (a8 : A8) (a9 : A9) (a10 : A10) , I N a1 a2 a3 a4 a5 a6 a7 a8 a9 a10 → Post (body self a1 a2 a3 a4 a5 a6 a7 a8 a9 a10 (nI N))) : ∀ (n c : Nat) (a1 : A1) (a2 : A2) (a3 : A3) (a4 : A4) (a5 : A5) (a6 : A6) (a7 : A7) (a8 : A8) (a9 : A9) (a10 : A10) , c ≤ N → N < n + c → I c a1 a2 a3 a4 a5 a6 a7 a8 a9 a10 → Post (lq11 body n a1 a2 a3 a4 a5 a6 a7 a8 a9 a10 (nI c)) := by
  intro n
  induction n with
  | zero => intro c a1 a2 a3 a4 a5 a6 a7 a8 a9 a10 h1 h2 _; omega
  | succ n ih =>
    intro c a1 a2 a3 a4 a5 a6 a7 a8 a9 a10 h1 h2 hI
    rw [lq11_s]
    by_cases e : c = N
    · subst e
      exact hf _ _ _ _ _ _ _ _ _ _ _ hI
    · exact hs _ c _ _ _ _ _ _ _ _ _ _ (by omega) hI (fun b1 b2 b3 b4 b5 b6 b7 b8 b9 b10 hb => ih (c + 1) b1 b2 b3 b4 b5 b6 b7 b8 b9 b10 (by omega) (by omega) hb)
theorem fr11 {A1 A2 A3 A4 A5 A6 A7 A8 A9 A10 A11 α : Type} (body : (A1 → A2 → A3 → A4 → A5 → A6 → A7 → A8 → A9 → A10 → A11 → Int32 → Option α) → A1 → A2 → A3 → A4 → A5 → A6 → A7 → A8 → A9 → A10 → A11 → Int32 → Option α) (N : Nat) (I : Nat → A1 → A2 → A3 → A4 → A5 → A6 → A7 → A8 → A9 → A10 → A11 → Prop) (Post : Option α → Prop) (hN : N < 2 ^ 30)
    (hs : ∀ (self : A1 → A2 → A3 → A4 → A5 → A6 → A7 → A8 → A9 → A10 → A11 → Int32 → Option α) (c : Nat) (a1 : A1) (a2 : A2) (a3 : A3) (a4 : A4) (a5 : A5) (a6 : A6) (a7 : A7) (a8 : A8) (a9 : A9) (a10 : A10) (a11 : A11) , c < N → I c a1 a2 a3 a4 a5 a6 a7 a8 a9 a10 a11 → (∀ (b1 : A1) (b2 : A2) (b3 : A3) (b4 : A4) (b5 : A5) (b6 : A6) (b7 : A7) (b8 : A8) (b9 : A9) (b10 : A10) (b11 : A11) , I (c + 1) b1 b2 b3 b4 b5 b6 b7 b8 b9 b10 b11 → Post (self b1 b2 b3 b4 b5 b6 b7 b8 b9 b10 b11 (nI (c + 1)))) → Post (body self a1 a2 a3 a4 a5 a6 a7 a8 a9 a10 a11 (nI c)))
    (hf : ∀ (self : A1 → A2 → A3 → A4 → A5 → A6 → A7 → A8 → A9 → A10 → A11 → Int32 → Option α) (a1 : A1) (a2 : A2) (a3 : A3) (a4 : A4) (a5 : A5) (a6 : A6) (a7 : A7) (a8 : A8) (a9 : A9) (a10 : A10) (a11 : A11) , I N a1 a2 a3 a4 a5 a6 a7 a8 a9 a10 a11 → Post (body self a1 a2 a3 a4 a5 a6 a7 a8 a9 a10 a11 (nI N))) : ∀ (n c : Nat) (a1 : A1) (a2 : A2) (a3 : A3) (a4 : A4) (a5 : A5) (a6 : A6) (a7 : A7) (a8 : A8) (a9 : A9) (a10 : A10) (a11 : A11) , c ≤ N → N < n + c → I c a1 a2 a3 a4 a5 a6 a7 a8 a9 a10 a11 → Post (lq12 body n a1 a2 a3 a4 a5 a6 a7 a8 a9 a10 a11 (nI c)) := by
  intro n
  induction n with
  | zero => intro c a1 a2 a3 a4 a5 a6 a7 a8 a9 a10 a11 h1 h2 _; omega
  | succ n ih =>
    intro c a1 a2 a3 a4 a5 a6 a7 a8 a9 a10 a11 h1 h2 hI
    rw [lq12_s]
    by_cases e : c = N
    · subst e
      exact hf _ _ _ _ _ _ _ _ _ _ _ _ hI
    · exact hs _ c _ _ _ _ _ _ _ _ _ _ _ (by omega) hI (fun b1 b2 b3 b4 b5 b6 b7 b8 b9 b10 b11 hb => ih (c + 1) b1 b2 b3 b4 b5 b6 b7 b8 b9 b10 b11 (by omega) (by omega) hb)
theorem fr12 {A1 A2 A3 A4 A5 A6 A7 A8 A9 A10 A11 A12 α : Type} (body : (A1 → A2 → A3 → A4 → A5 → A6 → A7 → A8 → A9 → A10 → A11 → A12 → Int32 → Option α) → A1 → A2 → A3 → A4 → A5 → A6 → A7 → A8 → A9 → A10 → A11 → A12 → Int32 → Option α) (N : Nat) (I : Nat → A1 → A2 → A3 → A4 → A5 → A6 → A7 → A8 → A9 → A10 → A11 → A12 → Prop) (Post : Option α → Prop) (hN : N < 2 ^ 30)
    (hs : ∀ (self : A1 → A2 → A3 → A4 → A5 → A6 → A7 → A8 → A9 → A10 → A11 → A12 → Int32 → Option α) (c : Nat) (a1 : A1) (a2 : A2) (a3 : A3) (a4 : A4) (a5 : A5) (a6 : A6) (a7 : A7) (a8 : A8) (a9 : A9) (a10 : A10) (a11 : A11) (a12 : A12) , c < N → I c a1 a2 a3 a4 a5 a6 a7 a8 a9 a10 a11 a12 → (∀ (b1 : A1) (b2 : A2) (b3 : A3) (b4 : A4) (b5 : A5) (b6 : A6) (b7 : A7) (b8 : A8) (b9 : A9) (b10 : A10) (b11 : A11) (b12 : A12) , I (c + 1) b1 b2 b3 b4 b5 b6 b7 b8 b9 b10 b11 b12 → Post (self b1 b2 b3 b4 b5 b6 b7 b8 b9 b10 b11 b12 (nI (c + 1)))) → Post (body self a1 a2 a3 a4 a5 a6 a7 a8 a9 a10 a11 a12 (nI c)))
    (hf : ∀ (self : A1 → A2 → A3 → A4 → A5 → A6 → A7 → A8 → A9 → A10 → A11 → A12 → Int32 → Option α) (a1 : A1) (a2 : A2) (a3 : A3) (a4 : A4) (a5 : A5) (a6 : A6) (a7 : A7) (a8 : A8) (a9 : A9) (a10 : A10) (a11 : A11) (a12 : A12) , I N a1 a2 a3 a4 a5 a6 a7 a8 a9 a10 a11 a12 → Post (body self a1 a2 a3 a4 a5 a6 a7 a8 a9 a10 a11 a12 (nI N))) : ∀ (n c : Nat) (a1 : A1) (a2 : A2) (a3 : A3) (a4 : A4) (a5 : A5) (a6 : A6) (a7 : A7) (a8 : A8) (a9 : A9) (a10 : A10) (a11 : A11) (a12 : A12) , c ≤ N → N < n + c → I c a1 a2 a3 a4 a5 a6 a7 a8 a9 a10 a11 a12 → Post (lq13 body n a1 a2 a3 a4 a5 a6 a7 a8 a9 a10 a11 a12 (nI c)) := by
  intro n
  induction n with
  | zero => intro c a1 a2 a3 a4 a5 a6 a7 a8 a9 a10 a11 a12 h1 h2 _; omega
  | succ n ih =>
    intro c a1 a2 a3 a4 a5 a6 a7 a8 a9 a10 a11 a12 h1 h2 hI
    rw [lq13_s]
    by_cases e : c = N
    · subst e
      exact hf _ _ _ _ _ _ _ _ _ _ _ _ _ hI
    · exact hs _ c _ _ _ _ _ _ _ _ _ _ _ _ (by omega) hI (fun b1 b2 b3 b4 b5 b6 b7 b8 b9 b10 b11 b12 hb => ih (c + 1) b1 b2 b3 b4 b5 b6 b7 b8 b9 b10 b11 b12 (by omega) (by omega) hb)
theorem fr13 {A1 A2 A3 A4 A5 A6 A7 A8 A9 A10 A11 A12 A13 α : Type} (body : (A1 → A2 → A3 → A4 → A5 → A6 → A7 → A8 → A9 → A10 → A11 → A12 → A13 → Int32 → Option α) → A1 → A2 → A3 → A4 → A5 → A6 → A7 → A8 → A9 → A10 → A11 → A12 → A13 → Int32 → Option α) (N : Nat) (I : Nat → A1 → A2 → A3 → A4 → A5 → A6 → A7 → A8 → A9 → A10 → A11 → A12 → A13 → Prop) (Post : Option α → Prop) (hN : N < 2 ^ 30)
    (hs : ∀ (self : A1 → A2 → A3 → A4 → A5 → A6 → A7 → A8 → A9 → A10 → A11 → A12 → A13 → Int32 → Option α) (c : Nat) (a1 : A1) (a2 : A2) (a3 : A3) (a4 : A4) (a5 : A5) (a6 : A6) (a7 : A7) (a8 : A8) (a9 : A9) (a10 : A10) (a11 : A11) (a12 : A12) (a13 : A13) , c < N → I c a1 a2 a3 a4 a5 a6 a7 a8 a9 a10 a11 a12 a13 → (∀ (b1 : A1) (b2 : A2) (b3 : A3) (b4 : A4) (b5 : A5) (b6 : A6) (b7 : A7) (b8 : A8) (b9 : A9) (b10 : A10) (b11 : A11) (b12 : A12) (b13 : A13) , I (c + 1) b1 b2 b3 b4 b5 b6 b7 b8 b9 b10 b11 b12 b13 → Post (self b1 b2 b3 b4 b5 b6 b7 b8 b9 b10 b11 b12 b13 (nI (c + 1)))) → Post (body self a1 a2 a3 a4 a5 a6 a7 a8 a9 a10 a11 a12 a13 (nI c)))
    (hf : ∀ (self : A1 → A2 → A3 → A4 → A5 → A6 → A7 → A8 → A9 → A10 → A11 → A12 → A13 → Int32 → Option α) (a1 : A1) (a2 : A2) (a3 : A3) (a4 : A4) (a5 : A5) (a6 : A6) (a7 : A7) (a8 : A8) (a9 : A9) (a10 : A10) (a11 : A11) (a12 : A12) (a13 : A13) , I N a1 a2 a3 a4 a5 a6 a7 a8 a9 a10 a11 a12 a13 → Post (body self a1 a2 a3 a4 a5 a6 a7 a8 a9 a10 a11 a12 a13 (nI N))) : ∀ (n c : Nat) (a1 : A1) (a2 : A2) (a3 : A3) (a4 : A4) (a5 : A5) (a6 : A6) (a7 : A7) (a8 : A8) (a9 : A9) (a10 : A10) (a11 : A11) (a12 : A12) (a13 : A13) , c ≤ N → N < n + c → I c a1 a2 a3 a4 a5 a6 a7 a8 a9 a10 a11 a12 a13 → Post (lq14 body n a1 a2 a3 a4 a5 a6 a7 a8 a9 a10 a11 a12 a13 (nI c)) := by
  intro n
  induction n with
  | zero => intro c a1 a2 a3 a4 a5 a6 a7 a8 a9 a10 a11 a12 a13 h1 h2 _; omega
  | succ n ih =>
    intro c a1 a2 a3 a4 a5 a6 a7 a8 a9 a10 a11 a12 a13 h1 h2 hI
    rw [lq14_s]
    by_cases e : c = N
    · subst e
      exact hf _ _ _ _ _ _ _ _ _ _ _ _ _ _ hI
    · exact hs _ c _ _ _ _ _ _ _ _ _ _ _ _ _ (by omega) hI (fun b1 b2 b3 b4 b5 b6 b7 b8 b9 b10 b11 b12 b13 hb => ih (c + 1) b1 b2 b3 b4 b5 b6 b7 b8 b9 b10 b11 b12 b13 (by omega) (by omega) hb)
theorem fr14 {A1 A2 A3 A4 A5 A6 A7 A8 A9 A10 A11 A12 A13 A14 α : Type} (body : (A1 → A2 → A3 → A4 → A5 → A6 → A7 → A8 → A9 → A10 → A11 → A12 → A13 → A14 → Int32 → Option α) → A1 → A2 → A3 → A4 → A5 → A6 → A7 → A8 → A9 → A10 → A11 → A12 → A13 → A14 → Int32 → Option α) (N : Nat) (I : Nat → A1 → A2 → A3 → A4 → A5 → A6 → A7 → A8 → A9 → A10 → A11 → A12 → A13 → A14 → Prop) (Post : Option α → Prop) (hN : N < 2 ^ 30)
    (hs : ∀ (self : A1 → A2 → A3 → A4 → A5 → A6 → A7 → A8 → A9 → A10 → A11 → A12 → A13 → A14 → Int32 → Option α) (c : Nat) (a1 : A1) (a2 : A2) (a3 : A3) (a4 : A4) (a5 : A5) (a6 : A6) (a7 : A7) (a8 : A8) (a9 : A9) (a10 : A10) (a11 : A11) (a12 : A12) (a13 : A13) (a14 : A14) , c < N → I c a1 a2 a3 a4 a5 a6 a7 a8 a9 a10 a11 a12 a13 a14 → (∀ (b1 : A1) (b2 : A2) (b3 : A3) (b4 : A4) (b5 : A5) (b6 : A6) (b7 : A7) (b8 : A8) (b9 : A9) (b10 : A10) (b11 : A11) (b12 : A12) (b13 : A13) (b14 : A14) , I (c + 1) b1 b2 b3 b4 b5 b6 b7 b8 b9 b10 b11 b12 b13 b14 → Post (self b1 b2 b3 b4 b5 b6 b7 b8 b9 b10 b11 b12 b13 b14 (nI (c + 1)))) → Post (body self a1 a2 a3 a4 a5 a6 a7 a8 a9 a10 a11 a12 a13 a14 (nI c)))
    (hf : ∀ (self : A1 → A2 → A3 → A4 → A5 → A6 → A7 → A8 → A9 → A10 → A11 → A12 → A13 → A14 → Int32 → Option α) (a1 : A1) (a2 : A2) (a3 : A3) (a4 : A4) (a5 : A5) (a6 : A6) (a7 : A7) (a8 : A8) (a9 : A9) (a10 : A10) (a11 : A11) (a12 : A12) (a13 : A13) (a14 : A14) , I N a1 a2 a3 a4 a5 a6 a7 a8 a9 a10 a11 a12 a13 a14 → Post (body self a1 a2 a3 a4 a5 a6 a7 a8 a9 a10 a11 a12 a13 a14 (nI N))) : ∀ (n c : Nat) (a1 : A1) (a2 : A2) (a3 : A3) (a4 : A4) (a5 : A5) (a6 : A6) (a7 : A7) (a8 : A8) (a9 : A9) (a10 : A10) (a11 : A11) (a12 : A12) (a13 : A13) (a14 : A14) , c ≤ N → N < n + c → I c a1 a2 a3 a4 a5 a6 a7 a8 a9 a10 a11 a12 a13 a14 → Post (lq15 body n a1 a2 a3 a4 a5 a6 a7 a8 a9 a10 a11 a12 a13 a14 (nI c)) := by
  intro n
  induction n with
  | zero => intro c a1 a2 a3 a4 a5 a6 a7 a8 a9 a10 a11 a12 a13 a14 h1 h2 _; omega
  | succ n ih =>
    intro c a1 a2 a3 a4 a5 a6 a7 a8 a9 a10 a11 a12 a13 a14 h1 h2 hI
    rw [lq15_s]
    by_cases e : c = N
    · subst e
      exact hf _ _ _ _ _ _ _ _ _ _ _ _ _ _ _ hI
    · exact hs _ c _ _ _ _ _ _ _ _ _ _ _ _ _ _ (by omega) hI (fun b1 b2 b3 b4 b5 b6 b7 b8 b9 b10 b11 b12 b13 b14 hb => ih (c + 1) b1 b2 b3 b4 b5 b6 b7 b8 b9 b10 b11 b12 b13 b14 (by omega) (by omega) hb)
theorem fr15 {A1 A2 A3 A4 A5 A6 A7 A8 A9 A10 A11 A12 A13 A14 A15 α : Type} (body : (A1 → A2 → A3 → A4 → A5 → A6 → A7 → A8 → A9 → A10 → A11 → A12 → A13 → A14 → A15 → Int32 → Option α) → A1 → A2 → A3 → A4 → A5 → A6 → A7 → A8 → A9 → A10 → A11 → A12 → A13 → A14 → A15 → Int32 → Option α) (N : Nat) (I : Nat → A1 → A2 → A3 → A4 → A5 → A6 → A7 → A8 → A9 → A10 → A11 → A12 → A13 → A14 → A15 → Prop) (Post : Option α → Prop) (hN : N < 2 ^ 30)
    (hs : ∀ (self : A1 → A2 → A3 → A4 → A5 → A6 → A7 → A8 → A9 → A10 → A11 → A12 → A13 → A14 → A15 → Int32 → Option α) (c : Nat) (a1 : A1) (a2 : A2) (a3 : A3) (a4 : A4) (a5 : A5) (a6 : A6) (a7 : A7) (a8 : A8) (a9 : A9) (a10 : A10) (a11 : A11) (a12 : A12) (a13 : A13) (a14 : A14) (a15 : A15) , c < N → I c a1 a2 a3 a4 a5 a6 a7 a8 a9 a10 a11 a12 a13 a14 a15 → (∀ (b1 : A1) (b2 : A2) (b3 : A3) (b4 : A4) (b5 : A5) (b6 : A6) (b7 : A7) (b8 : A8) (b9 : A9) (b10 : A10) (b11 : A11) (b12 : A12) (b13 : A13) (b14 : A14) (b15 : A15) , I (c + 1) b1 b2 b3 b4 b5 b6 b7 b8 b9 b10 b11 b12 b13 b14 b15 → Post (self b1 b2 b3 b4 b5 b6 b7 b8 b9 b10 b11 b12 b13 b14 b15 (nI (c + 1)))) → Post (body self a1 a2 a3 a4 a5 a6 a7 a8 a9 a10 a11 a12 a13 a14 a15 (nI c)))
    (hf : ∀ (self : A1 → A2 → A3 → A4 → A5 → A6 → A7 → A8 → A9 → A10 → A11 → A12 → A13 → A14 → A15 → Int32 → Option α) (a1 : A1) (a2 : A2) (a3 : A3) (a4 : A4) (a5 : A5) (a6 : A6) (a7 : A7) (a8 : A8) (a9 : A9) (a10 : A10) (a11 : A11) (a12 : A12) (a13 : A13) (a14 : A14) (a15 : A15) , I N a1 a2 a3 a4 a5 a6 a7 a8 a9 a10 a11 a12 a13 a14 a15 → Post (body self a1 a2 a3 a4 a5 a6 a7 a8 a9 a10 a11 a12 a13 a14 a15 (nI N))) : ∀ (n c : Nat) (a1 : A1) (a2 : A2) (a3 : A3) (a4 : A4) (a5 : A5) (a6 : A6) (a7 : A7) (a8 : A8) (a9 : A9) (a10 : A10) (a11 : A11) (a12 : A12) (a13 : A13) (a14 : A14) (a15 : A15) , c ≤ N → N < n + c → I c a1 a2 a3 a4 a5 a6 a7 a8 a9 a10 a11 a12 a13 a14 a15 → Post (lq16 body n a1 a2 a3 a4 a5 a6 a7 a8 a9 a10 a11 a12 a13 a14 a15 (nI c)) := by
  intro n
  induction n with
  | zero => intro c a1 a2 a3 a4 a5 a6 a7 a8 a9 a10 a11 a12 a13 a14 a15 h1 h2 _; omega
  | succ n ih =>
    intro c a1 a2 a3 a4 a5 a6 a7 a8 a9 a10 a11 a12 a13 a14 a15 h1 h2 hI
    rw [lq16_s]
    by_cases e : c = N
    · subst e
      exact hf _ _ _ _ _ _ _ _ _ _ _ _ _ _ _ _ hI
    · exact hs _ c _ _ _ _ _ _ _ _ _ _ _ _ _ _ _ (by omega) hI (fun b1 b2 b3 b4 b5 b6 b7 b8 b9 b10 b11 b12 b13 b14 b15 hb => ih (c + 1) b1 b2 b3 b4 b5 b6 b7 b8 b9 b10 b11 b12 b13 b14 b15 (by omega) (by omega) hb)
theorem fr16 {A1 A2 A3 A4 A5 A6 A7 A8 A9 A10 A11 A12 A13 A14 A15 A16 α : Type} (body : (A1 → A2 → A3 → A4 → A5 → A6 → A7 → A8 → A9 → A10 → A11 → A12 → A13 → A14 → A15 → A16 → Int32 → Option α) → A1 → A2 → A3 → A4 → A5 → A6 → A7 → A8 → A9 → A10 → A11 → A12 → A13 → A14 → A15 → A16 → Int32 → Option α) (N : Nat) (I : Nat → A1 → A2 → A3 → A4 → A5 → A6 → A7 → A8 → A9 → A10 → A11 → A12 → A13 → A14 → A15 → A16 → Prop) (Post : Option α → Prop) (hN : N < 2 ^ 30)
    (hs : ∀ (self : A1 → A2 → A3 → A4 → A5 → A6 → A7 → A8 → A9 → A10 → A11 → A12 → A13 → A14 → A15 → A16 → Int32 → Option α) (c : Nat) (a1 : A1) (a2 : A2) (a3 : A3) (a4 : A4) (a5 : A5) (a6 : A6) (a7 : A7) (a8 : A8) (a9 : A9) (a10 : A10) (a11 : A11) (a12 : A12) (a13 : A13) (a14 : A14) (a15 : A15) (a16 : A16) , c < N → I c a1 a2 a3 a4 a5 a6 a7 a8 a9 a10 a11 a12 a13 a14 a15 a16 → (∀ (b1 : A1) (b2 : A2) (b3 : A3) (b4 : A4) (b5 : A5) (b6 : A6) (b7 : A7) (b8 : A8) (b9 : A9) (b10 : A10) (b11 : A11) (b12 : A12) (b13 : A13) (b14 : A14) (b15 : A15) (b16 : A16) , I (c + 1) b1 b2 b3 b4 b5 b6 b7 b8 b9 b10 b11 b12 b13 b14 b15 b16 → Post (self b1 b2 b3 b4 b5 b6 b7 b8 b9 b10 b11 b12 b13 b14 b15 b16 (nI (c + 1)))) → Post (body self a1 a2 a3 a4 a5 a6 a7 a8 a9 a10 a11 a12 a13 a14 a15 a16 (nI c)))
    (hf : ∀ (self : A1 → A2 → A3 → A4 → A5 → A6 → A7 → A8 → A9 → A10 → A11 → A12 → A13 → A14 → A15 → A16 → Int32 → Option α) (a1 : A1) (a2 : A2) (a3 : A3) (a4 : A4) (a5 : A5) (a6 : A6) (a7 : A7) (a8 : A8) (a9 : A9) (a10 : A10) (a11 : A11) (a12 : A12) (a13 : A13) (a14 : A14) (a15 : A15) (a16 : A16) , I N a1 a2 a3 a4 a5 a6 a7 a8 a9 a10 a11 a12 a13 a14 a15 a16 → Post (body self a1 a2 a3 a4 a5 a6 a7 a8 a9 a10 a11 a12 a13 a14 a15 a16 (nI N))) : ∀ (n c : Nat) (a1 : A1) (a2 : A2) (a3 : A3) (a4 : A4) (a5 : A5) (a6 : A6) (a7 : A7) (a8 : A8) (a9 : A9) (a10 : A10) (a11 : A11) (a12 : A12) (a13 : A13) (a14 : A14) (a15 : A15) (a16 : A16) , c ≤ N → N < n + c → I c a1 a2 a3 a4 a5 a6 a7 a8 a9 a10 a11 a12 a13 a14 a15 a16 → Post (lq17 body n a1 a2 a3 a4 a5 a6 a7 a8 a9 a10 a11 a12 a13 a14 a15 a16 (nI c)) := by
  intro n
  induction n with
  | zero => intro c a1 a2 a3 a4 a5 a6 a7 a8 a9 a10 a11 a12 a13 a14 a15 a16 h1 h2 _; omega
  | succ n ih =>
    intro c a1 a2 a3 a4 a5 a6 a7 a8 a9 a10 a11 a12 a13 a14 a15 a16 h1 h2 hI
    rw [lq17_s]
    by_cases e : c = N
    · subst e
      exact hf _ _ _ _ _ _ _ _ _ _ _ _ _ _ _ _ _ hI
    · exact hs _ c _ _ _ _ _ _ _ _ _ _ _ _ _ _ _ _ (by omega) hI (fun b1 b2 b3 b4 b5 b6 b7 b8 b9 b10 b11 b12 b13 b14 b15 b16 hb => ih (c + 1) b1 b2 b3 b4 b5 b6 b7 b8 b9 b10 b11 b12 b13 b14 b15 b16 (by omega) (by omega) hb)
theorem fr17 {A1 A2 A3 A4 A5 A6 A7 A8 A9 A10 A11 A12 A13 A14 A15 A16 A17 α : Type} (body : (A1 → A2 → A3 → A4 → A5 → A6 → A7 → A8 → A9 → A10 → A11 → A12 → A13 → A14 → A15 → A16 → A17 → Int32 → Option α) → A1 → A2 → A3 → A4 → A5 → A6 → A7 → A8 → A9 → A10 → A11 → A12 → A13 → A14 → A15 → A16 → A17 → Int32 → Option α) (N : Nat) (I : Nat → A1 → A2 → A3 → A4 → A5 → A6 → A7 → A8 → A9 → A10 → A11 → A12 → A13 → A14 → A15 → A16 → A17 → Prop) (Post : Option α → Prop) (hN : N < 2 ^ 30)
    (hs : ∀ (self : A1 → A2 → A3 → A4 → A5 → A6 → A7 → A8 → A9 → A10 → A11 → A12 → A13 → A14 → A15 → A16 → A17 → Int32 → Option α) (c : Nat) (a1 : A1) (a2 : A2) (a3 : A3) (a4 : A4) (a5 : A5) (a6 : A6) (a7 : A7) (a8 : A8) (a9 : A9) (a10 : A10) (a11 : A11) (a12 : A12) (a13 : A13) (a14 : A14) (a15 : A15) (a16 : A16) (a17 : A17) , c < N → I c a1 a2 a3 a4 a5 a6 a7 a8 a9 a10 a11 a12 a13 a14 a15 a16 a17 → (∀ (b1 : A1) (b2 : A2) (b3 : A3) (b4 : A4) (b5 : A5) (b6 : A6) (b7 : A7) (b8 : A8) (b9 : A9) (b10 : A10) (b11 : A11) (b12 : A12) (b13 : A13) (b14 : A14) (b15 : A15) (b16 : A16) (b17 : A17) , I (c + 1) b1 b2 b3 b4 b5 b6 b7 b8 b9 b10 b11 b12 b13 b14 b15 b16 b17 → Post (self b1 b2 b3 b4 b5 b6 b7 b8 b9 b10 b11 b12 b13 b14 b15 b16 b17 (nI (c + 1)))) → Post (body self a1 a2 a3 a4 a5 a6 a7 a8 a9 a10 a11 a12 a13 a14 a15 a16 a17 (nI c)))
    (hf : ∀ (self : A1 → A2 → A3 → A4 → A5 → A6 → A7 → A8 → A9 → A10 → A11 → A12 → A13 → A14 → A15 → A16 → A17 → Int32 → Option α) (a1 : A1) (a2 : A2) (a3 : A3) (a4 : A4) (a5 : A5) (a6 : A6) (a7 : A7) (a8 : A8) (a9 : A9) (a10 : A10) (a11 : A11) (a12 : A12) (a13 : A13) (a14 : A14) (a15 : A15) (a16 : A16) (a17 : A17) , I N a1 a2 a3 a4 a5 a6 a7 a8 a9 a10 a11 a12 a13 a14 a15 a16 a17 → Post (body self a1 a2 a3 a4 a5 a6 a7 a8 a9 a10 a11 a12 a13 a14 a15 a16 a17 (nI N))) : ∀ (n c : Nat) (a1 : A1) (a2 : A2) (a3 : A3) (a4 : A4) (a5 : A5) (a6 : A6) (a7 : A7) (a8 : A8) (a9 : A9) (a10 : A10) (a11 : A11) (a12 : A12) (a13 : A13) (a14 : A14) (a15 : A15) (a16 : A16) (a17 : A17) , c ≤ N → N < n + c → I c a1 a2 a3 a4 a5 a6 a7 a8 a9 a10 a11 a12 a13 a14 a15 a16 a17 → Post (lq18 body n a1 a2 a3 a4 a5 a6 a7 a8 a9 a10 a11 a12 a13 a14 a15 a16 a17 (nI c)) := by
  intro n
  induction n with
  | zero => intro c a1 a2 a3 a4 a5 a6 a7 a8 a9 a10 a11 a12 a13 a14 a15 a16 a17 h1 h2 _; omega
  | succ n ih =>
    intro c a1 a2 a3 a4 a5 a6 a7 a8 a9 a10 a11 a12 a13 a14 a15 a16 a17 h1 h2 hI
    rw [lq18_s]
    by_cases e : c = N
    · subst e
      exact hf _ _ _ _ _ _ _ _ _ _ _ _ _ _ _ _ _ _ hI
    · exact hs _ c _ _ _ _ _ _ _ _ _ _ _ _ _ _ _ _ _ (by omega) hI (fun b1 b2 b3 b4 b5 b6 b7 b8 b9 b10 b11 b12 b13 b14 b15 b16 b17 hb => ih (c + 1) b1 b2 b3 b4 b5 b6 b7 b8 b9 b10 b11 b12 b13 b14 b15 b16 b17 (by omega) (by omega) hb)
theorem fr18 {A1 A2 A3 A4 A5 A6 A7 A8 A9 A10 A11 A12 A13 A14 A15 A16 A17 A18 α : Type} (body : (A1 → A2 → A3 → A4 → A5 → A6 → A7 → A8 → A9 → A10 → A11 → A12 → A13 → A14 → A15 → A16 → A17 → A18 → Int32 → Option α) → A1 → A2 → A3 → A4 → A5 → A6 → A7 → A8 → A9 → A10 → A11 → A12 → A13 → A14 → A15 → A16 → A17 → A18 → Int32 → Option α) (N : Nat) (I : Nat → A1 → A2 → A3 → A4 → A5 → A6 → A7 → A8 → A9 → A10 → A11 → A12 → A13 → A14 → A15 → A16 → A17 → A18 → Prop) (Post : Option α → Prop) (hN : N < 2 ^ 30)
    (hs : ∀ (self : A1 → A2 → A3 → A4 → A5 → A6 → A7 → A8 → A9 → A10 → A11 → A12 → A13 → A14 → A15 → A16 → A17 → A18 → Int32 → Option α) (c : Nat) (a1 : A1) (a2 : A2) (a3 : A3) (a4 : A4) (a5 : A5) (a6 : A6) (a7 : A7) (a8 : A8) (a9 : A9) (a10 : A10) (a11 : A11) (a12 : A12) (a13 : A13) (a14 : A14) (a15 : A15) (a16 : A16) (a17 : A17) (a18 : A18) , c < N → I c a1 a2 a3 a4 a5 a6 a7 a8 a9 a10 a11 a12 a13 a14 a15 a16 a17 a18 → (∀ (b1 : A1) (b2 : A2) (b3 : A3) (b4 : A4) (b5 : A5) (b6 : A6) (b7 : A7) (b8 : A8) (b9 : A9) (b10 : A10) (b11 : A11) (b12 : A12) (b13 : A13) (b14 : A14) (b15 : A15) (b16 : A16) (b17 : A17) (b18 : A18) , I (c + 1) b1 b2 b3 b4 b5 b6 b7 b8 b9 b10 b11 b12 b13 b14 b15 b16 b17 b18 → Post (self b1 b2 b3 b4 b5 b6 b7 b8 b9 b10 b11 b12 b13 b14 b15 b16 b17 b18 (nI (c + 1)))) → Post (body self a1 a2 a3 a4 a5 a6 a7 a8 a9 a10 a11 a12 a13 a14 a15 a16 a17 a18 (nI c)))
    (hf : ∀ (self : A1 → A2 → A3 → A4 → A5 → A6 → A7 → A8 → A9 → A10 → A11 → A12 → A13 → A14 → A15 → A16 → A17 → A18 → Int32 → Option α) (a1 : A1) (a2 : A2) (a3 : A3) (a4 : A4) (a5 : A5) (a6 : A6) (a7 : A7) (a8 : A8) (a9 : A9) (a10 : A10) (a11 : A11) (a12 : A12) (a13 : A13) (a14 : A14) (a15 : A15) (a16 : A16) (a17 : A17) (a18 : A18) , I N a1 a2 a3 a4 a5 a6 a7 a8 a9 a10 a11 a12 a13 a14 a15 a16 a17 a18 → Post (body self a1 a2 a3 a4 a5 a6 a7 a8 a9 a10 a11 a12 a13 a14 a15 a16 a17 a18 (nI N))) : ∀ (n c : Nat) (a1 : A1) (a2 : A2) (a3 : A3) (a4 : A4) (a5 : A5) (a6 : A6) (a7 : A7) (a8 : A8) (a9 : A9) (a10 : A10) (a11 : A11) (a12 : A12) (a13 : A13) (a14 : A14) (a15 : A15) (a16 : A16) (a17 : A17) (a18 : A18) , c ≤ N → N < n + c → I c a1 a2 a3 a4 a5 a6 a7 a8 a9 a10 a11 a12 a13 a14 a15 a16 a17 a18 → Post (lq19 body n a1 a2 a3 a4 a5 a6 a7 a8 a9 a10 a11 a12 a13 a14 a15 a16 a17 a18 (nI c)) := by
  intro n
  induction n with
  | zero => intro c a1 a2 a3 a4 a5 a6 a7 a8 a9 a10 a11 a12 a13 a14 a15 a16 a17 a18 h1 h2 _; omega
  | succ n ih =>
    intro c a1 a2 a3 a4 a5 a6 a7 a8 a9 a10 a11 a12 a13 a14 a15 a16 a17 a18 h1 h2 hI
    rw [lq19_s]
    by_cases e : c = N
    · subst e
      exact hf _ _ _ _ _ _ _ _ _ _ _ _ _ _ _ _ _ _ _ hI
    · exact hs _ c _ _ _ _ _ _ _ _ _ _ _ _ _ _ _ _ _ _ (by omega) hI (fun b1 b2 b3 b4 b5 b6 b7 b8 b9 b10 b11 b12 b13 b14 b15 b16 b17 b18 hb => ih (c + 1) b1 b2 b3 b4 b5 b6 b7 b8 b9 b10 b11 b12 b13 b14 b15 b16 b17 b18 (by omega) (by omega) hb)
theorem fr19 {A1 A2 A3 A4 A5 A6 A7 A8 A9 A10 A11 A12 A13 A14 A15 A16 A17 A18 A19 α : Type} (body : (A1 → A2 → A3 → A4 → A5 → A6 → A7 → A8 → A9 → A10 → A11 → A12 → A13 → A14 → A15 → A16 → A17 → A18 → A19 → Int32 → Option α) → A1 → A2 → A3 → A4 → A5 → A6 → A7 → A8 → A9 → A10 → A11 → A12 → A13 → A14 → A15 → A16 → A17 → A18 → A19 → Int32 → Option α) (N : Nat) (I : Nat → A1 → A2 → A3 → A4 → A5 → A6 → A7 → A8 → A9 → A10 → A11 → A12 → A13 → A14 → A15 → A16 → A17 → A18 → A19 → Prop) (Post : Option α → Prop) (hN : N < 2 ^ 30)
    (hs : ∀ (self : A1 → A2 → A3 → A4 → A5 → A6 → A7 → A8 → A9 → A10 → A11 → A12 → A13 → A14 → A15 → A16 → A17 → A18 → A19 → Int32 → Option α) (c : Nat) (a1 : A1) (a2 : A2) (a3 : A3) (a4 : A4) (a5 : A5) (a6 : A6) (a7 : A7) (a8 : A8) (a9 : A9) (a10 : A10) (a11 : A11) (a12 : A12) (a13 : A13) (a14 : A14) (a15 : A15) (a16 : A16) (a17 : A17) (a18 : A18) (a19 : A19) , c < N → I c a1 a2 a3 a4 a5 a6 a7 a8 a9 a10 a11 a12 a13 a14 a15 a16 a17 a18 a19 → (∀ (b1 : A1) (b2 : A2) (b3 : A3) (b4 : A4) (b5 : A5) (b6 : A6) (b7 : A7) (b8 : A8) (b9 : A9) (b10 : A10) (b11 : A11) (b12 : A12) (b13 : A13) (b14 : A14) (b15 : A15) (b16 : A16) (b17 : A17) (b18 : A18) (b19 : A19) , I (c + 1) b1 b2 b3 b4 b5 b6 b7 b8 b9 b10 b11 b12 b13 b14 b15 b16 b17 b18 b19 → Post (self b1 b2 b3 b4 b5 b6 b7 b8 b9 b10 b11 b12 b13 b14 b15 b16 b17 b18 b19 (nI (c + 1)))) → Post (body self a1 a2 a3 a4 a5 a6 a7 a8 a9 a10 a11 a12 a13 a14 a15 a16 a17 a18 a19 (nI c)))
    (hf : ∀ (self : A1 → A2 → A3 → A4 → A5 → A6 → A7 → A8 → A9 → A10 → A11 → A12 → A13 → A14 → A15 → A16 → A17 → A18 → A19 → Int32 → Option α) (a1 : A1) (a2 : A2) (a3 : A3) (a4 : A4) (a5 : A5) (a6 : A6) (a7 : A7) (a8 : A8) (a9 : A9) (a10 : A10) (a11 : A11) (a12 : A12) (a13 : A13) (a14 : A14) (a15 : A15) (a16 : A16) (a17 : A17) (a18 : A18) (a19 : A19) , I N a1 a2 a3 a4 a5 a6 a7 a8 a9 a10 a11 a12 a13 a14 a15 a16 a17 a18 a19 → Post (body self a1 a2 a3 a4 a5 a6 a7 a8 a9 a10 a11 a12 a13 a14 a15 a16 a17 a18 a19 (nI N))) : ∀ (n c : Nat) (a1 : A1) (a2 : A2) (a3 : A3) (a4 : A4) (a5 : A5) (a6 : A6) (a7 : A7) (a8 : A8) (a9 : A9) (a10 : A10) (a11 : A11) (a12 : A12) (a13 : A13) (a14 : A14) (a15 : A15) (a16 : A16) (a17 : A17) (a18 : A18) (a19 : A19) , c ≤ N → N < n + c → I c a1 a2 a3 a4 a5 a6 a7 a8 a9 a10 a11 a12 a13 a14 a15 a16 a17 a18 a19 → Post (lq20 body n a1 a2 a3 a4 a5 a6 a7 a8 a9 a10 a11 a12 a13 a14 a15 a16 a17 a18 a19 (nI c)) := by
  intro n
  induction n with
  | zero => intro c a1 a2 a3 a4 a5 a6 a7 a8 a9 a10 a11 a12 a13 a14 a15 a16 a17 a18 a19 h1 h2 _; omega
  | succ n ih =>
    intro c a1 a2 a3 a4 a5 a6 a7 a8 a9 a10 a11 a12 a13 a14 a15 a16 a17 a18 a19 h1 h2 hI
    rw [lq20_s]
    by_cases e : c = N
    · subst e
      exact hf _ _ _ _ _ _ _ _ _ _ _ _ _ _ _ _ _ _ _ _ hI
    · exact hs _ c _ _ _ _ _ _ _ _ _ _ _ _ _ _ _ _ _ _ _ (by omega) hI (fun b1 b2 b3 b4 b5 b6 b7 b8 b9 b10 b11 b12 b13 b14 b15 b16 b17 b18 b19 hb => ih (c + 1) b1 b2 b3 b4 b5 b6 b7 b8 b9 b10 b11 b12 b13 b14 b15 b16 b17 b18 b19 (by omega) (by omega) hb)
theorem fr20 {A1 A2 A3 A4 A5 A6 A7 A8 A9 A10 A11 A12 A13 A14 A15 A16 A17 A18 A19 A20 α : Type} (body : (A1 → A2 → A3 → A4 → A5 → A6 → A7 → A8 → A9 → A10 → A11 → A12 → A13 → A14 → A15 → A16 → A17 → A18 → A19 → A20 → Int32 → Option α) → A1 → A2 → A3 → A4 → A5 → A6 → A7 → A8 → A9 → A10 → A11 → A12 → A13 → A14 → A15 → A16 → A17 → A18 → A19 → A20 → Int32 → Option α) (N : Nat) (I : Nat → A1 → A2 → A3 → A4 → A5 → A6 → A7 → A8 → A9 → A10 → A11 → A12 → A13 → A14 → A15 → A16 → A17 → A18 → A19 → A20 → Prop) (Post : Option α → Prop) (hN : N < 2 ^ 30)
    (hs : ∀ (self : A1 → A2 → A3 → A4 → A5 → A6 → A7 → A8 → A9 → A10 → A11 → A12 → A13 → A14 → A15 → A16 → A17 → A18 → A19 → A20 → Int32 → Option α) (c : Nat) (a1 : A1) (a2 : A2) (a3 : A3) (a4 : A4) (a5 : A5) (a6 : A6) (a7 : A7) (a8 : A8) (a9 : A9) (a10 : A10) (a11 : A11) (a12 : A12) (a13 : A13) (a14 : A14) (a15 : A15) (a16 : A16) (a17 : A17) (a18 : A18) (a19 : A19) (a20 : A20) , c < N → I c a1 a2 a3 a4 a5 a6 a7 a8 a9 a10 a11 a12 a13 a14 a15 a16 a17 a18 a19 a20 → (∀ (b1 : A1) (b2 : A2) (b3 : A3) (b4 : A4) (b5 : A5) (b6 : A6) (b7 : A7) (b8 : A8) (b9 : A9) (b10 : A10) (b11 : A11) (b12 : A12) (b13 : A13) (b14 : A14) (b15 : A15) (b16 : A16) (b17 : A17) (b18 : A18) (b19 : A19) (b20 : A20) , I (c + 1) b1 b2 b3 b4 b5 b6 b7 b8 b9 b10 b11 b12 b13 b14 b15 b16 b17 b18 b19 b20 → Post (self b1 b2 b3 b4 b5 b6 b7 b8 b9 b10 b11 b12 b13 b14 b15 b16 b17 b18 b19 b20 (nI (c + 1)))) → Post (body self a1 a2 a3 a4 a5 a6 a7 a8 a9 a10 a11 a12 a13 a14 a15 a16 a17 a18 a19 a20 (nI c)))
    (hf : ∀ (self : A1 → A2 → A3 → A4 → A5 → A6 → A7 → A8 → A9 → A10 → A11 → A12 → A13 → A14 → A15 → A16 → A17 → A18 → A19 → A20 → Int32 → Option α) (a1 : A1) (a2 : A2) (a3 : A3) (a4 : A4) (a5 : A5) (a6 : A6) (a7 : A7) (a8 : A8) (a9 : A9) (a10 : A10) (a11 : A11) (a12 : A12) (a13 : A13) (a14 : A14) (a15 : A15) (a16 : A16) (a17 : A17) (a18 : A18) (a19 : A19) (a20 : A20) , I N a1 a2 a3 a4 a5 a6 a7 a8 a9 a10 a11 a12 a13 a14 a15 a16 a17 a18 a19 a20 → Post (body self a1 a2 a3 a4 a5 a6 a7 a8 a9 a10 a11 a12 a13 a14 a15 a16 a17 a18 a19 a20 (nI N))) : ∀ (n c : Nat) (a1 : A1) (a2 : A2) (a3 : A3) (a4 : A4) (a5 : A5) (a6 : A6) (a7 : A7) (a8 : A8) (a9 : A9) (a10 : A10) (a11 : A11) (a12 : A12) (a13 : A13) (a14 : A14) (a15 : A15) (a16 : A16) (a17 : A17) (a18 : A18) (a19 : A19) (a20 : A20) , c ≤ N → N < n + c → I c a1 a2 a3 a4 a5 a6 a7 a8 a9 a10 a11 a12 a13 a14 a15 a16 a17 a18 a19 a20 → Post (lq21 body n a1 a2 a3 a4 a5 a6 a7 a8 a9 a10 a11 a12 a13 a14 a15 a16 a17 a18 a19 a20 (nI c)) := by
  intro n
  induction n with
  | zero => intro c a1 a2 a3 a4 a5 a6 a7 a8 a9 a10 a11 a12 a13 a14 a15 a16 a17 a18 a19 a20 h1 h2 _; omega
  | succ n ih =>
    intro c a1 a2 a3 a4 a5 a6 a7 a8 a9 a10 a11 a12 a13 a14 a15 a16 a17 a18 a19 a20 h1 h2 hI
    rw [lq21_s]
    by_cases e : c = N
    · subst e
      exact hf _ _ _ _ _ _ _ _ _ _ _ _ _ _ _ _ _ _ _ _ _ hI
    · exact hs _ c _ _ _ _ _ _ _ _ _ _ _ _ _ _ _ _ _ _ _ _ (by omega) hI (fun b1 b2 b3 b4 b5 b6 b7 b8 b9 b10 b11 b12 b13 b14 b15 b16 b17 b18 b19 b20 hb => ih (c + 1) b1 b2 b3 b4 b5 b6 b7 b8 b9 b10 b11 b12 b13 b14 b15 b16 b17 b18 b19 b20 (by omega) (by omega) hb)
theorem fr21 {A1 A2 A3 A4 A5 A6 A7 A8 A9 A10 A11 A12 A13 A14 A15 A16 A17 A18 A19 A20 A21 α : Type} (body : (A1 → A2 → A3 → A4 → A5 → A6 → A7 → A8 → A9 → A10 → A11 → A12 → A13 → A14 → A15 → A16 → A17 → A18 → A19 → A20 → A21 → Int32 → Option α) → A1 → A2 → A3 → A4 → A5 → A6 → A7 → A8 → A9 → A10 → A11 → A12 → A13 → A14 → A15 → A16 → A17 → A18 → A19 → A20 → A21 → Int32 → Option α) (N : Nat) (I : Nat → A1 → A2 → A3 → A4 → A5 → A6 → A7 → A8 → A9 → A10 → A11 → A12 → A13 → A14 → A15 → A16 → A17 → A18 → A19 → A20 → A21 → Prop) (Post : Option α → Prop) (hN : N < 2 ^ 30)
    (hs : ∀ (self : A1 → A2 → A3 → A4 → A5 → A6 → A7 → A8 → A9 → A10 → A11 → A12 → A13 → A14 → A15 → A16 → A17 → A18 → A19 → A20 → A21 → Int32 → Option α) (c : Nat) (a1 : A1) (a2 : A2) (a3 : A3) (a4 : A4) (a5 : A5) (a6 : A6) (a7 : A7) (a8 : A8) (a9 : A9) (a10 : A10) (a11 : A11) (a12 : A12) (a13 : A13) (a14 : A14) (a15 : A15) (a16 : A16) (a17 : A17) (a18 : A18) (a19 : A19) (a20 : A20) (a21 : A21) , c < N → I c a1 a2 a3 a4 a5 a6 a7 a8 a9 a10 a11 a12 a13 a14 a15 a16 a17 a18 a19 a20 a21 → (∀ (b1 : A1) (b2 : A2) (b3 : A3) (b4 : A4) (b5 : A5) (b6 : A6) (b7 : A7) (b8 : A8) (b9 : A9) (b10 : A10) (b11 : A11) (b12 : A12) (b13 : A13) (b14 : A14) (b15 : A15) (b16 : A16) (b17 : A17) (b18 : A18) (b19 : A19) (b20 : A20) (b21 : A21) , I (c + 1) b1 b2 b3 b4 b5 b6 b7 b8 b9 b10 b11 b12 b13 b14 b15 b16 b17 b18 b19 b20 b21 → Post (self b1 b2 b3 b4 b5 b6 b7 b8 b9 b10 b11 b12 b13 b14 b15 b16 b17 b18 b19 b20 b21 (nI (c + 1)))) → Post (body self a1 a2 a3 a4 a5 a6 a7 a8 a9 a10 a11 a12 a13 a14 a15 a16 a17 a18 a19 a20 a21 (nI c)))
    (hf : ∀ (self : A1 → A2 → A3 → A4 → A5 → A6 → A7 → A8 → A9 → A10 → A11 → A12 → A13 → A14 → A15 → A16 → A17 → A18 → A19 → A20 → A21 → Int32 → Option α) (a1 : A1) (a2 : A2) (a3 : A3) (a4 : A4) (a5 : A5) (a6 : A6) (a7 : A7) (a8 : A8) (a9 : A9) (a10 : A10) (a11 : A11) (a12 : A12) (a13 : A13) (a14 : A14) (a15 : A15) (a16 : A16) (a17 : A17) (a18 : A18) (a19 : A19) (a20 : A20) (a21 : A21) , I N a1 a2 a3 a4 a5 a6 a7 a8 a9 a10 a11 a12 a13 a14 a15 a16 a17 a18 a19 a20 a21 → Post (body self a1 a2 a3 a4 a5 a6 a7 a8 a9 a10 a11 a12 a13 a14 a15 a16 a17 a18 a19 a20 a21 (nI N))) : ∀ (n c : Nat) (a1 : A1) (a2 : A2) (a3 : A3) (a4 : A4) (a5 : A5) (a6 : A6) (a7 : A7) (a8 : A8) (a9 : A9) (a10 : A10) (a11 : A11) (a12 : A12) (a13 : A13) (a14 : A14) (a15 : A15) (a16 : A16) (a17 : A17) (a18 : A18) (a19 : A19) (a20 : A20) (a21 : A21) , c ≤ N → N < n + c → I c a1 a2 a3 a4 a5 a6 a7 a8 a9 a10 a11 a12 a13 a14 a15 a16 a17 a18 a19 a20 a21 → Post (lq22 body n a1 a2 a3 a4 a5 a6 a7 a8 a9 a10 a11 a12 a13 a14 a15 a16 a17 a18 a19 a20 a21 (nI c)) := by
  intro n
  induction n with
  | zero => intro c a1 a2 a3 a4 a5 a6 a7 a8 a9 a10 a11 a12 a13 a14 a15 a16 a17 a18 a19 a20 a21 h1 h2 _; omega
  | succ n ih =>
    intro c a1 a2 a3 a4 a5 a6 a7 a8 a9 a10 a11 a12 a13 a14 a15 a16 a17 a18 a19 a20 a21 h1 h2 hI
    rw [lq22_s]
    by_cases e : c = N
    · subst e
      exact hf _ _ _ _ _ _ _ _ _ _ _ _ _ _ _ _ _ _ _ _ _ _ hI
    · exact hs _ c _ _ _ _ _ _ _ _ _ _ _ _ _ _ _ _ _ _ _ _ _ (by omega) hI (fun b1 b2 b3 b4 b5 b6 b7 b8 b9 b10 b11 b12 b13 b14 b15 b16 b17 b18 b19 b20 b21 hb => ih (c + 1) b1 b2 b3 b4 b5 b6 b7 b8 b9 b10 b11 b12 b13 b14 b15 b16 b17 b18 b19 b20 b21 (by omega) (by omega) hb)
theorem fr22 {A1 A2 A3 A4 A5 A6 A7 A8 A9 A10 A11 A12 A13 A14 A15 A16 A17 A18 A19 A20 A21 A22 α : Type} (body : (A1 → A2 → A3 → A4 → A5 → A6 → A7 → A8 → A9 → A10 → A11 → A12 → A13 → A14 → A15 → A16 → A17 → A18 → A19 → A20 → A21 → A22 → Int32 → Option α) → A1 → A2 → A3 → A4 → A5 → A6 → A7 → A8 → A9 → A10 → A11 → A12 → A13 → A14 → A15 → A16 → A17 → A18 → A19 → A20 → A21 → A22 → Int32 → Option α) (N : Nat) (I : Nat → A1 → A2 → A3 → A4 → A5 → A6 → A7 → A8 → A9 → A10 → A11 → A12 → A13 → A14 → A15 → A16 → A17 → A18 → A19 → A20 → A21 → A22 → Prop) (Post : Option α → Prop) (hN : N < 2 ^ 30)
    (hs : ∀ (self : A1 → A2 → A3 → A4 → A5 → A6 → A7 → A8 → A9 → A10 → A11 → A12 → A13 → A14 → A15 → A16 → A17 → A18 → A19 → A20 → A21 → A22 → Int32 → Option α) (c : Nat) (a1 : A1) (a2 : A2) (a3 : A3) (a4 : A4) (a5 : A5) (a6 : A6) (a7 : A7) (a8 : A8) (a9 : A9) (a10 : A10) (a11 : A11) (a12 : A12) (a13 : A13) (a14 : A14) (a15 : A15) (a16 : A16) (a17 : A17) (a18 : A18) (a19 : A19) (a20 : A20) (a21 : A21) (a22 : A22) , c < N → I c a1 a2 a3 a4 a5 a6 a7 a8 a9 a10 a11 a12 a13 a14 a15 a16 a17 a18 a19 a20 a21 a22 → (∀ (b1 : A1) (b2 : A2) (b3 : A3) (b4 : A4) (b5 : A5) (b6 : A6) (b7 : A7) (b8 : A8) (b9 : A9) (b10 : A10) (b11 : A11) (b12 : A12) (b13 : A13) (b14 : A14) (b15 : A15) (b16 : A16) (b17 : A17) (b18 : A18) (b19 : A19) (b20 : A20) (b21 : A21) (b22 : A22) , I (c + 1) b1 b2 b3 b4 b5 b6 b7 b8 b9 b10 b11 b12 b13 b14 b15 b16 b17 b18 b19 b20 b21 b22 → Post (self b1 b2 b3 b4 b5 b6 b7 b8 b9 b10 b11 b12 b13 b14 b15 b16 b17 b18 b19 b20 b21 b22 (nI (c + 1)))) → Post (body self a1 a2 a3 a4 a5 a6 a7 a8 a9 a10 a11 a12 a13 a14 a15 a16 a17 a18 a19 a20 a21 a22 (nI c)))
    (hf : ∀ (self : A1 → A2 → A3 → A4 → A5 → A6 → A7 → A8 → A9 → A10 → A11 → A12 → A13 → A14 → A15 → A16 → A17 → A18 → A19 → A20 → A21 → A22 → Int32 → Option α) (a1 : A1) (a2 : A2) (a3 : A3) (a4 : A4) (a5 : A5) (a6 : A6) (a7 : A7) (a8 : A8) (a9 : A9) (a10 : A10) (a11 : A11) (a12 : A12) (a13 : A13) (a14 : A14) (a15 : A15) (a16 : A16) (a17 : A17) (a18 : A18) (a19 : A19) (a20 : A20) (a21 : A21) (a22 : A22) , I N a1 a2 a3 a4 a5 a6 a7 a8 a9 a10 a11 a12 a13 a14 a15 a16 a17 a18 a19 a20 a21 a22 → Post (body self a1 a2 a3 a4 a5 a6 a7 a8 a9 a10 a11 a12 a13 a14 a15 a16 a17 a18 a19 a20 a21 a22 (nI N))) : ∀ (n c : Nat) (a1 : A1) (a2 : A2) (a3 : A3) (a4 : A4) (a5 : A5) (a6 : A6) (a7 : A7) (a8 : A8) (a9 : A9) (a10 : A10) (a11 : A11) (a12 : A12) (a13 : A13) (a14 : A14) (a15 : A15) (a16 : A16) (a17 : A17) (a18 : A18) (a19 : A19) (a20 : A20) (a21 : A21) (a22 : A22) , c ≤ N → N < n + c → I c a1 a2 a3 a4 a5 a6 a7 a8 a9 a10 a11 a12 a13 a14 a15 a16 a17 a18 a19 a20 a21 a22 → Post (lq23 body n a1 a2 a3 a4 a5 a6 a7 a8 a9 a10 a11 a12 a13 a14 a15 a16 a17 a18 a19 a20 a21 a22 (nI c)) := by
  intro n
  induction n with
  | zero => intro c a1 a2 a3 a4 a5 a6 a7 a8 a9 a10 a11 a12 a13 a14 a15 a16 a17 a18 a19 a20 a21 a22 h1 h2 _; omega
  | succ n ih =>
    intro c a1 a2 a3 a4 a5 a6 a7 a8 a9 a10 a11 a12 a13 a14 a15 a16 a17 a18 a19 a20 a21 a22 h1 h2 hI
    rw [lq23_s]
    by_cases e : c = N
    · subst e
      exact hf _ _ _ _ _ _ _ _ _ _ _ _ _ _ _ _ _ _ _ _ _ _ _ hI
    · exact hs _ c _ _ _ _ _ _ _ _ _ _ _ _ _ _ _ _ _ _ _ _ _ _ (by omega) hI (fun b1 b2 b3 b4 b5 b6 b7 b8 b9 b10 b11 b12 b13 b14 b15 b16 b17 b18 b19 b20 b21 b22 hb => ih (c + 1) b1 b2 b3 b4 b5 b6 b7 b8 b9 b10 b11 b12 b13 b14 b15 b16 b17 b18 b19 b20 b21 b22 (by omega) (by omega) hb)
theorem fr23 {A1 A2 A3 A4 A5 A6 A7 A8 A9 A10 A11 A12 A13 A14 A15 A16 A17 A18 A19 A20 A21 A22 A23 α : Type} (body : (A1 → A2 → A3 → A4 → A5 → A6 → A7 → A8 → A9 → A10 → A11 → A12 → A13 → A14 → A15 → A16 → A17 → A18 → A19 → A20 → A21 → A22 → A23 → Int32 → Option α) → A1 → A2 → A3 → A4 → A5 → A6 → A7 → A8 → A9 → A10 → A11 → A12 → A13 → A14 → A15 → A16 → A17 → A18 → A19 → A20 → A21 → A22 → A23 → Int32 → Option α) (N : Nat) (I : Nat → A1 → A2 → A3 → A4 → A5 → A6 → A7 → A8 → A9 → A10 → A11 → A12 → A13 → A14 → A15 → A16 → A17 → A18 → A19 → A20 → A21 → A22 → A23 → Prop) (Post : Option α → Prop) (hN : N < 2 ^ 30)
    (hs : ∀ (self : A1 → A2 → A3 → A4 → A5 → A6 → A7 → A8 → A9 → A10 → A11 → A12 → A13 → A14 → A15 → A16 → A17 → A18 → A19 → A20 → A21 → A22 → A23 → Int32 → Option α) (c : Nat) (a1 : A1) (a2 : A2) (a3 : A3) (a4 : A4) (a5 : A5) (a6 : A6) (a7 : A7) (a8 : A8) (a9 : A9) (a10 : A10) (a11 : A11) (a12 : A12) (a13 : A13) (a14 : A14) (a15 : A15) (a16 : A16) (a17 : A17) (a18 : A18) (a19 : A19) (a20 : A20) (a21 : A21) (a22 : A22) (a23 : A23) , c < N → I c a1 a2 a3 a4 a5 a6 a7 a8 a9 a10 a11 a12 a13 a14 a15 a16 a17 a18 a19 a20 a21 a22 a23 → (∀ (b1 : A1) (b2 : A2) (b3 : A3) (b4 : A4) (b5 : A5) (b6 : A6) (b7 : A7) (b8 : A8) (b9 : A9) (b10 : A10) (b11 : A11) (b12 : A12) (b13 : A13) (b14 : A14) (b15 : A15) (b16 : A16) (b17 : A17) (b18 : A18) (b19 : A19) (b20 : A20) (b21 : A21) (b22 : A22) (b23 : A23) , I (c + 1) b1 b2 b3 b4 b5 b6 b7 b8 b9 b10 b11 b12 b13 b14 b15 b16 b17 b18 b19 b20 b21 b22 b23 → Post (self b1 b2 b3 b4 b5 b6 b7 b8 b9 b10 b11 b12 b13 b14 b15 b16 b17 b18 b19 b20 b21 b22 b23 (nI (c + 1)))) → Post (body self a1 a2 a3 a4 a5 a6 a7 a8 a9 a10 a11 a12 a13 a14 a15 a16 a17 a18 a19 a20 a21 a22 a23 (nI c)))
    (hf : ∀ (self : A1 → A2 → A3 → A4 → A5 → A6 → A7 → A8 → A9 → A10 → A11 → A12 → A13 → A14 → A15 → A16 → A17 → A18 → A19 → A20 → A21 → A22 → A23 → Int32 → Option α) (a1 : A1) (a2 : A2) (a3 : A3) (a4 : A4) (a5 : A5) (a6 : A6) (a7 : A7) (a8 : A8) (a9 : A9) (a10 : A10) (a11 : A11) (a12 : A12) (a13 : A13) (a14 : A14) (a15 : A15) (a16 : A16) (a17 : A17) (a18 : A18) (a19 : A19) (a20 : A20) (a21 : A21) (a22 : A22) (a23 : A23) , I N a1 a2 a3 a4 a5 a6 a7 a8 a9 a10 a11 a12 a13 a14 a15 a16 a17 a18 a19 a20 a21 a22 a23 → Post (body self a1 a2 a3 a4 a5 a6 a7 a8 a9 a10 a11 a12 a13 a14 a15 a16 a17 a18 a19 a20 a21 a22 a23 (nI N))) : ∀ (n c : Nat) (a1 : A1) (a2 : A2) (a3 : A3) (a4 : A4) (a5 : A5) (a6 : A6) (a7 : A7) (a8 : A8) (a9 : A9) (a10 : A10) (a11 : A11) (a12 : A12) (a13 : A13) (a14 : A14) (a15 : A15) (a16 : A16) (a17 : A17) (a18 : A18) (a19 : A19) (a20 : A20) (a21 : A21) (a22 : A22) (a23 : A23) , c ≤ N → N < n + c → I c a1 a2 a3 a4 a5 a6 a7 a8 a9 a10 a11 a12 a13 a14 a15 a16 a17 a18 a19 a20 a21 a22 a23 → Post (lq24 body n a1 a2 a3 a4 a5 a6 a7 a8 a9 a10 a11 a12 a13 a14 a15 a16 a17 a18 a19 a20 a21 a22 a23 (nI c)) := by
  intro n
  induction n with
  | zero => intro c a1 a2 a3 a4 a5 a6 a7 a8 a9 a10 a11 a12 a13 a14 a15 a16 a17 a18 a19 a20 a21 a22 a23 h1 h2 _; omega
  | succ n ih =>
    intro c a1 a2 a3 a4 a5 a6 a7 a8 a9 a10 a11 a12 a13 a14 a15 a16 a17 a18 a19 a20 a21 a22 a23 h1 h2 hI
    rw [lq24_s]
    by_cases e : c = N
    · subst e
      exact hf _ _ _ _ _ _ _ _ _ _ _ _ _ _ _ _ _ _ _ _ _ _ _ _ hI
    · exact hs _ c _ _ _ _ _ _ _ _ _ _ _ _ _ _ _ _ _ _ _ _ _ _ _ (by omega) hI (fun b1 b2 b3 b4 b5 b6 b7 b8 b9 b10 b11 b12 b13 b14 b15 b16 b17 b18 b19 b20 b21 b22 b23 hb => ih (c + 1) b1 b2 b3 b4 b5 b6 b7 b8 b9 b10 b11 b12 b13 b14 b15 b16 b17 b18 b19 b20 b21 b22 b23 (by omega) (by omega) hb)
