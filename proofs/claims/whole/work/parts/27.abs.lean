/-! THE COMMON MEANING: told cells, values, heights, reads, waits; a visit, a sweep, the run -/
def Lp (n : Nat) (l : Nat → Nat) : Prop := n ≤ 30 ∧ (∀ i, i < n → l i < 30) ∧ (∀ i j, i < j → j < n → l i ≠ l j) ∧ (∀ i j, 0 < i → i < j → j < n → l i < l j)
theorem vf_kind {f : Fq} (hf : VF f) : f.1 ≤ 1 ∨ (f.1 = 6 ∨ f.1 = 7) ∨ (f.1 = 2 ∨ f.1 = 3 ∨ f.1 = 4 ∨ f.1 = 5 ∨ f.1 = 8) := by
  rcases hf with h | h | h | h | h | h <;> omega
theorem vf_span {f : Fq} (hf : VF f) (hK : f.1 = 6 ∨ f.1 = 7) : f.2.1 ≤ f.2.2.1 ∧ f.2.2.1 < 30 := by
  rcases hf with h | h | h | h | h | h <;> omega
theorem vf_two {f : Fq} (hf : VF f) (hK : f.1 = 2 ∨ f.1 = 3 ∨ f.1 = 4 ∨ f.1 = 5 ∨ f.1 = 8) : f.2.1 < 30 := by
  rcases hf with h | h | h | h | h | h <;> omega
theorem oc_one {f : Fq} (T : Nat → Bool) (V : Nat → Int32) (h : f.1 ≤ 1) : ocR f T V = some (nI f.2.1) ∧ ocN f T V = 0 := by
  unfold ocR ocN
  rw [if_pos h, if_pos h]
  exact ⟨rfl, rfl⟩
theorem oc_sp {f : Fq} (T : Nat → Bool) (V : Nat → Int32) (h : f.1 = 6 ∨ f.1 = 7) : ocR f T V = (if spl T f.2.1 (spn f) = spn f then some (if f.1 = 6 then smS V f.2.1 (spn f) else mxS V f.2.1 (spn f)) else none) ∧ ocN f T V = (if spl T f.2.1 (spn f) = spn f then spn f else spl T f.2.1 (spn f) + 1) ∧ (∀ i, ocL f V i = f.2.1 + i) ∧ ocW f T V = f.2.1 + spl T f.2.1 (spn f) := by
  have h0 : ¬ f.1 ≤ 1 := by omega
  refine ⟨?_, ?_, fun i => ?_, ?_⟩
  · unfold ocR; rw [if_neg h0, if_pos h]
  · unfold ocN; rw [if_neg h0, if_pos h]
  · unfold ocL; rw [if_pos h]
  · unfold ocW; rw [if_pos h]
theorem smS_cong {V V' : Nat → Int32} {p : Nat} : ∀ {n : Nat}, (∀ i, i < n → V (p + i) = V' (p + i)) → smS V p n = smS V' p n
  | 0, _ => rfl
  | n + 1, h => by rw [smS, smS, smS_cong (fun i hi => h i (by omega)), h n (by omega)]
theorem mxS_cong {V V' : Nat → Int32} {p : Nat} : ∀ {n : Nat}, (∀ i, i < n → V (p + i) = V' (p + i)) → mxS V p n = mxS V' p n
  | 0, _ => rfl
  | n + 1, h => by rw [mxS, mxS, mxS_cong (fun i hi => h i (by omega)), h n (by omega)]
theorem sec_cong {f : Fq} {V V' : Nat → Int32} (h : V f.2.1 = V' f.2.1) : sec f V = sec f V' := by unfold sec; rw [h]
theorem oc_cong {f : Fq} {T : Nat → Bool} {V V' : Nat → Int32} (hf : VF f) (h : ∀ d, d < 30 → T d = true → V d = V' d) : ocR f T V = ocR f T V' ∧ ocN f T V = ocN f T V' ∧ ocW f T V = ocW f T V' ∧ ∀ i, i < ocN f T V → ocL f V i = ocL f V' i := by
  rcases vf_kind hf with k | k | k
  · rw [(oc_one T V k).1, (oc_one T V k).2, (oc_one T V' k).1, (oc_one T V' k).2]
    refine ⟨rfl, rfl, ?_, fun i hi => by omega⟩
    unfold ocW
    have h2 : ¬ (f.1 = 6 ∨ f.1 = 7) := by omega
    rw [if_neg h2, if_neg h2]
    by_cases hp : T f.2.1 = true
    · rw [if_pos hp, if_pos hp]
      unfold sec
      rw [if_neg (by omega), if_neg (by omega), if_neg (by omega), if_neg (by omega)]
    · rw [if_neg hp, if_neg hp]
  · obtain ⟨a1, a2, a3, a4⟩ := oc_sp T V k
    obtain ⟨b1, b2, b3, b4⟩ := oc_sp T V' k
    obtain ⟨p1, p2⟩ := vf_span hf k
    rw [a1, a2, a4, b1, b2, b4]
    refine ⟨?_, rfl, rfl, fun i _ => by rw [a3, b3]⟩
    by_cases e : spl T f.2.1 (spn f) = spn f
    · rw [if_pos e, if_pos e]
      have hv : ∀ i, i < spn f → V (f.2.1 + i) = V' (f.2.1 + i) := fun i hi => h _ (by unfold spn at hi; omega) (spl_t T f.2.1 (spn f) i (by omega))
      rw [smS_cong hv, mxS_cong hv]
    · rw [if_neg e, if_neg e]
  · obtain ⟨a1, a2, a3, a4⟩ := oN_two (T := T) (V := V) k
    obtain ⟨b1, b2, b3, b4⟩ := oN_two (T := T) (V := V') k
    have p1 := vf_two hf k
    rw [a1, a2, a4, b1, b2, b4]
    by_cases hp : T f.2.1 = true
    · have hs : sec f V = sec f V' := sec_cong (h _ p1 hp)
      rw [hs, h _ p1 hp]
      refine ⟨?_, rfl, rfl, fun i _ => by rw [a3, b3, hs]⟩
      by_cases h2 : T (sec f V') = true
      · rw [h _ (sec_lt hf (by omega) V') h2]
      · rw [if_neg (fun z => h2 z.2), if_neg (fun z => h2 z.2)]
    · rw [if_neg (fun z => hp z.1), if_neg (fun z => hp z.1), if_neg (fun z => hp z.1), if_neg (fun z => hp z.1), if_neg hp, if_neg hp]
      refine ⟨rfl, rfl, rfl, fun i hi => ?_⟩
      rw [a3, b3, if_pos (by omega), if_pos (by omega)]
theorem oc_told {f : Fq} {T : Nat → Bool} {V : Nat → Int32} {v : Int32} (hf : VF f) (hr : ocR f T V = some v) : ∀ i, i < ocN f T V → T (ocL f V i) = true := by
  intro i hi
  rcases vf_kind hf with k | k | k
  · rw [(oc_one T V k).2] at hi; omega
  · obtain ⟨a1, a2, a3, a4⟩ := oc_sp T V k
    rw [a1] at hr
    rw [a2] at hi
    by_cases e : spl T f.2.1 (spn f) = spn f
    · rw [if_pos e] at hi
      rw [a3]
      exact spl_t T f.2.1 (spn f) i (by omega)
    · rw [if_neg e] at hr; cases hr
  · obtain ⟨a1, a2, a3, a4⟩ := oN_two (T := T) (V := V) k
    rw [a1] at hr
    by_cases h2 : T f.2.1 = true ∧ T (sec f V) = true
    · rw [a3]
      split
      · exact h2.1
      · exact h2.2
    · rw [if_neg h2] at hr; cases hr
theorem oc_lp {f : Fq} (T : Nat → Bool) (V : Nat → Int32) (hf : VF f) : Lp (ocN f T V) (ocL f V) := by
  rcases vf_kind hf with k | k | k
  · rw [(oc_one T V k).2]
    exact ⟨by omega, fun i hi => by omega, fun i j _ hj => by omega, fun i j _ _ hj => by omega⟩
  · obtain ⟨a1, a2, a3, a4⟩ := oc_sp T V k
    obtain ⟨p1, p2⟩ := vf_span hf k
    have hs := spl_le T f.2.1 (spn f)
    have hn : ocN f T V ≤ spn f := by rw [a2]; split <;> omega
    have h3 : spn f = f.2.2.1 + 1 - f.2.1 := rfl
    refine ⟨by omega, fun i hi => by rw [a3]; omega, fun i j hi hj => by rw [a3, a3]; omega, fun i j _ hi hj => by rw [a3, a3]; omega⟩
  · obtain ⟨a1, a2, a3, a4⟩ := oN_two (T := T) (V := V) k
    have p1 := vf_two hf k
    have p2 := sec_lt hf (by omega) V
    by_cases h2 : T f.2.1 = true ∧ sec f V ≠ f.2.1
    · rw [a2, if_pos h2]
      refine ⟨by omega, fun i hi => ?_, fun i j hi hj => ?_, fun i j h0 hi hj => by omega⟩
      · rw [a3]; split <;> omega
      · rw [a3, a3, if_pos (by omega), if_neg (by omega)]; exact fun z => h2.2 z.symm
    · rw [a2, if_neg h2]
      refine ⟨by omega, fun i hi => ?_, fun i j hi hj => by omega, fun i j h0 hi hj => by omega⟩
      rw [a3]; split <;> omega
theorem spl_mono {T T' : Nat → Bool} {p n : Nat} (h : ∀ i, i < n → T (p + i) = true → T' (p + i) = true) : spl T p n ≤ spl T' p n := by
  by_cases e : spl T' p n < spl T p n
  · have h1 := spl_le T p n
    have h2 := spl_t T p n _ e
    have h3 := spl_f T' p n (by omega)
    rw [h _ (by omega) h2] at h3
    cases h3
  · omega
theorem oc_mono {f : Fq} {T T' : Nat → Bool} {V V' : Nat → Int32} (hf : VF f) (h : ∀ d, d < 30 → T d = true → T' d = true ∧ V d = V' d) : ∀ i, i < ocN f T V → ∃ j, j < ocN f T' V' ∧ ocL f V' j = ocL f V i := by
  intro i hi
  rcases vf_kind hf with k | k | k
  · rw [(oc_one T V k).2] at hi; omega
  · obtain ⟨a1, a2, a3, a4⟩ := oc_sp T V k
    obtain ⟨b1, b2, b3, b4⟩ := oc_sp T' V' k
    obtain ⟨p1, p2⟩ := vf_span hf k
    have h3 : spn f = f.2.2.1 + 1 - f.2.1 := rfl
    have hm := spl_mono (T := T) (T' := T') (p := f.2.1) (n := spn f) (fun i hi ht => (h _ (by omega) ht).1)
    have hs := spl_le T' f.2.1 (spn f)
    refine ⟨i, ?_, by rw [a3, b3]⟩
    rw [a2] at hi
    rw [b2]
    split at hi <;> split <;> omega
  · obtain ⟨a1, a2, a3, a4⟩ := oN_two (T := T) (V := V) k
    obtain ⟨b1, b2, b3, b4⟩ := oN_two (T := T') (V := V') k
    have p1 := vf_two hf k
    rw [a2] at hi
    by_cases h2 : T f.2.1 = true ∧ sec f V ≠ f.2.1
    · have hs : sec f V = sec f V' := sec_cong (h _ p1 h2.1).2
      refine ⟨i, ?_, by rw [a3, b3, hs]⟩
      rw [if_pos h2] at hi
      rw [b2, if_pos ⟨(h _ p1 h2.1).1, hs ▸ h2.2⟩]
      exact hi
    · rw [if_neg h2] at hi
      refine ⟨0, ?_, ?_⟩
      · rw [b2]; split <;> omega
      · rw [a3, b3, if_pos rfl, if_pos (by omega)]
/-- the least height above all that are read -/
def mxH (g : Nat → Nat) (l : Nat → Nat) : Nat → Nat
  | 0 => 0
  | n + 1 => max (mxH g l n) (g (l n) + 1)
theorem mxH_ge (g l : Nat → Nat) : ∀ {n i : Nat}, i < n → g (l i) + 1 ≤ mxH g l n
  | n + 1, i, h => by
    rw [mxH]
    by_cases e : i = n
    · rw [e]; omega
    · have := mxH_ge g l (n := n) (i := i) (by omega); omega
theorem mxH_le {g l : Nat → Nat} {b : Nat} : ∀ {n : Nat}, (∀ i, i < n → g (l i) + 1 ≤ b) → mxH g l n ≤ b
  | 0, _ => Nat.zero_le _
  | n + 1, h => by
    rw [mxH]
    have := mxH_le (n := n) (fun i hi => h i (by omega))
    have := h n (by omega)
    omega
theorem mxH_eq {g l : Nat → Nat} {n h : Nat} (h1 : ∀ i, i < n → g (l i) + 1 ≤ h) (h2 : h = 0 ∨ ∃ i, i < n ∧ h ≤ g (l i) + 1) : h = mxH g l n := by
  have a := mxH_le (n := n) h1
  rcases h2 with e | ⟨i, hi, e⟩
  · omega
  · have := mxH_ge g l hi; omega
def up {α : Type} (f : Nat → α) (c : Nat) (x : α) : Nat → α := fun d => if d = c then x else f d
theorem up_s {α : Type} (f : Nat → α) (c : Nat) (x : α) : up f c x c = x := if_pos rfl
theorem up_n {α : Type} (f : Nat → α) {c d : Nat} (x : α) (h : d ≠ c) : up f c x d = f d := if_neg h
/-- told, seen, value, height, how many read, which, waits for -/
abbrev AS : Type := (Nat → Bool) × (Nat → Bool) × (Nat → Int32) × (Nat → Nat) × (Nat → Nat) × (Nat → Nat → Nat) × (Nat → Nat)
def aT (A : AS) : Nat → Bool := A.1
def aS (A : AS) : Nat → Bool := A.2.1
def aV (A : AS) : Nat → Int32 := A.2.2.1
def aG (A : AS) : Nat → Nat := A.2.2.2.1
def aN (A : AS) : Nat → Nat := A.2.2.2.2.1
def aL (A : AS) : Nat → Nat → Nat := A.2.2.2.2.2.1
def aW' (A : AS) : Nat → Nat := A.2.2.2.2.2.2
def vsS (F : Fo) (c : Nat) (A : AS) (r : Int32) : AS := (up (aT A) c true, up (aS A) c true, up (aV A) c r, up (aG A) c (mxH (aG A) (ocL (F c) (aV A)) (ocN (F c) (aT A) (aV A))), up (aN A) c (ocN (F c) (aT A) (aV A)), up (aL A) c (ocL (F c) (aV A)), aW' A)
def vsN (F : Fo) (c : Nat) (A : AS) : AS := (aT A, up (aS A) c true, aV A, aG A, up (aN A) c (ocN (F c) (aT A) (aV A)), up (aL A) c (ocL (F c) (aV A)), up (aW' A) c (ocW (F c) (aT A) (aV A)))
def vs (F : Fo) (c : Nat) (A : AS) : AS := if aT A c = true then A else match ocR (F c) (aT A) (aV A) with
  | some r => vsS F c A r
  | none => vsN F c A
theorem vs_t {F : Fo} {c : Nat} {A : AS} (h : aT A c = true) : vs F c A = A := if_pos h
theorem vs_s {F : Fo} {c : Nat} {A : AS} {r : Int32} (h : aT A c = false) (hr : ocR (F c) (aT A) (aV A) = some r) : vs F c A = vsS F c A r := by
  unfold vs
  rw [if_neg (by rw [h]; decide), hr]
theorem vs_n {F : Fo} {c : Nat} {A : AS} (h : aT A c = false) (hr : ocR (F c) (aT A) (aV A) = none) : vs F c A = vsN F c A := by
  unfold vs
  rw [if_neg (by rw [h]; decide), hr]
def sw (F : Fo) : Nat → AS → AS
  | 0, A => A
  | k + 1, A => vs F k (sw F k A)
def gr (F : Fo) : Nat → AS → AS
  | 0, A => A
  | n + 1, A => if fb_ct (aT (sw F 30 A)) 30 = fb_ct (aT A) 30 then sw F 30 A else gr F n (sw F 30 A)
def A0 : AS := (fun _ => false, fun _ => false, fun _ => 0, fun _ => 0, fun _ => 0, fun _ _ => 0, fun _ => 0)
def fin (F : Fo) : AS := gr F 31 A0
/-- what holds of every state on the way -/
def AI (F : Fo) (A : AS) : Prop :=
  (∀ d, d < 30 → aT A d = true → aG A d + 1 ≤ fb_ct (aT A) 30 ∧ aS A d = true) ∧ (∀ d, d < 30 → Lp (aN A d) (aL A d)) ∧
  (∀ d, d < 30 → aT A d = false → ∀ i, i < aN A d → ∃ j, j < ocN (F d) (aT A) (aV A) ∧ ocL (F d) (aV A) j = aL A d i) ∧
  (∀ d, d < 30 → aT A d = false → aS A d = true → aW' A d < 30)
theorem AI0 (F : Fo) : AI F A0 := ⟨fun d _ h => (by cases h), fun d _ => ⟨Nat.zero_le _, fun i hi => absurd hi (Nat.not_lt_zero i), fun i j _ hj => absurd hj (Nat.not_lt_zero j), fun i j _ _ hj => absurd hj (Nat.not_lt_zero j)⟩, fun d _ _ i hi => absurd hi (Nat.not_lt_zero i), fun d _ _ h => (by cases h)⟩
theorem ct_up {T : Nat → Bool} {c : Nat} (hc : c < 30) (h : T c = false) : fb_ct (up T c true) 30 = fb_ct T 30 + 1 := by
  have := fb_ct_upd T true (i := c) (n := 30) hc
  rw [h, if_neg (by decide), if_pos rfl] at this
  exact this
theorem AI_vs {F : Fo} {A : AS} {c : Nat} (hF : VFs F) (hc : c < 30) (h : AI F A) : AI F (vs F c A) := by
  obtain ⟨h1, h2, h3, h4⟩ := h
  cases hT : aT A c with
  | true => rw [vs_t hT]; exact ⟨h1, h2, h3, h4⟩
  | false =>
    have hlp := oc_lp (aT A) (aV A) (hF c hc)
    cases hr : ocR (F c) (aT A) (aV A) with
    | some r =>
      rw [vs_s hT hr]
      have hct := ct_up hc hT
      have hto := oc_told (hF c hc) hr
      have hst : ∀ d, d < 30 → aT A d = true → up (aT A) c true d = true ∧ aV A d = up (aV A) c r d := fun d hd ht => by
        have hne : d ≠ c := fun e => by rw [e, hT] at ht; cases ht
        rw [up_n _ _ hne, up_n _ _ hne]
        exact ⟨ht, rfl⟩
      refine ⟨fun d hd ht => ?_, fun d hd => ?_, fun d hd ht i hi => ?_, fun d hd ht hs => ?_⟩
      · show up (aG A) c _ d + 1 ≤ fb_ct (up (aT A) c true) 30 ∧ up (aS A) c true d = true
        rw [hct]
        by_cases e : d = c
        · subst e
          rw [up_s, up_s]
          refine ⟨?_, rfl⟩
          have := mxH_le (g := aG A) (l := ocL (F d) (aV A)) (n := ocN (F d) (aT A) (aV A)) (b := fb_ct (aT A) 30) (fun i hi => (h1 _ (hlp.2.1 i hi) (hto i hi)).1)
          omega
        · have ht : up (aT A) c true d = true := ht
          rw [up_n _ _ e] at ht
          rw [up_n _ _ e, up_n _ _ e]
          have := h1 d hd ht
          exact ⟨by omega, this.2⟩
      · show Lp (up (aN A) c _ d) (up (aL A) c _ d)
        by_cases e : d = c
        · subst e; rw [up_s, up_s]; exact hlp
        · rw [up_n _ _ e, up_n _ _ e]; exact h2 d hd
      · have e : d ≠ c := fun e => by
          have ht : up (aT A) c true d = false := ht
          rw [e, up_s] at ht; cases ht
        have ht : up (aT A) c true d = false := ht
        rw [up_n _ _ e] at ht
        have hi : i < up (aN A) c _ d := hi
        rw [up_n _ _ e] at hi
        obtain ⟨j, hj, hl⟩ := h3 d hd ht i hi
        obtain ⟨j', hj', hl'⟩ := oc_mono (hF d hd) hst j hj
        refine ⟨j', hj', ?_⟩
        show ocL (F d) (up (aV A) c r) j' = up (aL A) c _ d i
        rw [hl', hl, up_n _ _ e]
      · have e : d ≠ c := fun e => by
          have ht : up (aT A) c true d = false := ht
          rw [e, up_s] at ht; cases ht
        have ht : up (aT A) c true d = false := ht
        have hs : up (aS A) c true d = true := hs
        rw [up_n _ _ e] at ht hs
        exact h4 d hd ht hs
    | none =>
      rw [vs_n hT hr]
      refine ⟨fun d hd ht => ?_, fun d hd => ?_, fun d hd ht i hi => ?_, fun d hd ht hs => ?_⟩
      · have e : d ≠ c := fun e => by
          have ht : aT A d = true := ht
          rw [e, hT] at ht; cases ht
        show aG A d + 1 ≤ fb_ct (aT A) 30 ∧ up (aS A) c true d = true
        rw [up_n _ _ e]
        exact h1 d hd ht
      · show Lp (up (aN A) c _ d) (up (aL A) c _ d)
        by_cases e : d = c
        · subst e; rw [up_s, up_s]; exact hlp
        · rw [up_n _ _ e, up_n _ _ e]; exact h2 d hd
      · show ∃ j, j < ocN (F d) (aT A) (aV A) ∧ ocL (F d) (aV A) j = up (aL A) c _ d i
        have hi : i < up (aN A) c _ d := hi
        by_cases e : d = c
        · subst e
          rw [up_s] at hi
          rw [up_s]
          exact ⟨i, hi, rfl⟩
        · rw [up_n _ _ e] at hi
          rw [up_n _ _ e]
          exact h3 d hd ht i hi
      · show up (aW' A) c _ d < 30
        by_cases e : d = c
        · subst e
          rw [up_s]
          exact ocW_lt (hF d hd) hr
        · have hs : up (aS A) c true d = true := hs
          rw [up_n _ _ e] at hs
          rw [up_n _ _ e]
          exact h4 d hd ht hs
theorem AI_sw {F : Fo} (hF : VFs F) : ∀ {k : Nat} {A : AS}, k ≤ 30 → AI F A → AI F (sw F k A)
  | 0, _, _, h => h
  | k + 1, _, hk, h => AI_vs hF (by omega) (AI_sw hF (by omega) h)
theorem AI_gr {F : Fo} (hF : VFs F) : ∀ {n : Nat} {A : AS}, AI F A → AI F (gr F n A)
  | 0, _, h => h
  | n + 1, A, h => by
    rw [gr]
    split
    · exact AI_sw hF (Nat.le_refl _) h
    · exact AI_gr hF (AI_sw hF (Nat.le_refl _) h)
theorem AI_fin {F : Fo} (hF : VFs F) : AI F (fin F) := AI_gr hF (AI0 F)
/-- what is told stays so -/
theorem vs_mono {F : Fo} {A : AS} {c d : Nat} (h : aT A d = true) : aT (vs F c A) d = true := by
  cases hT : aT A c with
  | true => rw [vs_t hT]; exact h
  | false =>
    cases hr : ocR (F c) (aT A) (aV A) with
    | some r =>
      rw [vs_s hT hr]
      show up (aT A) c true d = true
      unfold up
      split
      · rfl
      · exact h
    | none => rw [vs_n hT hr]; exact h
theorem sw_mono {F : Fo} {A : AS} {d : Nat} (h : aT A d = true) : ∀ k, aT (sw F k A) d = true
  | 0 => h
  | k + 1 => vs_mono (sw_mono h k)
theorem vs_seen {F : Fo} {A : AS} {c : Nat} (hc : c < 30) (h : AI F A) : aS (vs F c A) c = true ∧ (∀ d, aS A d = true → aS (vs F c A) d = true) := by
  have hup : up (aS A) c true c = true ∧ (∀ d, aS A d = true → up (aS A) c true d = true) := ⟨up_s _ _ _, fun d hd => by unfold up; split; rfl; exact hd⟩
  cases hT : aT A c with
  | true => rw [vs_t hT]; exact ⟨(h.1 c hc hT).2, fun _ h => h⟩
  | false =>
    cases hr : ocR (F c) (aT A) (aV A) with
    | some r => rw [vs_s hT hr]; exact hup
    | none => rw [vs_n hT hr]; exact hup
theorem sw_seen {F : Fo} (hF : VFs F) {A : AS} (h : AI F A) : ∀ k, k ≤ 30 → ∀ d, d < k → aS (sw F k A) d = true
  | 0, _, d, hd => by omega
  | k + 1, hk, d, hd => by
    have := vs_seen (F := F) (c := k) (by omega) (AI_sw hF (k := k) (by omega) h)
    by_cases e : d = k
    · rw [e]; exact this.1
    · exact this.2 d (sw_seen hF h k (by omega) d (by omega))
theorem gr_seen {F : Fo} (hF : VFs F) : ∀ {n : Nat} {A : AS}, AI F A → (∀ d, d < 30 → aS A d = true) ∨ 0 < n → ∀ d, d < 30 → aS (gr F n A) d = true
  | 0, A, h, h2, d, hd => by
    rcases h2 with h2 | h2
    · exact h2 d hd
    · omega
  | n + 1, A, h, h2, d, hd => by
    have h3 := sw_seen hF h 30 (Nat.le_refl _)
    rw [gr]
    split
    · exact h3 d hd
    · exact gr_seen hF (AI_sw hF (Nat.le_refl _) h) (Or.inl h3) d hd
theorem fin_seen {F : Fo} (hF : VFs F) : ∀ d, d < 30 → aS (fin F) d = true := gr_seen hF (AI0 F) (Or.inr (by omega))
theorem ct_same {T T' : Nat → Bool} (h : ∀ d, d < 30 → T d = true → T' d = true) (he : fb_ct T' 30 = fb_ct T 30) : ∀ d, d < 30 → T d = T' d := by
  intro d hd
  cases h1 : T d with
  | true => exact (h d hd h1).symm
  | false =>
    cases h2 : T' d with
    | false => rfl
    | true =>
      have a := ct_up hd h1
      have b := fb_ct_sub (p := up T d true) (q := T') (n := 30) (fun k hk hu => by
        by_cases e : k = d
        · rw [e]; exact h2
        · rw [up_n _ _ e] at hu; exact h k hk hu)
      omega
