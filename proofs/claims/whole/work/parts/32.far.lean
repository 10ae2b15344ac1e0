/-! NEEDED AND HANGING: closures -/
theorem bsel {x : Int32} {c : Nat} (h : c < 32) : (x >>> (nI c &&& 31)) &&& 1 = if bt x c = true then 1 else 0 := by
  rw [and1, b_sshr c h x (by omega), Nat.add_zero, if_pos h]
def itF (f : Int32 → Int32) (x : Int32) : Nat → Int32
  | 0 => x
  | n + 1 => f (itF f x n)
theorem itF_stay {f : Int32 → Int32} {x : Int32} {t : Nat} (h : f (itF f x t) = itF f x t) : ∀ m, itF f x (t + m) = itF f x t
  | 0 => rfl
  | m + 1 => by rw [← Nat.add_assoc, itF, itF_stay h m, h]
def hi0 (x : Int32) : Prop := ∀ j, 30 ≤ j → bt x j = false
theorem itF_hi {f : Int32 → Int32} {x : Int32} (hf : ∀ y, hi0 y → hi0 (f y)) (hx : hi0 x) : ∀ t, hi0 (itF f x t)
  | 0 => hx
  | t + 1 => hf _ (itF_hi hf hx t)
theorem itF_mono {f : Int32 → Int32} {x : Int32} (hm : ∀ y j, bt y j = true → bt (f y) j = true) {j : Nat} (h : bt x j = true) : ∀ t, bt (itF f x t) j = true
  | 0 => h
  | t + 1 => hm _ _ (itF_mono hm h t)
theorem sub_eq {x y : Int32} (hx : hi0 x) (hy : hi0 y) (h : ∀ j, bt x j = true → bt y j = true) (hc : fb_ct (bt y) 30 = fb_ct (bt x) 30) : y = x := by
  have := ct_same (T := bt x) (T' := bt y) (fun d _ => h d) hc
  refine b_ext (fun i hi => ?_)
  by_cases e : i < 30
  · exact (this i e).symm
  · rw [hx i (by omega), hy i (by omega)]
theorem itF_stable {f : Int32 → Int32} {x : Int32} (hm : ∀ y j, bt y j = true → bt (f y) j = true) (hf : ∀ y, hi0 y → hi0 (f y)) (hx : hi0 x) : f (itF f x 30) = itF f x 30 := by
  have key : ∀ t, f (itF f x t) = itF f x t ∨ t ≤ fb_ct (bt (itF f x t)) 30 := by
    intro t
    induction t with
    | zero => exact Or.inr (Nat.zero_le _)
    | succ t ih =>
      rcases ih with ih | ih
      · refine Or.inl ?_
        rw [itF, ih, ih]
      · by_cases e : f (itF f x t) = itF f x t
        · refine Or.inl ?_
          rw [itF, e, e]
        · refine Or.inr ?_
          have h1 := fb_ct_sub (p := bt (itF f x t)) (q := bt (f (itF f x t))) (n := 30) (fun k _ => hm _ k)
          have h2 : fb_ct (bt (f (itF f x t))) 30 ≠ fb_ct (bt (itF f x t)) 30 := fun z => e (sub_eq (itF_hi hf hx t) (hf _ (itF_hi hf hx t)) (fun j => hm _ j) z)
          rw [itF]
          omega
  rcases key 30 with h | h
  · exact h
  · have h0 := fb_ct_le (bt (itF f x 30)) 30
    have h1 := fb_ct_sub (p := bt (itF f x 30)) (q := bt (f (itF f x 30))) (n := 30) (fun k _ => hm _ k)
    have h2 := fb_ct_le (bt (f (itF f x 30))) 30
    exact sub_eq (itF_hi hf hx 30) (hf _ (itF_hi hf hx 30)) (fun j => hm _ j) (by omega)
theorem itF_least {f : Int32 → Int32} {x : Int32} {S : Nat → Prop} (hf : ∀ y, (∀ j, bt y j = true → S j) → ∀ j, bt (f y) j = true → S j) (hx : ∀ j, bt x j = true → S j) : ∀ t j, bt (itF f x t) j = true → S j
  | 0 => hx
  | t + 1 => hf _ (itF_least hf hx t)
/-- one sweep of what is needed -/
def sN (R : Nat → Int32) (x : Int32) : Nat → Int32
  | 0 => x
  | t + 1 => if bt (sN R x t) t = true then sN R x t ||| R t else sN R x t
theorem sN_mono {R : Nat → Int32} {x : Int32} {j : Nat} (h : bt x j = true) : ∀ t, bt (sN R x t) j = true
  | 0 => h
  | t + 1 => by
    rw [sN]
    have := sN_mono (R := R) h t
    split
    · rw [b_or, this]; rfl
    · exact this
theorem sN_up {R : Nat → Int32} {x : Int32} {j t : Nat} (h : bt (sN R x t) j = true) : ∀ m, bt (sN R x (t + m)) j = true
  | 0 => h
  | m + 1 => by
    rw [← Nat.add_assoc, sN]
    have := sN_up h m
    split
    · rw [b_or, this]; rfl
    · exact this
theorem sN_hi {R : Nat → Int32} {x : Int32} (hR : ∀ d, d < 30 → hi0 (R d)) (hx : hi0 x) : ∀ t, t ≤ 30 → hi0 (sN R x t)
  | 0, _ => hx
  | t + 1, ht => by
    have := sN_hi hR hx t (by omega)
    rw [sN]
    split
    · intro j hj
      rw [b_or, this j hj, hR t (by omega) j hj]; rfl
    · exact this
theorem sN_least {R : Nat → Int32} {S : Nat → Prop} (hS : ∀ y z, y < 30 → S y → bt (R y) z = true → S z) {x : Int32} (hx : ∀ j, bt x j = true → S j) : ∀ t, t ≤ 30 → ∀ j, bt (sN R x t) j = true → S j
  | 0, _ => hx
  | t + 1, ht => by
    have ih := sN_least hS hx t (by omega)
    intro j hj
    rw [sN] at hj
    split at hj
    · rename_i hb
      rw [b_or, Bool.or_eq_true] at hj
      rcases hj with hj | hj
      · exact ih j hj
      · exact hS t j (by omega) (ih t hb) hj
    · exact ih j hj
theorem sN_closed {R : Nat → Int32} {x : Int32} (h : sN R x 30 = x) {a b : Nat} (ha : a < 30) (h1 : bt x a = true) (h2 : bt (R a) b = true) : bt x b = true := by
  have e1 := sN_mono (R := R) h1 a
  have e2 : bt (sN R x (a + 1)) b = true := by
    rw [sN, if_pos e1, b_or, h2, Bool.or_true]
  have e3 := sN_up e2 (30 - (a + 1))
  rw [show a + 1 + (30 - (a + 1)) = 30 by omega, h] at e3
  exact e3
def nd (R : Nat → Int32) (c : Nat) : Int32 := itF (fun x => sN R x 30) (R c) 30
theorem c_needed {R : Nat → Int32} {c : Nat} (hc : c < 30) : fX3_neededBy R (nI c) = some (nd R c) := by
  unfold fX3_neededBy
  rw [rdN hc (by omega)]
  refine fr2 (fX3_neededBy_b12 R (nI c)) 30 (fun t l2 l3 => l2 = itF (fun x => sN R x 30) (R c) t ∧ (l3 = 1 ∨ (l3 = 0 ∧ sN R l2 30 = l2))) (fun r => r = some (nd R c)) (by omega) ?_ ?_ fu 0 (R c) 1 (by omega) (by unfold fu; omega) ⟨rfl, Or.inl rfl⟩
  · intro self t l2 l3 ht ⟨i1, i2⟩ hself
    unfold fX3_neededBy_b12
    rcases i2 with rfl | ⟨rfl, i2⟩
    · rw [if_neg (show ¬ (1 : Int32) = 0 by decide), if_neg (ge30 ht)]
      refine fr1 (fX3_neededBy_b29 R (nI c) self (nI t) l2) 30 (fun u x => x = sN R l2 u) (fun r => r = some (nd R c)) (by omega) ?_ ?_ fu 0 l2 (by omega) (by unfold fu; omega) rfl
      · intro self2 u x hu hI hself2
        unfold fX3_neededBy_b29 fX3_neededBy_j55
        rw [if_neg (ge30 hu), has_bt (by omega), nI_1, rdN hu (by omega)]
        refine Eq.trans ?_ (hself2 (sN R l2 (u + 1)) rfl)
        rw [sN, hI]
        split <;> rfl
      · intro self2 x hI
        unfold fX3_neededBy_b29 fX3_neededBy_j72
        rw [if_pos le30, hI, nI_1]
        by_cases e : sN R l2 30 = l2
        · rw [if_pos e]
          exact hself _ _ ⟨by rw [itF, ← i1], Or.inr ⟨rfl, by rw [e, e]⟩⟩
        · rw [if_neg e]
          exact hself _ _ ⟨by rw [itF, ← i1], Or.inl rfl⟩
    · rw [if_pos rfl]
      congr 1
      have := itF_stay (f := fun x => sN R x 30) (x := R c) (t := t) (by rw [← i1]; exact i2) (30 - t)
      rw [show t + (30 - t) = 30 by omega] at this
      rw [i1]; exact this.symm
  · intro self l2 l3 ⟨i1, i2⟩
    unfold fX3_neededBy_b12
    rw [if_pos le30, i1]
    split <;> rfl
theorem m_needs {A : AS} {R mR mN : Nat → Int32} {c : Nat} (hL : AL A) (hR : RB A R) (hM : ML A mR mN) (hc : c < 30) : fX8_needsOf mR mN (nI c) = some (nd R c) := by
  unfold fX8_needsOf
  rw [m_bitsRead hL hR hM hc, bd1_e]
  refine fr1 (fX8_needsOf_b8 mR mN (nI c)) 30 (fun t l2 => l2 = itF (fun x => sN R x 30) (R c) t) (fun r => r = some (nd R c)) (by omega) ?_ ?_ fu 0 (R c) (by omega) (by unfold fu; omega) rfl
  · intro self t l2 ht i1 hself
    unfold fX8_needsOf_b8
    rw [if_neg (ge30 ht)]
    refine fr1 (fX8_needsOf_b17 mR mN (nI c) self (nI t)) 30 (fun u x => x = sN R l2 u) (fun r => r = some (nd R c)) (by omega) ?_ ?_ fu 0 l2 (by omega) (by unfold fu; omega) rfl
    · intro self2 u x hu hI hself2
      unfold fX8_needsOf_b17 fX8_needsOf_j45
      rw [if_neg (ge30 hu), bsel (by omega), nI_1, m_bitsRead hL hR hM hu, bd1_e]
      refine Eq.trans ?_ (hself2 (sN R l2 (u + 1)) rfl)
      rw [sN, hI]
      cases hb : bt (sN R l2 u) u
      · rw [if_neg (show ¬ false = true by decide), if_neg (show ¬ (0 : Int32) = 1 by decide), if_neg (show ¬ false = true by decide), Int32.or_zero]
      · rw [if_pos (show true = true from rfl), if_pos rfl, if_pos (show true = true from rfl)]
    · intro self2 x hI
      unfold fX8_needsOf_b17
      rw [if_pos le30, hI, nI_1]
      exact hself _ (by rw [itF, ← i1])
  · intro self l2 i1
    unfold fX8_needsOf_b8
    rw [if_pos le30, i1]
    rfl
def rdF (R : Nat → Int32) (p : Int32) : Int32 := (fX3_readersOf R p).getD 0
theorem rdF_e {A : AS} {R : Nat → Int32} (p : Int32) (hL : AL A) (hR : RB A R) : fX3_readersOf R p = some (rdF R p) ∧ (∀ d, d < 30 → (bt (rdF R p) d = true ↔ ∃ e, e < 32 ∧ bt (R d) e = true ∧ bt p e = true)) ∧ hi0 (rdF R p) := by
  obtain ⟨x, h1, h2, h3⟩ := c_readers p hL hR
  have : rdF R p = x := by unfold rdF; rw [h1]; rfl
  rw [this]
  exact ⟨h1, h2, h3⟩
def hg (R : Nat → Int32) (c : Nat) : Int32 := itF (fun x => x ||| rdF R x) (rdF R (bI c)) 30
theorem c_hanging {A : AS} {R : Nat → Int32} {c : Nat} (hL : AL A) (hR : RB A R) : fX3_hangingOn R (nI c) = some (hg R c) := by
  unfold fX3_hangingOn
  rw [f_bit, bd1_e, (rdF_e (bI c) hL hR).1, bd1_e]
  refine fr2 (fX3_hangingOn_b14 R (nI c)) 30 (fun t l2 l3 => l2 = itF (fun x => x ||| rdF R x) (rdF R (bI c)) t ∧ (l3 = 1 ∨ (l3 = 0 ∧ l2 ||| rdF R l2 = l2))) (fun r => r = some (hg R c)) (by omega) ?_ ?_ fu 0 (rdF R (bI c)) 1 (by omega) (by unfold fu; omega) ⟨rfl, Or.inl rfl⟩
  · intro self t l2 l3 ht ⟨i1, i2⟩ hself
    unfold fX3_hangingOn_b14 fX3_hangingOn_j47
    rcases i2 with rfl | ⟨rfl, i2⟩
    · rw [if_neg (show ¬ (1 : Int32) = 0 by decide), if_neg (ge30 ht), (rdF_e l2 hL hR).1, bd1_e, nI_1]
      by_cases e : l2 ||| rdF R l2 = l2
      · rw [if_pos e]
        exact hself _ _ ⟨by rw [itF, ← i1], Or.inr ⟨rfl, by rw [e, e]⟩⟩
      · rw [if_neg e]
        exact hself _ _ ⟨by rw [itF, ← i1], Or.inl rfl⟩
    · rw [if_pos rfl]
      congr 1
      have := itF_stay (f := fun x => x ||| rdF R x) (x := rdF R (bI c)) (t := t) (by rw [← i1]; exact i2) (30 - t)
      rw [show t + (30 - t) = 30 by omega] at this
      rw [i1]; exact this.symm
  · intro self l2 l3 ⟨i1, i2⟩
    unfold fX3_hangingOn_b14
    rw [if_pos le30, i1]
    split <;> rfl
theorem nd_all {A : AS} {R : Nat → Int32} {o : Nat} (hL : AL A) (hR : RB A R) (ho : o < 30) : (∀ y, bt (R o) y = true → bt (nd R o) y = true) ∧ (∀ y z, y < 30 → bt (nd R o) y = true → bt (R y) z = true → bt (nd R o) z = true) ∧ hi0 (nd R o) ∧ (∀ S : Nat → Prop, (∀ y, bt (R o) y = true → S y) → (∀ y z, y < 30 → S y → bt (R y) z = true → S z) → ∀ y, bt (nd R o) y = true → S y) := by
  have hRh : ∀ d, d < 30 → hi0 (R d) := fun d hd j hj => RB_hi hL hR hd hj
  have hm : ∀ y j, bt y j = true → bt (sN R y 30) j = true := fun y j h => sN_mono h 30
  have hf : ∀ y, hi0 y → hi0 (sN R y 30) := fun y h => sN_hi hRh h 30 (Nat.le_refl _)
  have st := itF_stable (f := fun x => sN R x 30) hm hf (hRh o ho)
  exact ⟨fun y h => itF_mono (f := fun x => sN R x 30) hm h 30, fun y z hy h1 h2 => sN_closed st hy h1 h2, itF_hi (f := fun x => sN R x 30) hf (hRh o ho) 30, fun S h1 h2 => itF_least (f := fun x => sN R x 30) (fun y h => sN_least h2 h 30 (Nat.le_refl _)) h1 30⟩
theorem hg_all {A : AS} {R : Nat → Int32} {c : Nat} (hL : AL A) (hR : RB A R) (hc : c < 30) : (∀ o, o < 30 → bt (R o) c = true → bt (hg R c) o = true) ∧ (∀ y z, z < 30 → bt (hg R c) y = true → bt (R z) y = true → bt (hg R c) z = true) ∧ hi0 (hg R c) ∧ (∀ S : Nat → Prop, (∀ o, o < 30 → bt (R o) c = true → S o) → (∀ y z, z < 30 → S y → bt (R z) y = true → S z) → ∀ o, bt (hg R c) o = true → S o) := by
  have hm : ∀ y j, bt y j = true → bt (y ||| rdF R y) j = true := fun y j h => by rw [b_or, h]; rfl
  have hf : ∀ y, hi0 y → hi0 (y ||| rdF R y) := fun y h j hj => by rw [b_or, h j hj, (rdF_e y hL hR).2.2 j hj]; rfl
  obtain ⟨_, r2, r3⟩ := rdF_e (bI c) hL hR
  have st := itF_stable (f := fun x => x ||| rdF R x) hm hf r3
  have lt32 : ∀ {x : Int32} {j : Nat}, bt x j = true → j < 32 := fun {x j} h => by
    by_cases e : j < 32
    · exact e
    · rw [b_big (by omega)] at h; cases h
  refine ⟨fun o ho h => itF_mono (f := fun x => x ||| rdF R x) hm ((r2 o ho).mpr ⟨c, by omega, h, by rw [bt_bI c (by omega) c (by omega), decide_eq_true rfl]⟩) 30, fun y z hz h1 h2 => ?_, itF_hi (f := fun x => x ||| rdF R x) hf r3 30, fun S h1 h2 => itF_least (f := fun x => x ||| rdF R x) (fun y h j hj => ?_) (fun j hj => ?_) 30⟩
  · have e1 : bt (rdF R (hg R c)) z = true := ((rdF_e (hg R c) hL hR).2.1 z hz).mpr ⟨y, lt32 h2, h2, h1⟩
    have e2 : hg R c ||| rdF R (hg R c) = hg R c := st
    rw [← e2, b_or, e1, Bool.or_true]
  · rw [b_or, Bool.or_eq_true] at hj
    rcases hj with hj | hj
    · exact h j hj
    · have hj30 : j < 30 := by
        by_cases e : j < 30
        · exact e
        · rw [(rdF_e y hL hR).2.2 j (by omega)] at hj; cases hj
      obtain ⟨e, he, q1, q2⟩ := ((rdF_e y hL hR).2.1 j hj30).mp hj
      exact h2 e j hj30 (h e q2) q1
  · have hj30 : j < 30 := by
      by_cases e : j < 30
      · exact e
      · rw [r3 j (by omega)] at hj; cases hj
    obtain ⟨e, he, q1, q2⟩ := (r2 j hj30).mp hj
    rw [bt_bI c (by omega) e he, decide_eq_true_iff] at q2
    exact h1 j hj30 (q2 ▸ q1)
theorem nd_hg {A : AS} {R : Nat → Int32} {o c : Nat} (hL : AL A) (hR : RB A R) (ho : o < 30) (hc : c < 30) : bt (hg R c) o = true ↔ bt (nd R o) c = true := by
  have lt30 : ∀ {d j : Nat}, d < 30 → bt (R d) j = true → j < 30 := fun {d j} hd h => by
    by_cases e : j < 30
    · exact e
    · rw [RB_hi hL hR hd (by omega)] at h; cases h
  constructor
  · intro h
    refine ((hg_all hL hR hc).2.2.2 (fun o => o < 30 ∧ bt (nd R o) c = true) (fun o ho h => ⟨ho, (nd_all hL hR ho).1 c h⟩) (fun y z hz hy h => ⟨hz, ?_⟩) o h).2
    refine (nd_all hL hR hy.1).2.2.2 (fun x => bt (nd R z) x = true) (fun x hx => ?_) (fun a b ha h1 h2 => (nd_all hL hR hz).2.1 a b ha h1 h2) c hy.2
    exact (nd_all hL hR hz).2.1 y x hy.1 ((nd_all hL hR hz).1 y h) hx
  · intro h
    refine ((nd_all hL hR ho).2.2.2 (fun y => y < 30 ∧ bt (hg R y) o = true) (fun y hy => ⟨lt30 ho hy, (hg_all hL hR (lt30 ho hy)).1 o ho hy⟩) (fun y z hy hs hz => ⟨lt30 hy hz, ?_⟩) c h).2
    have hz30 := lt30 hy hz
    refine (hg_all hL hR hy).2.2.2 (fun x => bt (hg R z) x = true) (fun q hq h3 => ?_) (fun a b hb h1 h2 => (hg_all hL hR hz30).2.1 a b hb h1 h2) o hs.2
    exact (hg_all hL hR hz30).2.1 y q hq ((hg_all hL hR hz30).1 y hy hz) h3
