/-! A CHANGE: what moved, what was evaluated -/
def mvB (F F' : Fo) (d : Nat) : Bool := (aT (fin F) d ^^ aT (fin F') d) || ((aT (fin F) d && aT (fin F') d) && !decide (aV (fin F) d = aV (fin F') d))
def mvS (F F' : Fo) (x : Int32) : Prop := (∀ d, d < 30 → bt x d = mvB F F' d) ∧ hi0 x
theorem mvS_one {F F' : Fo} {x y : Int32} (h : mvS F F' x) (h' : mvS F F' y) : x = y := b_ext (fun i _ => by
  by_cases e : i < 30
  · rw [h.1 i e, h'.1 i e]
  · rw [h.2 i (by omega), h'.2 i (by omega)])
theorem c_moved {F F' : Fo} {n : RKT} {V' H' R' W' : Nat → Int32} {kn' : Int32} (hN : NR F n) (hR : CR (fin F') V' H' R' W' kn') : ∃ x, fX3_movedTo (rkV n) (rkK n) V' kn' = some x ∧ mvS F F' x := by
  unfold fX3_movedTo
  have hx : ∀ d, d < 30 → bt (rkK n ^^^ kn') d = (aT (fin F) d ^^ aT (fin F') d) := fun d hd => by rw [b_xor, hN.1.1 d hd, hR.1 d hd]
  have hh : hi0 (rkK n ^^^ kn') := fun d hd => by rw [b_xor, hN.1.2.1 d hd, hR.2.1 d hd]; rfl
  refine fr1 (fX3_movedTo_b12 (rkV n) (rkK n) V' kn') 30 (fun t l => (∀ d, d < t → bt l d = mvB F F' d) ∧ (∀ d, t ≤ d → bt l d = bt (rkK n ^^^ kn') d)) (fun r => ∃ x, r = some x ∧ mvS F F' x) (by omega) ?_ ?_ fu 0 _ (by omega) (by unfold fu; omega) ⟨fun d hd => by omega, fun d _ => rfl⟩
  · intro self t l ht ⟨i1, i2⟩ hself
    unfold fX3_movedTo_b12 fX3_movedTo_j56
    rw [if_neg (ge30 ht), has_bt (by omega), b_and, ← hN.1.1 t ht, ← hR.1 t ht, nI_1, rdN ht (by omega), rdN ht (by omega)]
    have stay : mvB F F' t = (aT (fin F) t ^^ aT (fin F') t) → (∀ d, d < t + 1 → bt l d = mvB F F' d) ∧ (∀ d, t + 1 ≤ d → bt l d = bt (rkK n ^^^ kn') d) := fun h => ⟨fun d hd => by
      by_cases e : d = t
      · rw [e, i2 t (Nat.le_refl _), hx t ht, h]
      · exact i1 d (by omega), fun d hd => i2 d (by omega)⟩
    by_cases hb : (aT (fin F) t && aT (fin F') t) = true
    · rw [if_pos hb]
      have hb2 := Bool.and_eq_true_iff.mp hb
      rw [(hN.1.2.2.1 t ht hb2.1).1, (hR.2.2.1 t ht hb2.2).1]
      by_cases e : aV (fin F) t = aV (fin F') t
      · rw [if_pos e]
        exact hself _ (stay (by unfold mvB; rw [decide_eq_true e, hb2.1, hb2.2]; rfl))
      · rw [if_neg e, f_bit, bd1_e]
        refine hself _ ⟨fun d hd => ?_, fun d hd => ?_⟩
        · rw [b_or, bt_bI t (by omega) d (by omega)]
          by_cases z : d = t
          · rw [z, decide_eq_true rfl, Bool.or_true]
            unfold mvB
            rw [decide_eq_false e, hb2.1, hb2.2]; rfl
          · rw [decide_eq_false z, Bool.or_false]
            exact i1 d (by omega)
        · by_cases z : d < 32
          · rw [b_or, bt_bI t (by omega) d z, decide_eq_false (by omega), Bool.or_false]
            exact i2 d (by omega)
          · rw [b_big (by omega), b_big (by omega)]
    · rw [if_neg hb]
      refine hself _ (stay ?_)
      unfold mvB
      have : (aT (fin F) t && aT (fin F') t) = false := by cases h9 : (aT (fin F) t && aT (fin F') t) <;> simp_all
      rw [this, Bool.false_and, Bool.or_false]
  · intro self l ⟨i1, i2⟩
    unfold fX3_movedTo_b12
    rw [if_pos le30]
    exact ⟨l, rfl, i1, fun d hd => by rw [i2 d hd]; exact hh d hd⟩
abbrev C13 : Type := (Nat → Int32) × (Nat → Int32) × (Nat → Int32) × (Nat → Int32) × (Nat → Int32) × (Nat → Int32) × (Nat → Int32) × Int32 × (Nat → Int32) × (Nat → Int32) × (Nat → Int32) × Int32 × Int32
theorem m_ch4 {A : AS} {g st a b w e m h ov ot or' R : Nat → Int32} {c : Nat} {s mv : Int32} (hc : c < 30) (hL : AL A) (hR : RB A R) (ho : ∀ d, d < 30 → or' d = R d) : lq2 (fX8_changes_b180 g (nI c) st a b w e m h s ov ot or' mv) fu (bI c) 0 = some (st, a, b, w, e, m, h, s, ov, ot, or', rdF R mv ||| bI c, mv) := by
  obtain ⟨_, r2, r3⟩ := rdF_e mv hL hR
  refine fr1 (fX8_changes_b180 g (nI c) st a b w e m h s ov ot or' mv) 30 (fun t l => (∀ d, d < t → bt l d = bt (rdF R mv ||| bI c) d) ∧ (∀ d, t ≤ d → bt l d = bt (bI c) d)) (fun r => r = some (st, a, b, w, e, m, h, s, ov, ot, or', rdF R mv ||| bI c, mv)) (by omega) ?_ ?_ fu 0 (bI c) (by omega) (by unfold fu; omega) ⟨fun d hd => by omega, fun d _ => rfl⟩
  · intro self t l ht ⟨i1, i2⟩ hself
    unfold fX8_changes_b180 fX8_changes_j212
    rw [if_neg (ge30 ht), rdN ht (by omega), ho t ht, nI_1]
    by_cases z : R t &&& mv = 0
    · rw [if_pos z, Int32.or_zero]
      refine hself _ ⟨fun d hd => ?_, fun d hd => i2 d (by omega)⟩
      by_cases y : d = t
      · have : bt (rdF R mv) t = false := by
          cases q : bt (rdF R mv) t
          · rfl
          · obtain ⟨e, he, q1, q2⟩ := (r2 t ht).mp q
            exact absurd ⟨q1, q2⟩ ((and_zero _ _).mp z e he)
        rw [y, i2 t (Nat.le_refl _), b_or, this, Bool.false_or]
      · exact i1 d (by omega)
    · rw [if_neg z, show (1 : Int32) <<< (nI t &&& 31) = bI t from rfl]
      refine hself _ ⟨fun d hd => ?_, fun d hd => ?_⟩
      · by_cases y : d = t
        · have : bt (rdF R mv) t = true := by
            refine (r2 t ht).mpr ?_
            by_cases q : ∃ e, e < 32 ∧ bt (R t) e = true ∧ bt mv e = true
            · exact q
            · exact absurd ((and_zero _ _).mpr (fun y hy z => q ⟨y, hy, z.1, z.2⟩)) z
          rw [y, b_or, b_or, this, bt_bI t (by omega) t (by omega), decide_eq_true rfl, Bool.or_true, Bool.true_or]
        · rw [b_or, bt_bI t (by omega) d (by omega), decide_eq_false y, Bool.or_false]
          exact i1 d (by omega)
      · by_cases y : d < 32
        · rw [b_or, bt_bI t (by omega) d y, decide_eq_false (by omega), Bool.or_false]
          exact i2 d (by omega)
        · rw [b_big (by omega), b_big (by omega)]
  · intro self l ⟨i1, i2⟩
    unfold fX8_changes_b180
    rw [if_pos le30]
    have : l = rdF R mv ||| bI c := b_ext (fun i hi => by
      by_cases y : i < 30
      · exact i1 i y
      · rw [i2 i (by omega), b_or, r3 i (by omega), Bool.false_or])
    rw [this]
theorem m_ch3 {F F' : Fo} {g st a b w e m h ov ot or' oa ob ow oe om oh : Nat → Int32} {c : Nat} {s ev mv : Int32} (hO : MR (fin F) oa ob ow oe om oh) (hM : MR (fin F') a b w e m h) (h1 : ∀ d, d < 30 → ov d = oa d) (h2 : ∀ d, d < 30 → ot d = ob d) (hmv : mvS F F' mv) : lq2 (fX8_changes_b94 g (nI c) st a b w e m h s ov ot or' ev) fu 0 0 = lq2 (fX8_changes_b180 g (nI c) st a b w e m h s ov ot or' mv) fu (bI c) 0 := by
  refine fr1 (fX8_changes_b94 g (nI c) st a b w e m h s ov ot or' ev) 30 (fun t l => (∀ d, d < t → bt l d = mvB F F' d) ∧ (∀ d, t ≤ d → bt l d = false)) (fun r => r = lq2 (fX8_changes_b180 g (nI c) st a b w e m h s ov ot or' mv) fu (bI c) 0) (by omega) ?_ ?_ fu 0 0 (by omega) (by unfold fu; omega) ⟨fun d hd => by omega, fun d _ => b_0 d⟩
  · intro self t l ht ⟨i1, i2⟩ hself
    unfold fX8_changes_b94 fX8_changes_j143 fX8_changes_j139 fX8_changes_j144 fX8_changes_j161
    rw [if_neg (ge30 ht), if_pos (show (0 : Int32) = 0 from rfl), if_neg (show ¬ (1 : Int32) = 0 by decide), Int32.or_zero, show (1 : Int32) <<< (nI t &&& 31) = bI t from rfl, nI_1, rdN ht (by omega), rdN ht (by omega), h2 t ht, hO.1 t ht, hM.1 t ht, rdN ht (by omega), hM.1 t ht, rdN ht (by omega), rdN ht (by omega), h1 t ht]
    have no : mvB F F' t = false → self l (nI (t + 1)) = lq2 (fX8_changes_b180 g (nI c) st a b w e m h s ov ot or' mv) fu (bI c) 0 := fun hb => hself _ ⟨fun d hd => by
      by_cases y : d = t
      · rw [y, i2 t (Nat.le_refl _), hb]
      · exact i1 d (by omega), fun d hd => i2 d (by omega)⟩
    have yes : mvB F F' t = true → self (l ||| bI t) (nI (t + 1)) = lq2 (fX8_changes_b180 g (nI c) st a b w e m h s ov ot or' mv) fu (bI c) 0 := fun hb => hself _ ⟨fun d hd => by
      rw [b_or, bt_bI t (by omega) d (by omega)]
      by_cases y : d = t
      · rw [y, decide_eq_true rfl, Bool.or_true, hb]
      · rw [decide_eq_false y, Bool.or_false]; exact i1 d (by omega), fun d hd => by
      by_cases y : d < 32
      · rw [b_or, bt_bI t (by omega) d y, decide_eq_false (by omega), Bool.or_false]; exact i2 d (by omega)
      · exact b_big (by omega)⟩
    cases hT : aT (fin F) t <;> cases hT' : aT (fin F') t
    · rw [if_neg (show ¬ false = true by decide), if_pos rfl, if_pos rfl]
      exact no (by unfold mvB; rw [hT, hT']; rfl)
    · rw [if_neg (show ¬ false = true by decide), if_pos (show true = true from rfl), if_neg (show ¬ (0 : Int32) = 1 by decide)]
      exact yes (by unfold mvB; rw [hT, hT']; rfl)
    · rw [if_neg (show ¬ false = true by decide), if_pos (show true = true from rfl), if_neg (show ¬ (1 : Int32) = 0 by decide)]
      exact yes (by unfold mvB; rw [hT, hT']; rfl)
    · rw [if_pos (show true = true from rfl), if_pos rfl, if_neg (show ¬ (1 : Int32) = 0 by decide), (hM.2.1 t ht hT').1, (hO.2.1 t ht hT).1]
      by_cases y : aV (fin F') t = aV (fin F) t
      · rw [if_pos y]
        exact no (by unfold mvB; rw [hT, hT', decide_eq_true y.symm]; rfl)
      · rw [if_neg y]
        exact yes (by unfold mvB; rw [hT, hT', decide_eq_false (fun z => y z.symm)]; rfl)
  · intro self l hI
    unfold fX8_changes_b94
    rw [if_pos le30, mvS_one (F := F) (F' := F') hI hmv]
    rfl
theorem m_ch2 {F : Fo} {g st a b w e m h ov ot or' : Nat → Int32} {c : Nat} {f : Fq} {s ev mv : Int32} (hP : PM F st 0) (hg : FM f g) (hc : c < 30) : ∃ st', lq2 (fX8_changes_b55 g (nI c) a b w e m h s ov ot or' ev mv) fu st 0 = (bd6 (fX8_settles st' a b w e m h) fun a b w e m h => lq2 (fX8_changes_b94 g (nI c) st' a b w e m h s ov ot or' ev) fu 0 0) ∧ PM (up F c f) st' 0 ∧ ∀ k, 120 ≤ k → st' k = st k := by
  refine fr1 (fX8_changes_b55 g (nI c) a b w e m h s ov ot or' ev mv) 4 (fun t x => (∀ j, j < t → x (30 * j + c) = g j) ∧ (∀ k, (∀ j, j < t → k ≠ 30 * j + c) → x k = st k)) (fun r => ∃ st', r = (bd6 (fX8_settles st' a b w e m h) fun a b w e m h => lq2 (fX8_changes_b94 g (nI c) st' a b w e m h s ov ot or' ev) fu 0 0) ∧ PM (up F c f) st' 0 ∧ ∀ k, 120 ≤ k → st' k = st k) (by omega) ?_ ?_ fu 0 st (by omega) (by unfold fu; omega) ⟨fun j hj => by omega, fun k _ => rfl⟩
  · intro self t x ht ⟨i1, i2⟩ hself
    unfold fX8_changes_b55
    rw [if_neg (show ¬ (4 : Int32) ≤ nI t from nI_ge (b := 4) ht (by omega)), rdN ht (by omega), show (30 : Int32) = nI 30 from rfl, pk_mul, nI_add, wrN (by omega) (by omega), nI_1]
    refine hself _ ⟨fun j hj => ?_, fun k hk => ?_⟩
    · by_cases y : j = t
      · rw [y, us]
      · rw [un _ _ (by omega)]; exact i1 j (by omega)
    · rw [un _ _ (hk t (by omega))]
      exact i2 k (fun j hj => hk j (by omega))
  · intro self x ⟨i1, i2⟩
    unfold fX8_changes_b55
    rw [if_pos (show (4 : Int32) ≤ nI 4 by decide)]
    refine ⟨x, rfl, fun d hd => ?_, fun k hk => i2 k (fun j hj => by omega)⟩
    by_cases y : d = c
    · subst y
      rw [up_s]
      have j0 := i1 0 (by omega)
      have j1 := i1 1 (by omega)
      have j2 := i1 2 (by omega)
      have j3 := i1 3 (by omega)
      refine ⟨?_, ?_, ?_, ?_⟩
      · rw [show 0 + d = 30 * 0 + d by omega, j0]; exact hg.1
      · rw [show 0 + 30 + d = 30 * 1 + d by omega, j1]; exact hg.2.1
      · rw [show 0 + 60 + d = 30 * 2 + d by omega, j2]; exact hg.2.2.1
      · rw [show 0 + 90 + d = 30 * 3 + d by omega, j3]; exact hg.2.2.2
    · rw [up_n _ _ y, i2 _ (fun j hj => by omega), i2 _ (fun j hj => by omega), i2 _ (fun j hj => by omega), i2 _ (fun j hj => by omega)]
      exact hP d hd
theorem m_ch1 {F : Fo} {g st a b w e m h ov ot or' R : Nat → Int32} {c : Nat} {s ev mv : Int32} (hF : VFs F) (hM : MR (fin F) a b w e m h) (hR : RB (fin F) R) : ∃ ov' ot' or'', lq4 (fX8_changes_b6 g (nI c) st a b w e m h s ev mv) fu ov ot or' 0 = lq2 (fX8_changes_b55 g (nI c) a b w e m h s ov' ot' or'' ev mv) fu st 0 ∧ (∀ d, d < 30 → ov' d = a d) ∧ (∀ d, d < 30 → ot' d = b d) ∧ (∀ d, d < 30 → or'' d = R d) := by
  refine fr3 (fX8_changes_b6 g (nI c) st a b w e m h s ev mv) 30 (fun t x y z => (∀ d, d < t → x d = a d) ∧ (∀ d, d < t → y d = b d) ∧ (∀ d, d < t → z d = R d)) (fun r => ∃ ov' ot' or'', r = lq2 (fX8_changes_b55 g (nI c) a b w e m h s ov' ot' or'' ev mv) fu st 0 ∧ (∀ d, d < 30 → ov' d = a d) ∧ (∀ d, d < 30 → ot' d = b d) ∧ (∀ d, d < 30 → or'' d = R d)) (by omega) ?_ ?_ fu 0 ov ot or' (by omega) (by unfold fu; omega) ⟨fun d hd => by omega, fun d hd => by omega, fun d hd => by omega⟩
  · intro self t x y z ht ⟨i1, i2, i3⟩ hself
    unfold fX8_changes_b6
    have hb : vp_nar FieldType.boolean (b t) = b t := by
      rw [hM.1 t ht]
      cases aT (fin F) t <;> rfl
    rw [if_neg (ge30 ht), rdN ht (by omega), wrN ht (by omega), rdN ht (by omega), wrN ht (by omega), m_bitsRead (AL_fin hF) hR (ML_of hF hM) ht, bd1_e, wrN ht (by omega), nI_1, hb]
    have ext : ∀ (u v : Nat → Int32), (∀ d, d < t → u d = v d) → ∀ d, d < t + 1 → upd u t (v t) d = v d := fun u v h d hd => by
      by_cases q : d = t
      · rw [q, us]
      · rw [un _ _ q]; exact h d (by omega)
    exact hself _ _ _ ⟨ext x a i1, ext y b i2, ext z R i3⟩
  · intro self x y z hI
    unfold fX8_changes_b6
    rw [if_pos le30]
    exact ⟨x, y, z, rfl, hI⟩
theorem VFs_up {F : Fo} {c : Nat} {f : Fq} (hF : VFs F) (hf : VF f) : VFs (up F c f) := fun d hd => by
  unfold up
  split
  · exact hf
  · exact hF d hd
theorem m_changes {F : Fo} {g st mV mT mW mR mN mH ov ot or' R : Nat → Int32} {c : Nat} {f : Fq} {s ev0 mv0 mv : Int32} (hP : PM F st 0) (hF : VFs F) (hS : MRS F mV mT mW mR mN mH s) (hg : FM f g) (hf : VF f) (hc : c < 30) (hR : RB (fin F) R) (hmv : mvS F (up F c f) mv) :
    ∃ st' a b w e m h x y z, fX8_changes st mV mT mW mR mN mH s ov ot or' ev0 mv0 g (nI c) = some (st', a, b, w, e, m, h, 1, x, y, z, rdF R mv ||| bI c, mv) ∧ PM (up F c f) st' 0 ∧ (∀ k, 120 ≤ k → st' k = st k) ∧ MR (fin (up F c f)) a b w e m h := by
  unfold fX8_changes
  obtain ⟨a, b, w, e, m, h, h1, h2⟩ := m_starts hP hF hS
  rw [h1, bd7_e]
  obtain ⟨ov', ot', or'', h3, h4, h5, h6⟩ := m_ch1 (g := g) (st := st) (ov := ov) (ot := ot) (or' := or') (c := c) (s := 1) (ev := ev0) (mv := mv0) hF h2 hR
  obtain ⟨st', h7, h8, h9⟩ := m_ch2 (a := a) (b := b) (w := w) (e := e) (m := m) (h := h) (ov := ov') (ot := ot') (or' := or'') (s := 1) (ev := ev0) (mv := mv0) hP hg hc
  obtain ⟨a', b', w', e', m', g', k1, k2⟩ := m_settles h8 (VFs_up hF hf) a b w e m h
  rw [h3, h7, k1, bd6_e, m_ch3 h2 k2 h4 h5 hmv, m_ch4 hc (AL_fin hF) hR h6]
  exact ⟨_, _, _, _, _, _, _, _, _, _, rfl, h8, h9, k2⟩
theorem m_bitsOf {x : Int32} (hx : hi0 x) : fX8_bitsOf x = some (nI (pop x)) := by
  rw [pop30 hx]
  unfold fX8_bitsOf
  refine fr1 (fX8_bitsOf_b4 x) 30 (fun t l => l = nI (fb_ct (bt x) t)) (fun r => r = some (nI (fb_ct (bt x) 30))) (by omega) ?_ ?_ fu 0 0 (by omega) (by unfold fu; omega) rfl
  · intro self t l ht hI hself
    unfold fX8_bitsOf_b4
    rw [if_neg (ge30 ht), bsel (by omega), nI_1, hI]
    cases hb : bt x t
    · rw [if_neg (show ¬ false = true by decide), Int32.add_zero]
      refine hself _ ?_
      rw [fb_ct_succ, hb]; rfl
    · rw [if_pos (show true = true from rfl), nI_1]
      refine hself _ ?_
      rw [fb_ct_succ, hb]; rfl
  · intro self l hI
    unfold fX8_bitsOf_b4
    rw [if_pos le30, hI]
