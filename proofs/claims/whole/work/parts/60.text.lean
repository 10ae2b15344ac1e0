/-! TEXT: all lines, and the call -/
theorem text_j {by_ tp en le : Nat → Int32} {tb : Nat → Nat} {T : Nat} {ft ic um : Int32} {mV mT mW mR mN mH ik : Nat → Int32} (h : TP by_ tp tb T) (hE : EL en le) : ∀ r z, T + 1 ≤ z + r → ∀ k1 k2, r < k1 → r + 1 < k2 → ∀ (x y C N l : Nat) (tm nm : Int32) (G : Fo) (d st : Nat → Int32) (n ba : Int32), l ≤ z → VFs G → PC G d → PM G st 360 → TOK by_ tp T x y z C N tm nm →
    (∃ (d' : Nat → Int32) (l' : Nat) (e a : Int32) (z' : Nat) (tc n' : Int32) (st' : Nat → Int32) (sp he tm' nm' l2 : Int32), (e = 1 ∨ e = 2 ∨ e = 3) ∧ lq7 (fX6_takesAll_b25 by_ (nI T)) k1 d (nI l) 0 (nI y) (nI z) (nI C) n = some (0, d', nI l', e, a, nI z', tc, n') ∧ lq8 (fX8_text_b41 tp en le (nI T) ft mV mT mW mR mN mH ic um ik) k2 st (brC C) (baC C z ba) (nI y) (nI z) tm nm (nI l) = fX8_text_j65 tp en le st' (nI T) ft e (nI z') sp he tm' nm' mV mT mW mR mN mH ic um ik l2 ∧ ∀ j, (j < 360 ∨ 480 ≤ j) → st' j = st j) ∨
    (∃ (G' : Fo) (d' : Nat → Int32) (l' : Nat) (a s t n' : Int32) (st' : Nat → Int32) (ba' sp he tm' nm' : Int32), VFs G' ∧ PC G' d' ∧ PM G' st' 360 ∧ lq7 (fX6_takesAll_b25 by_ (nI T)) k1 d (nI l) 0 (nI y) (nI z) (nI C) n = some (1, d', nI l', 0, a, s, t, n') ∧ lq8 (fX8_text_b41 tp en le (nI T) ft mV mT mW mR mN mH ic um ik) k2 st (brC C) (baC C z ba) (nI y) (nI z) tm nm (nI l) = fX8_text_j65 tp en le st' (nI T) ft 0 ba' sp he tm' nm' mV mT mW mR mN mH ic um ik (nI l') ∧ ∀ j, (j < 360 ∨ 480 ≤ j) → st' j = st j) := by
  have hT := h.1
  intro r
  induction r with
  | zero =>
    intro z hz k1 k2 hk1 hk2 x y C N l tm nm G d st n ba hl hG hP hM hK
    have := hK.2.1
    have := hK.2.2.1
    omega
  | succ r ih =>
    intro z hz k1 k2 hk1 hk2 x y C N l tm nm G d st n ba hl hG hP hM hK
    obtain ⟨k1, rfl⟩ : ∃ q, k1 = q + 1 := ⟨k1 - 1, by omega⟩
    obtain ⟨k2, rfl⟩ : ∃ q, k2 = q + 1 + 1 := ⟨k2 - 2, by omega⟩
    have hK' := hK
    obtain ⟨t1, t2, t3, t4, t5, t6, t7, t8, t9⟩ := hK'
    rw [lq7_s, lq8_s]
    by_cases e0 : C = 0
    · subst e0
      refine Or.inr ⟨G, d, l, nI y, nI z, nI 0, n, st, baC 0 z ba, nI y, nI z, tm, nm, hG, hP, hM, ?_, ?_, fun _ _ => rfl⟩
      · unfold fX6_takesAll_b25
        rw [if_pos (show nI 0 = 0 from rfl)]
      · unfold fX8_text_b41
        rw [show brC 0 = 0 from rfl, if_pos (show (0 : Int32) = 0 from rfl), if_pos (show tm = 0 from t7 (by omega))]
    · have n0 : ¬ nI C = 0 := nI_ne0 (by omega) (by omega)
      have hzy := t5 e0
      have h320 : ¬ (320 : Int32) ≤ nI l := nI_ge (b := 320) (by omega) (by omega)
      have hcl : fX6_takesAll_b25 by_ (nI T) (lq7 (fX6_takesAll_b25 by_ (nI T)) k1) d (nI l) 0 (nI y) (nI z) (nI C) n = (bd7 (fX6_takesLine d 0 by_ (nI T) (nI y) (nI z) (nI C) n) fun r44 d f a s t n => if r44 = (0 : Int32) then some ((0 : Int32), d, nI l, f, a, s, t, n) else bd4 (fX5_nextToken by_ (nI T) a s t n) fun a s t n => lq7 (fX6_takesAll_b25 by_ (nI T)) k1 d (nI (l + 1)) f a s t n) := by
        generalize lq7 (fX6_takesAll_b25 by_ (nI T)) k1 = self
        unfold fX6_takesAll_b25
        rw [if_neg n0, if_neg h320, nI_1]
      rw [hcl]
      by_cases e4 : C = 4
      · subst e4
        refine Or.inl ⟨d, l, 1, nI y, z, nI 4, n, st, nI y, nI z, tm, nm, nI l, Or.inl rfl, ?_, ?_, fun _ _ => rfl⟩
        · unfold fX6_takesLine fX6_fails fX6_fails_j14
          rw [c_kind0 (show ¬ nI 4 = 1 by decide), bd1_e, if_pos (show (0 : Int32) = 0 from rfl), if_pos (show nI 4 = 4 from rfl), bd2_e, ckT (Or.inl rfl), bd7_e, if_pos (show (0 : Int32) = 0 from rfl)]
        · unfold fX8_text_b41
          rw [show brC 4 = 1 from rfl, if_neg (show ¬ (1 : Int32) = 0 by decide)]
          rfl
      · have hne : ¬ tm = 0 := by rw [t7 e4]; exact n0
        have hml : fX8_text_b41 tp en le (nI T) ft mV mT mW mR mN mH ic um ik (lq8 (fX8_text_b41 tp en le (nI T) ft mV mT mW mR mN mH ic um ik) (k2 + 1)) st (brC C) (baC C z ba) (nI y) (nI z) tm nm (nI l) = (bd7 (fX8_readLine st tp (nI T) 0 ba (nI y) (nI z) tm nm en le) fun st br ba sp he tm nm => lq8 (fX8_text_b41 tp en le (nI T) ft mV mT mW mR mN mH ic um ik) (k2 + 1) st br ba sp he tm nm (nI (l + 1))) := by
          generalize lq8 (fX8_text_b41 tp en le (nI T) ft mV mT mW mR mN mH ic um ik) (k2 + 1) = self
          unfold fX8_text_b41
          rw [show brC C = 0 from if_neg e4, show baC C z ba = ba from if_neg e4, if_pos (show (0 : Int32) = 0 from rfl), if_neg hne, nI_1]
        rw [hml]
        rcases line h hE hG hP hM hK e4 0 n ba with ⟨d', e, a, z', tc, n', st', sp, he, tm', nm', q1, q2, q3, q4⟩ | ⟨G', d', st', x', s, t, n', y2, z2, C2, N2, tm2, nm2, ba', q1, q2, q3, q4, q5, q6, q7, q8, q9⟩
        · refine Or.inl ⟨d', l, e, a, z', tc, n', st', sp, he, tm', nm', nI (l + 1), q1, ?_, ?_, q4⟩
          · rw [q2, bd7_e, if_pos (show (0 : Int32) = 0 from rfl)]
          · rw [q3, bd7_e, lq8_s]
            unfold fX8_text_b41
            rw [if_neg (by rcases q1 with rfl | rfl | rfl <;> decide)]
        · obtain ⟨n2, a1, a2⟩ := q7.2.2.2.2.2.2.2.1 s t n'
          rw [q6, bd7_e, if_neg (show ¬ (1 : Int32) = 0 by decide), a1, bd4_e, q8, bd7_e]
          have hz2 := q7.1
          rcases ih z2 (by omega) k1 (k2 + 1) (by omega) (by omega) x' y2 C2 N2 (l + 1) tm2 nm2 G' d' st' n2 ba' (by omega) q1 q2 q3 q7 with ⟨d3, l3, e3, a3, z3, tc3, n3, st3, sp3, he3, tm3, nm3, l23, r1, r2, r3, r4⟩ | ⟨G3, d3, l3, a3, s3, t3', n3, st3, ba3, sp3, he3, tm3, nm3, r1, r2, r3, r4, r5, r6⟩
          · exact Or.inl ⟨d3, l3, e3, a3, z3, tc3, n3, st3, sp3, he3, tm3, nm3, l23, r1, r2, r3, fun j hj => (r4 j hj).trans (q9 j hj)⟩
          · exact Or.inr ⟨G3, d3, l3, a3, s3, t3', n3, st3, ba3, sp3, he3, tm3, nm3, r1, r2, r3, r4, r5, fun j hj => (r6 j hj).trans (q9 j hj)⟩
def G0 : Fo := fun _ => (0, 0, 0, 0)
theorem G0_v : VFs G0 := fun _ _ => Or.inl ⟨rfl, rfl, rfl, rfl⟩
theorem m_text0 {st tp en le mV mT mW mR mN mH ik : Nat → Int32} {td ft br ba sp he tm nm ic um : Int32} : ∃ st1, fX8_text st tp td ft br ba sp he tm nm en le mV mT mW mR mN mH ic um ik = (bd6 (fX8_readsOn tp td 0 ba 0 he tm nm) fun br ba sp he tm nm => lq8 (fX8_text_b41 tp en le td ft mV mT mW mR mN mH ic um ik) fu st1 br ba sp he tm nm 0) ∧ PM G0 st1 360 ∧ ∀ j, (j < 360 ∨ 480 ≤ j) → st1 j = st j := by
  unfold fX8_text
  refine fr1 (fX8_text_b14 tp en le td ft 0 ba 0 he tm nm mV mT mW mR mN mH ic um ik 0) 120 (fun t x => (∀ k, k < t → x (360 + k) = 0) ∧ ∀ j, (j < 360 ∨ 480 ≤ j) → x j = st j) (fun r => ∃ st1, r = (bd6 (fX8_readsOn tp td 0 ba 0 he tm nm) fun br ba sp he tm nm => lq8 (fX8_text_b41 tp en le td ft mV mT mW mR mN mH ic um ik) fu st1 br ba sp he tm nm 0) ∧ PM G0 st1 360 ∧ ∀ j, (j < 360 ∨ 480 ≤ j) → st1 j = st j) (by omega) ?_ ?_ fu 0 st (by omega) (by unfold fu; omega) ⟨fun k hk => by omega, fun _ _ => rfl⟩
  · intro self t x ht ⟨i1, i2⟩ hself
    unfold fX8_text_b14
    rw [if_neg (show ¬ (120 : Int32) ≤ nI t from nI_ge (b := 120) ht (by omega)), show (360 : Int32) + nI t = nI (360 + t) from nI_add 360 t, wrN (by omega) (by omega), nI_1]
    refine hself _ ⟨fun k hk => ?_, fun j hj => by rw [un _ _ (by omega)]; exact i2 j hj⟩
    by_cases z : k = t
    · rw [z, us]
    · rw [un _ _ (by omega)]; exact i1 k (by omega)
  · intro self x ⟨i1, i2⟩
    unfold fX8_text_b14
    rw [if_pos (show (120 : Int32) ≤ nI 120 by decide)]
    refine ⟨x, rfl, fun c hc => ⟨i1 c (by omega), ?_, ?_, ?_⟩, i2⟩
    · have := i1 (30 + c) (by omega); rwa [← Nat.add_assoc] at this
    · have := i1 (60 + c) (by omega); rwa [← Nat.add_assoc] at this
    · have := i1 (90 + c) (by omega); rwa [← Nat.add_assoc] at this
theorem q_text {F : Fo} {parts hist st mV mT mW mR mN mH u i0 i1 ik ik' by_ tp en le d : Nat → Int32} {n : RKT} {hs wc ev mv s mev mmv ic um sz td at_ s0 t0 n0 ln fl ft br ba sp he tm nm : Int32} (h : SR F parts n hist hs wc ev mv st mV mT mW mR mN mH s mev mmv ic u um) (hT : TR by_ sz tp td) (hI : IR i0 i1 ik ik' st) (hE : EL en le) :
    ∃ F' r sz' at' s' t' n' d' ln' fl' parts' n1 hs' ik2 wc' st' td' br' ba' sp' he' tm' nm' a b w e m k ic' um' ik2', fX7_text by_ sz at_ s0 t0 n0 d ln fl parts n hs ik wc = some (r, sz', at', s', t', n', d', ln', fl', parts', n1, hs', ik2, wc') ∧ fX8_text st tp td ft br ba sp he tm nm en le mV mT mW mR mN mH ic um ik' = some (r, st', td', fl', br', ba', sp', he', tm', nm', a, b, w, e, m, k, ic', um', ik2') ∧ SR F' parts' n1 hist hs' wc' ev mv st' a b w e m k s mev mmv ic' u um' ∧ TR by_ sz' tp td' ∧ IR i0 i1 ik2 ik2' st' := by
  obtain ⟨tb, T, rfl, rfl, hP⟩ := TP_of hT
  have hTT := hP.1
  have hT0 : TR by_ 0 tp 0 := ⟨0, by omega, rfl, rfl, fun k hk => by omega⟩
  obtain ⟨d1, d2, d3⟩ := f_fill (a := d) (N := 120) (v := 0) (by omega) (by unfold fu; omega)
  obtain ⟨st1, m1, m2, m3⟩ := m_text0 (st := st) (tp := tp) (en := en) (le := le) (mV := mV) (mT := mT) (mW := mW) (mR := mR) (mN := mN) (mH := mH) (ik := ik') (td := nI T) (ft := ft) (br := br) (ba := ba) (sp := sp) (he := he) (tm := tm) (nm := nm) (ic := ic) (um := um)
  obtain ⟨y, z, C, N, tm1, nm1, hK⟩ := tok hP (Nat.zero_le T)
  obtain ⟨n', a1, a2⟩ := hK.2.2.2.2.2.2.2.1 s0 t0 n0
  have hPC : PC G0 d1 := fun c hc => ⟨d3 _ (by omega), d3 _ (by omega), d3 _ (by omega), d3 _ (by omega)⟩
  have hcl : fX6_takesAll d ln fl by_ (nI T) at_ s0 t0 n0 = lq7 (fX6_takesAll_b25 by_ (nI T)) fu d1 (nI 0) 0 (nI y) (nI z) (nI C) n' := by
    unfold fX6_takesAll fX1_clear fX5_rewind
    rw [d2, bd1_e, bd1_e, bd1_e, show fX5_nextToken by_ (nI T) 0 s0 t0 n0 = _ from a1, bd4_e]
    rfl
  rw [m1, show fX8_readsOn tp (nI T) 0 ba 0 he tm nm = _ from hK.2.2.2.2.2.2.2.2 ba he tm nm, bd6_e]
  unfold fX7_text
  rw [hcl]
  rcases text_j (ft := ft) (ic := ic) (um := um) (mV := mV) (mT := mT) (mW := mW) (mR := mR) (mN := mN) (mH := mH) (ik := ik') hP hE (T + 1) z (by omega) fu fu (by unfold fu; omega) (by unfold fu; omega) 0 y C N 0 tm1 nm1 G0 d1 st1 n' ba (by omega) G0_v hPC m2 hK with ⟨d', l', e, a, z', tc, n2, st', sp', he', tm', nm', l2, q1, q2, q3, q4⟩ | ⟨G', d', l', a, s2, t2, n2, st', ba', sp', he', tm', nm', q1, q2, q3, q4, q5, q6⟩
  · rw [q2, bd8_e, if_pos (show (0 : Int32) = 0 from rfl), show lq8 (fX8_text_b41 tp en le (nI T) ft mV mT mW mR mN mH ic um ik') fu st1 (if C = 4 then 1 else 0) (if C = 4 then nI z else ba) (nI y) (nI z) tm1 nm1 0 = _ from q3]
    unfold fX8_text_j65
    rw [if_neg (by rcases q1 with rfl | rfl | rfl <;> decide)]
    have hk : ∀ j, (j < 360 ∨ 480 ≤ j) → st' j = st j := fun j hj => (q4 j hj).trans (m3 j hj)
    exact ⟨F, _, _, _, _, _, _, _, _, _, _, _, _, _, _, _, _, _, _, _, _, _, _, _, _, _, _, _, _, _, _, _, rfl, rfl, SR_st h (fun k hk' => hk k (by omega)), hT0, IR_st hI (fun k _ b => hk k (by omega))⟩
  · rw [q4, bd8_e, if_neg (show ¬ (1 : Int32) = 0 by decide), show lq8 (fX8_text_b41 tp en le (nI T) ft mV mT mW mR mN mH ic um ik') fu st1 (if C = 4 then 1 else 0) (if C = 4 then nI z else ba) (nI y) (nI z) tm1 nm1 0 = _ from q5]
    have hk : ∀ j, (j < 360 ∨ 480 ≤ j) → st' j = st j := fun j hj => (q6 j hj).trans (m3 j hj)
    obtain ⟨st2, s1, s2', s3⟩ := m_copies (st := st') (o1 := 360) (o2 := 0) (by omega) (by omega) (by omega)
    have hM2 : PM G' st2 0 := PM_of q3 s2'
    obtain ⟨ma, mb, mw, me, mm, mk, v1, v2⟩ := m_settles hM2 q1 mV mT mW mR mN mH
    obtain ⟨p1, p2, p3, p4, p5⟩ := c_begin (parts := parts) (n := n) (hs := hs) (wc := wc) q1 q2
    rw [show fu = 997 + 1 + 1 + 1 from rfl, lq2_s]
    unfold fX7_text_b37 fX8_text_j65
    rw [if_neg (show ¬ (2 : Int32) ≤ 0 by decide), wrC 0 0 rfl (by omega) (by omega), lq2_s, if_neg (show ¬ (2 : Int32) ≤ 0 + 1 by decide), wrC (0 + 1) 1 rfl (by omega) (by omega), lq2_s, if_pos (show (2 : Int32) ≤ 0 + 1 + 1 by decide), p3, bd4_e, if_pos (show (0 : Int32) ≤ 0 by decide), show fX8_copies st' 360 0 = _ from s1, bd1_e, v1, bd6_e, wrC 0 0 rfl (by omega) (by omega), wrC 1 1 rfl (by omega) (by omega)]
    obtain ⟨hF, hC, hP0, hN, hS, hH, q3', hw, q4', q5'⟩ := h
    refine ⟨G', _, _, _, _, _, _, _, _, _, _, _, _, _, _, _, _, _, _, _, _, _, _, _, _, _, _, _, _, _, _, _, rfl, rfl, ⟨q1, p4, hM2, p5, ?_, ⟨0, rfl, rfl, HI_0 _ _⟩, rfl, Or.inl rfl, q4', q5'⟩, hT0, ?_⟩
    · rcases hS with q | ⟨q, _⟩
      · exact Or.inl q
      · exact Or.inr ⟨q, v2⟩
    · have z0 : ∀ g : Nat → Int32, upd (upd g 0 (vp_nar .boolean 0)) 1 (vp_nar .boolean 0) 0 = 0 := fun g => by rw [un _ _ (by omega), us]; rfl
      have z1 : ∀ g : Nat → Int32, upd (upd g 0 (vp_nar .boolean 0)) 1 (vp_nar .boolean 0) 1 = 0 := fun g => by rw [us]; rfl
      refine ⟨⟨by rw [z0, z0], by rw [z1, z1]⟩, ⟨Or.inl (z0 _), Or.inl (z1 _)⟩, fun w => ?_, fun w => ?_⟩
      · rw [z0] at w; exact absurd w (by decide)
      · rw [z1] at w; exact absurd w (by decide)
