/-! READ: the reference sets aside and gets back; the class's fault of a change -/
theorem m_setsAside {st u ua : Nat → Int32} {ev mv ic um iac : Int32} (hic : ic = 0 ∨ ic = 1) : ∃ st' ua', fX8_setsAside st ev mv ic u um ua iac = some (st', ua', ic) ∧ (∀ k, k < 120 → st' (480 + k) = st (0 + k)) ∧ (∀ k, k < 480 ∨ 600 ≤ k → st' k = st k) ∧ (∀ k, k < 100 → ua' k = u k) ∧ ua' 100 = um ∧ ua' 101 = ev ∧ ua' 102 = mv := by
  obtain ⟨st', s1, s2, s3⟩ := m_copies (st := st) (o1 := 0) (o2 := 480) (by omega) (by omega) (by omega)
  unfold fX8_setsAside
  rw [show fX8_copies st 0 480 = some st' from s1, bd1_e]
  refine fr1 (fX8_setsAside_b10 ev mv ic u um st' iac) 100 (fun t x => ∀ k, k < t → x k = u k) (fun r => ∃ st' ua', r = some (st', ua', ic) ∧ (∀ k, k < 120 → st' (480 + k) = st (0 + k)) ∧ (∀ k, k < 480 ∨ 600 ≤ k → st' k = st k) ∧ (∀ k, k < 100 → ua' k = u k) ∧ ua' 100 = um ∧ ua' 101 = ev ∧ ua' 102 = mv) (by omega) ?_ ?_ fu 0 ua (by omega) (by unfold fu; omega) (fun k hk => by omega)
  · intro self t x ht hI hself
    unfold fX8_setsAside_b10
    rw [if_neg (show ¬ (100 : Int32) ≤ nI t from nI_ge (b := 100) ht (by omega)), rdN ht (by omega), wrN (by omega) (by omega), nI_1]
    refine hself _ (fun k hk => ?_)
    by_cases z : k = t
    · rw [z, us]
    · rw [un _ _ z]; exact hI k (by omega)
  · intro self x hI
    unfold fX8_setsAside_b10
    rw [if_pos (show (100 : Int32) ≤ nI 100 by decide), wrC 100 100 rfl (by omega) (by omega), wrC 101 101 rfl (by omega) (by omega), wrC 102 102 rfl (by omega) (by omega), ckT hic]
    refine ⟨_, _, rfl, s2, fun k hk => s3 k (by omega), fun k hk => ?_, ?_, ?_, us _ _ _⟩
    · rw [un _ _ (by omega), un _ _ (by omega), un _ _ (by omega)]; exact hI k hk
    · rw [un _ _ (by omega), un _ _ (by omega), us]
    · rw [un _ _ (by omega), us]
theorem m_getsAside {F : Fo} {st mV mT mW mR mN mH u ua : Nat → Int32} {ev mv ic um iac : Int32} (hP : PM F st 480) (hF : VFs F) (hic : iac = 0 ∨ iac = 1) : ∃ st' a b w e m k u', fX8_getsAside st mV mT mW mR mN mH ev mv ic u um ua iac = some (st', a, b, w, e, m, k, ua 101, ua 102, iac, u', ua 100) ∧ PM F st' 0 ∧ (∀ k, 120 ≤ k → st' k = st k) ∧ MR (fin F) a b w e m k ∧ ∀ k, k < 100 → u' k = ua k := by
  obtain ⟨st', s1, s2, s3⟩ := m_copies (st := st) (o1 := 480) (o2 := 0) (by omega) (by omega) (by omega)
  have hP' : PM F st' 0 := PM_of hP s2
  obtain ⟨a, b, w, e, m, k, m1, m2⟩ := m_settles hP' hF mV mT mW mR mN mH
  unfold fX8_getsAside
  rw [show fX8_copies st 480 0 = some st' from s1, bd1_e, m1, bd6_e]
  refine fr1 (fX8_getsAside_b14 ua iac st' a b w e m k ev mv ic um) 100 (fun t x => ∀ k, k < t → x k = ua k) (fun r => ∃ st' a b w e m k u', r = some (st', a, b, w, e, m, k, ua 101, ua 102, iac, u', ua 100) ∧ PM F st' 0 ∧ (∀ k, 120 ≤ k → st' k = st k) ∧ MR (fin F) a b w e m k ∧ ∀ k, k < 100 → u' k = ua k) (by omega) ?_ ?_ fu 0 u (by omega) (by unfold fu; omega) (fun k hk => by omega)
  · intro self t x ht hI hself
    unfold fX8_getsAside_b14
    rw [if_neg (show ¬ (100 : Int32) ≤ nI t from nI_ge (b := 100) ht (by omega)), rdN (by omega) (by omega), wrN ht (by omega), nI_1]
    refine hself _ (fun k hk => ?_)
    by_cases z : k = t
    · rw [z, us]
    · rw [un _ _ z]; exact hI k (by omega)
  · intro self x hI
    unfold fX8_getsAside_b14
    rw [if_pos (show (100 : Int32) ≤ nI 100 by decide), rdC 100 100 rfl (by omega) (by omega), rdC 101 101 rfl (by omega) (by omega), rdC 102 102 rfl (by omega) (by omega), ckT hic]
    exact ⟨_, _, _, _, _, _, _, _, rfl, hP', fun k hk => s3 k (by omega), m2, hI⟩
/-- the fault of an item, as the reference says it: 0 none, 1 no row, 3 another lane, 2 out of bounds -/
def fA (l : Int32) (Z : Nat) (p2 : Int32) (z : Int) : Nat := if l = -1 then 1 else if l = p2 then (if 0 ≤ z ∧ z < (Z : Int) then 0 else 2) else 3
theorem c_faultAt {l p2 q : Int32} {Z : Nat} (hZ : Z ≤ 40) : fX4_faultAt l (nI Z) p2 q = some (nI (fA l Z p2 q.toInt)) := by
  unfold fX4_faultAt fX4_isNothing fA
  have h0 : (0 : Int32).toInt = 0 := rfl
  have h2 := nI_toInt (n := Z) (by omega)
  by_cases a : l = -1
  · rw [if_pos a, if_pos a, bd1_e, if_neg (show ¬ (1 : Int32) = 0 by decide)]; rfl
  · rw [if_neg a, if_neg a, bd1_e, if_pos (show (0 : Int32) = 0 from rfl)]
    by_cases b : l = p2
    · rw [if_pos b, if_pos b]
      by_cases c : q.toInt < 0
      · rw [if_pos (show q < 0 from Int32.lt_iff_toInt_lt.mpr (by omega)), if_neg (by omega)]; rfl
      · rw [if_neg (show ¬ q < 0 from fun z => by have := Int32.lt_iff_toInt_lt.mp z; omega)]
        by_cases d : q.toInt < (Z : Int)
        · rw [if_pos (show q < nI Z from Int32.lt_iff_toInt_lt.mpr (by omega)), if_pos (by omega)]; rfl
        · rw [if_neg (show ¬ q < nI Z from fun z => by have := Int32.lt_iff_toInt_lt.mp z; omega), if_neg (by omega)]; rfl
    · rw [if_neg b, if_neg b]; rfl
