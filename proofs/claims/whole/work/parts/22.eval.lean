/-! FORMULAS AND ONE EVALUATION, as numbers -/
abbrev Fq : Type := Nat × Nat × Nat × Nat
abbrev Fo : Type := Nat → Fq
/-- a formula that may stand -/
def VF (f : Fq) : Prop := (f.1 = 0 ∧ f.2.1 = 0 ∧ f.2.2.1 = 0 ∧ f.2.2.2 = 0) ∨ (f.1 = 1 ∧ f.2.1 ≤ 999 ∧ f.2.2.1 = 0 ∧ f.2.2.2 = 0) ∨ ((f.1 = 2 ∨ f.1 = 3 ∨ f.1 = 4) ∧ f.2.1 < 30 ∧ f.2.2.1 < 30 ∧ f.2.2.2 = 0) ∨ (f.1 = 5 ∧ f.2.1 < 30 ∧ f.2.2.1 = 0 ∧ f.2.2.2 = 0) ∨ ((f.1 = 6 ∨ f.1 = 7) ∧ f.2.1 ≤ f.2.2.1 ∧ f.2.2.1 < 30 ∧ f.2.2.2 = 0) ∨ (f.1 = 8 ∧ f.2.1 < 30 ∧ f.2.2.1 < 30 ∧ f.2.2.2 < 30)
def PC (F : Fo) (parts : Nat → Int32) : Prop := ∀ c, c < 30 → parts (4 * c) = nI (F c).1 ∧ parts (4 * c + 1) = nI (F c).2.1 ∧ parts (4 * c + 2) = nI (F c).2.2.1 ∧ parts (4 * c + 3) = nI (F c).2.2.2
def PM (F : Fo) (st : Nat → Int32) (o : Nat) : Prop := ∀ c, c < 30 → st (o + c) = nI (F c).1 ∧ st (o + 30 + c) = nI (F c).2.1 ∧ st (o + 60 + c) = nI (F c).2.2.1 ∧ st (o + 90 + c) = nI (F c).2.2.2
def VFs (F : Fo) : Prop := ∀ c, c < 30 → VF (F c)
/-- the cell that a value picks -/
def pkN (v : Int32) : Nat := (v.toInt % 30).toNat
theorem pkN_lt (v : Int32) : pkN v < 30 := by unfold pkN; omega
theorem toInt_rg (x : Int32) : -2147483648 ≤ x.toInt ∧ x.toInt < 2147483648 := by
  have h1 := x.toBitVec.isLt
  have h2 : x.toInt = x.toBitVec.toInt := rfl
  rw [h2, BitVec.toInt_eq_toNat_cond]
  split <;> omega
theorem bm32 {z : Int} (h1 : -2147483648 ≤ z) (h2 : z < 2147483648) : z.bmod (2 ^ 32) = z := by
  rw [Int.bmod_def]
  split <;> omega
theorem tmod_sgn (a : Int) : (0 ≤ a → 0 ≤ a.tmod 30) ∧ (a < 0 → a.tmod 30 ≤ 0) := by
  refine ⟨fun h => ?_, fun h => ?_⟩
  · rw [Int.tmod_eq_emod_of_nonneg h]
    omega
  · have h3 : (-a).tmod 30 = (-a) % 30 := Int.tmod_eq_emod_of_nonneg (by omega)
    rw [Int.neg_tmod] at h3
    omega
theorem rem30 (x : Int32) : (x - x / 30 * 30).toInt = x.toInt.tmod 30 := by
  obtain ⟨h1, h2⟩ := toInt_rg x
  have hb := tmod_bounds (a := x.toInt) (M := 30) (by omega)
  have he : 30 * x.toInt.tdiv 30 + x.toInt.tmod 30 = x.toInt := Int.mul_tdiv_add_tmod x.toInt 30
  have hs := tmod_sgn x.toInt
  have hd : (x / 30).toInt = x.toInt.tdiv 30 := by
    rw [Int32.toInt_div]
    apply bm32 <;> rw [show ((30 : Int32)).toInt = 30 from rfl] <;> omega
  have hm : (x / 30 * 30).toInt = x.toInt.tdiv 30 * 30 := by
    rw [Int32.toInt_mul, hd, show ((30 : Int32)).toInt = 30 from rfl]
    apply bm32 <;> omega
  rw [Int32.toInt_sub, hm]
  have e2 : x.toInt - x.toInt.tdiv 30 * 30 = x.toInt.tmod 30 := by omega
  rw [e2]
  apply bm32 <;> omega
theorem tmod_emod (a : Int) : a % 30 = if 0 ≤ a.tmod 30 then a.tmod 30 else a.tmod 30 + 30 := by
  have hb := tmod_bounds (a := a) (M := 30) (by omega)
  have he : 30 * a.tdiv 30 + a.tmod 30 = a := Int.mul_tdiv_add_tmod a 30
  split <;> omega
theorem f_modulo (v : Int32) : fX8_modulo v = some (nI (pkN v)) := by
  unfold fX8_modulo
  have hr := rem30 v
  have hb := tmod_bounds (a := v.toInt) (M := 30) (by omega)
  have he := tmod_emod v.toInt
  have hp : (nI (pkN v)).toInt = v.toInt % 30 := by
    rw [nI_toInt (by have := pkN_lt v; omega)]
    unfold pkN
    omega
  by_cases h : 0 ≤ v.toInt.tmod 30
  · rw [if_pos (show (0 : Int32) ≤ v - v / 30 * 30 from Int32.le_iff_toInt_le.mpr (by rw [hr]; exact h))]
    rw [if_pos h] at he
    congr 1
    apply Int32.toInt_inj.mp
    rw [hr, hp, he]
  · rw [if_neg (fun z => h (by have := Int32.le_iff_toInt_le.mp z; rw [hr] at this; exact this))]
    rw [if_neg h] at he
    congr 1
    apply Int32.toInt_inj.mp
    rw [Int32.toInt_add, hr, show ((30 : Int32)).toInt = 30 from rfl, bm32 (by omega) (by omega), hp, he]
theorem xor30 (x : Int32) : (0 : Int32) ≤ (x ^^^ 30) ↔ 0 ≤ x.toInt := by
  have e : ∀ y : Int32, (0 : Int32) ≤ y ↔ bt y 31 = false := by
    intro y
    rw [Int32.le_iff_toInt_le]
    show (0 : Int) ≤ y.toBitVec.toInt ↔ _
    unfold bt
    have h2 : y.toBitVec.getLsbD 31 = y.toBitVec.msb := rfl
    rw [h2, BitVec.toInt_eq_msb_cond]
    have := y.toBitVec.isLt
    cases h : y.toBitVec.msb <;> simp <;> omega
  rw [e, b_xor, show bt (30 : Int32) 31 = false from by decide, Bool.xor_false, ← e, Int32.le_iff_toInt_le]
  rfl
theorem f_floorMod (v : Int32) : fJ9_floorMod_7cf53 v 30 = some (nI (pkN v)) := by
  unfold fJ9_floorMod_7cf53
  rw [ckT (by decide)]
  have hr := rem30 v
  have hb := tmod_bounds (a := v.toInt) (M := 30) (by omega)
  have he := tmod_emod v.toInt
  have hq : 30 * v.toInt.tdiv 30 + v.toInt.tmod 30 = v.toInt := Int.mul_tdiv_add_tmod v.toInt 30
  have hp : (nI (pkN v)).toInt = v.toInt % 30 := by
    rw [nI_toInt (by have := pkN_lt v; omega)]
    unfold pkN
    omega
  have hz : (v - v / 30 * 30 = 0) ↔ v.toInt.tmod 30 = 0 := by
    rw [← Int32.toInt_inj, hr]
    rfl
  have hn : 0 ≤ v.toInt → 0 ≤ v.toInt.tmod 30 := fun h => by
    rw [Int.tmod_eq_emod_of_nonneg h]
    omega
  have hn2 : ¬ 0 ≤ v.toInt → v.toInt.tmod 30 ≤ 0 := fun h => by
    have h3 : (-v.toInt).tmod 30 = (-v.toInt) % 30 := Int.tmod_eq_emod_of_nonneg (by omega)
    rw [Int.neg_tmod] at h3
    omega
  by_cases h0 : 0 ≤ v.toInt
  · rw [if_pos ((xor30 v).mpr h0)]
    have := hn h0
    rw [if_pos this] at he
    congr 1
    apply Int32.toInt_inj.mp
    rw [hr, hp, he]
  · rw [if_neg (fun z => h0 ((xor30 v).mp z))]
    have h4 := hn2 h0
    by_cases h1 : v.toInt.tmod 30 = 0
    · rw [if_pos (hz.mpr h1)]
      rw [if_pos (by omega)] at he
      congr 1
      apply Int32.toInt_inj.mp
      rw [hr, hp, he]
    · rw [if_neg (fun z => h1 (hz.mp z))]
      rw [if_neg (by omega)] at he
      congr 1
      apply Int32.toInt_inj.mp
      rw [Int32.toInt_add, hr, show ((30 : Int32)).toInt = 30 from rfl, bm32 (by omega) (by omega), hp, he]
/-- how many from p on are told, of n -/
def spl (T : Nat → Bool) (p : Nat) : Nat → Nat
  | 0 => 0
  | n + 1 => if spl T p n = n ∧ T (p + n) = true then n + 1 else spl T p n
theorem spl_le (T : Nat → Bool) (p : Nat) : ∀ n, spl T p n ≤ n
  | 0 => Nat.le_refl _
  | n + 1 => by
    have := spl_le T p n
    rw [spl]
    split <;> omega
theorem spl_t (T : Nat → Bool) (p : Nat) : ∀ n i, i < spl T p n → T (p + i) = true
  | 0, i, h => by simp [spl] at h
  | n + 1, i, h => by
    rw [spl] at h
    split at h
    · rename_i h1
      by_cases e : i = n
      · rw [e]; exact h1.2
      · exact spl_t T p n i (by omega)
    · exact spl_t T p n i h
theorem spl_f (T : Nat → Bool) (p : Nat) : ∀ n, spl T p n < n → T (p + spl T p n) = false
  | 0, h => by omega
  | n + 1, h => by
    have h0 := spl_le T p n
    rw [spl] at h ⊢
    split at h
    · omega
    · rename_i h1
      rw [if_neg h1]
      by_cases e : spl T p n = n
      · rw [e]
        cases hT : T (p + n)
        · rfl
        · exact absurd ⟨e, hT⟩ h1
      · exact spl_f T p n (by omega)
theorem spl_eq {T : Nat → Bool} {p n m : Nat} (h1 : m ≤ n) (h2 : ∀ i, i < m → T (p + i) = true) (h3 : m < n → T (p + m) = false) : spl T p n = m := by
  have a := spl_le T p n
  by_cases e1 : spl T p n < m
  · have := spl_f T p n (by omega)
    rw [h2 _ e1] at this
    cases this
  · by_cases e2 : m < spl T p n
    · have := spl_t T p n m e2
      rw [h3 (by omega)] at this
      cases this
    · omega
def smS (V : Nat → Int32) (p : Nat) : Nat → Int32
  | 0 => 0
  | n + 1 => smS V p n + V (p + n)
def mxI (a b : Int32) : Int32 := if a < b then b else a
def mxS (V : Nat → Int32) (p : Nat) : Nat → Int32
  | 0 => -2147483648
  | n + 1 => mxI (mxS V p n) (V (p + n))
/-- the second that is read, of those kinds that read one or two -/
def sec (f : Fq) (V : Nat → Int32) : Nat := if f.1 = 5 then pkN (V f.2.1) else if f.1 = 8 then (if V f.2.1 ≤ 0 then f.2.2.2 else f.2.2.1) else f.2.2.1
def val2 (K : Nat) (x y : Int32) : Int32 := if K = 2 then x + y else if K = 3 then x - y else if K = 4 then x * y else y
def spn (f : Fq) : Nat := f.2.2.1 + 1 - f.2.1
/-- what comes of an evaluation: the value; how many are read, which; for which it waits -/
def ocR (f : Fq) (T : Nat → Bool) (V : Nat → Int32) : Option Int32 :=
  if f.1 ≤ 1 then some (nI f.2.1) else if f.1 = 6 ∨ f.1 = 7 then (if spl T f.2.1 (spn f) = spn f then some (if f.1 = 6 then smS V f.2.1 (spn f) else mxS V f.2.1 (spn f)) else none)
  else if T f.2.1 = true ∧ T (sec f V) = true then some (val2 f.1 (V f.2.1) (V (sec f V))) else none
def ocN (f : Fq) (T : Nat → Bool) (V : Nat → Int32) : Nat :=
  if f.1 ≤ 1 then 0 else if f.1 = 6 ∨ f.1 = 7 then (if spl T f.2.1 (spn f) = spn f then spn f else spl T f.2.1 (spn f) + 1) else if T f.2.1 = true ∧ sec f V ≠ f.2.1 then 2 else 1
def ocL (f : Fq) (V : Nat → Int32) (i : Nat) : Nat := if f.1 = 6 ∨ f.1 = 7 then f.2.1 + i else if i = 0 then f.2.1 else sec f V
def ocW (f : Fq) (T : Nat → Bool) (V : Nat → Int32) : Nat := if f.1 = 6 ∨ f.1 = 7 then f.2.1 + spl T f.2.1 (spn f) else if T f.2.1 = true then sec f V else f.2.1
theorem sec_lt {f : Fq} (hf : VF f) (h : 2 ≤ f.1) (V : Nat → Int32) : sec f V < 30 := by
  unfold sec
  have := pkN_lt (V f.2.1)
  rcases hf with h1 | h1 | h1 | h1 | h1 | h1 <;> repeat' split
  all_goals omega
