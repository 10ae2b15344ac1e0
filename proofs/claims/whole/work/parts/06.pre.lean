theorem iT {α : Type} {c : Prop} {_ : Decidable c} {a b o : α} (hc : c) (h : (if c then a else b) = o) : a = o := by rwa [if_pos hc] at h
theorem iF {α : Type} {c : Prop} {_ : Decidable c} {a b o : α} (hc : ¬ c) (h : (if c then a else b) = o) : b = o := by rwa [if_neg hc] at h
theorem zb_n {v : Int32} (h : v = 0 ∨ v = 1) : narrow .boolean (.int v) = .int v := by rcases h with rfl | rfl <;> rfl
theorem zb_f {v : Int32} (h : v = 0 ∨ v = 1) : fits .boolean (.int v) = true := by rcases h with rfl | rfl <;> rfl
theorem vi_0_2 : vp_in 0 2 := by unfold vp_in; decide
theorem vi_1_2 : vp_in 1 2 := by unfold vp_in; decide
theorem vi_0_4 : vp_in 0 4 := by unfold vp_in; decide
theorem vi_1_4 : vp_in 1 4 := by unfold vp_in; decide
theorem vi_2_4 : vp_in 2 4 := by unfold vp_in; decide
theorem vi_3_4 : vp_in 3 4 := by unfold vp_in; decide
/-- a Reckoning: its addresses, its four rows, its three numbers -/
abbrev RKT : Type := (Nat → Nat) × (Nat → Int32) × (Nat → Int32) × (Nat → Int32) × (Nat → Int32) × Int32 × Int32 × Int32
def rkA (r : RKT) : Nat → Nat := r.1
def rkV (r : RKT) : Nat → Int32 := r.2.1
def rkH (r : RKT) : Nat → Int32 := r.2.2.1
def rkR (r : RKT) : Nat → Int32 := r.2.2.2.1
def rkW (r : RKT) : Nat → Int32 := r.2.2.2.2.1
def rkK (r : RKT) : Int32 := r.2.2.2.2.2.1
def rkC (r : RKT) : Int32 := r.2.2.2.2.2.2.1
def rkN (r : RKT) : Int32 := r.2.2.2.2.2.2.2
