/-! MAKING: rows for constructors -/
section MK
variable {X : Ev} {k : KT} {cc : ByteArray} {nL : Nat} {rt : Option FieldType} {own : String} {A : Nat → Prop} {fr lo mc ms : Nat} {ws : va_W} {H : Heap} {L : List Loc} {ce sl pc : Nat} {ls : Array Slot} {st : List Value} {lv : List (Nat × Value)}
theorem r_objInit (C : Cx X k cc nL rt own A fr lo mc ms) (hl : lv_has ls nL lv) {ix a : Nat} (hlk : Cond.methodLink own ix objectInit ∈ aW) (hfr : 1 ≤ fr) (hlo : (st.map fun v => v.category).sum + 12 ≤ lo) (hdg : decode cc pc = .ok (.invokespecial ix, 3)) (g : Wx X k ce sl H L (pc + 3) ls st) : Wx X k ce sl H L pc ls (.ref a :: st) :=
  W.objInit C.hx C.hb C.hown (C.hts _ hlk) (C.hts _ w_im_objInit) (C.hts _ w_cd_objInit) rfl (hl.1.trans C.hml.symm) rfl hdg (by rw [C.hR]; exact hfr) (by rw [C.hR]; show 2 * 0 + _ + 12 ≤ lo; omega) g
theorem r_new (C : Cx X k cc nL rt own A fr lo mc ms) (hw : Wd X k A ws H L) {Cn : String} {T : u_T} {N ci ix : Nat} (hc : vwCl[ci]? = some (Cn, T, N)) (hin : ∀ w ∈ u_ws Cn T N, w ∈ aW) {ty0 : Nat → FieldType} (hty : ∀ k, k < N → parseFieldDescriptor (T k).2.2.1 = some (ty0 k)) (hlk : Cond.classLink own ix Cn ∈ aW) (his : Cond.instantiable Cn N ∈ aW) (hini : Cond.initialized Cn ∈ aW) {fs : List Value} (hfs : ∀ j, j < N → defaultValue (ty0 j) = vp_V fs j) (h1 : ce + 1 ≤ mc) (h2 : sl + N ≤ ms) (hdg : decode cc pc = .ok (.new ix, 3))
    (g : ∀ (q : Nat) (H1 : Heap), Wd X k A (ws ++ [(q, .inr (ci, fs))]) H1 L → Wx X k (ce + 1) (sl + N) H1 L (pc + 3) ls (.ref q :: st)) : Wx X k ce sl H L pc ls st :=
  va_new C.hx C.hb C.hts hin ty0 hty C.hown (C.hts _ hlk) (C.hts _ his) (C.hts _ hini) C.hK hw.1 hw.2.1 hw.2.2 C.hA hc hfs (by rw [C.hR]; exact h1) (by rw [C.hR]; exact h2) hdg (fun q H1 a b c => g q H1 ⟨a, b, c⟩)
theorem r_newi (C : Cx X k cc nL rt own A fr lo mc ms) (hw : Wd X k A ws H L) {n : Int32} {N : Nat} (hn : ¬ n < 0) (hN : n.toNatClampNeg = N) (hby : N * componentBytes .int ≤ 536870912) (h1 : ce + 1 ≤ mc) (h2 : sl + N ≤ ms) (hdg : decode cc pc = .ok (.newarray .int, 2))
    (g : ∀ (q : Nat) (H1 : Heap), Wd X k A (ws ++ [(q, .inl (eI X, N, .inl (fun _ => 0)))]) H1 L → Wx X k (ce + 1) (sl + N) H1 L (pc + 2) ls (.ref q :: st)) : Wx X k ce sl H L pc ls (.int n :: st) := by
  refine va_newa (atype := .int) (ty := .int) (a0 := (N, .inl (fun _ => 0))) C.hx C.hb (C.hts _ w_ac_int) rfl C.hK hw.1 hw.2.1 hw.2.2 C.hA (fun _ => rfl) hn hN hby (by rw [C.hR]; exact h1) (by rw [C.hR]; exact h2) hdg (fun q cA H1 hK a b c => ?_)
  have e1 := (hK.2 5 (cA, .int) rfl).2
  have e2 := (C.hK.2 0 (eI X, .int) rfl).2
  have : cA = eI X := Option.some.inj (e1.symm.trans e2)
  subst this
  exact g q H1 ⟨a, b, c⟩
theorem r_newb (C : Cx X k cc nL rt own A fr lo mc ms) (hw : Wd X k A ws H L) {n : Int32} {N : Nat} (hn : ¬ n < 0) (hN : n.toNatClampNeg = N) (hby : N * componentBytes .byte ≤ 536870912) (h1 : ce + 1 ≤ mc) (h2 : sl + N ≤ ms) (hdg : decode cc pc = .ok (.newarray .byte, 2))
    (g : ∀ (q : Nat) (H1 : Heap), Wd X k A (ws ++ [(q, .inl (eB X, N, .inl (fun _ => 0)))]) H1 L → Wx X k (ce + 1) (sl + N) H1 L (pc + 2) ls (.ref q :: st)) : Wx X k ce sl H L pc ls (.int n :: st) := by
  refine va_newa (atype := .byte) (ty := .byte) (a0 := (N, .inl (fun _ => 0))) C.hx C.hb (C.hts _ w_ac_byte) rfl C.hK hw.1 hw.2.1 hw.2.2 C.hA (fun _ => rfl) hn hN hby (by rw [C.hR]; exact h1) (by rw [C.hR]; exact h2) hdg (fun q cA H1 hK a b c => ?_)
  have e1 := (hK.2 5 (cA, .byte) rfl).2
  have e2 := (C.hK.2 1 (eB X, .byte) rfl).2
  have : cA = eB X := Option.some.inj (e1.symm.trans e2)
  subst this
  exact g q H1 ⟨a, b, c⟩
theorem r_newz (C : Cx X k cc nL rt own A fr lo mc ms) (hw : Wd X k A ws H L) {n : Int32} {N : Nat} (hn : ¬ n < 0) (hN : n.toNatClampNeg = N) (hby : N * componentBytes .boolean ≤ 536870912) (h1 : ce + 1 ≤ mc) (h2 : sl + N ≤ ms) (hdg : decode cc pc = .ok (.newarray .boolean, 2))
    (g : ∀ (q : Nat) (H1 : Heap), Wd X k A (ws ++ [(q, .inl (eZ X, N, .inl (fun _ => 0)))]) H1 L → Wx X k (ce + 1) (sl + N) H1 L (pc + 2) ls (.ref q :: st)) : Wx X k ce sl H L pc ls (.int n :: st) := by
  refine va_newa (atype := .boolean) (ty := .boolean) (a0 := (N, .inl (fun _ => 0))) C.hx C.hb (C.hts _ w_ac_boolean) rfl C.hK hw.1 hw.2.1 hw.2.2 C.hA (fun _ => rfl) hn hN hby (by rw [C.hR]; exact h1) (by rw [C.hR]; exact h2) hdg (fun q cA H1 hK a b c => ?_)
  have e1 := (hK.2 5 (cA, .boolean) rfl).2
  have e2 := (C.hK.2 2 (eZ X, .boolean) rfl).2
  have : cA = eZ X := Option.some.inj (e1.symm.trans e2)
  subst this
  exact g q H1 ⟨a, b, c⟩
theorem r_newF (C : Cx X k cc nL rt own A fr lo mc ms) (hw : Wd X k A ws H L) {ix : Nat} (hlk : Cond.classLink own ix RX1 ∈ aW) (hao : va_AO RX1 (ks k)) {n : Int32} {N : Nat} (hn : ¬ n < 0) (hN : n.toNatClampNeg = N) (hby : N * 4 ≤ 536870912) (h1 : ce + 1 ≤ mc) (h2 : sl + N ≤ ms) (hdg : decode cc pc = .ok (.anewarray ix, 3))
    (g : ∀ (q : Nat) (H1 : Heap), Wd X k A (ws ++ [(q, .inl (eF X, N, .inr (.inr (.inr (.inr (fun _ => none))))))]) H1 L → Wx X k (ce + 1) (sl + N) H1 L (pc + 3) ls (.ref q :: st)) : Wx X k ce sl H L pc ls (.int n :: st) := by
  refine va_newq (C := RX1) C.hx C.hb C.hown (C.hts _ hlk) hao C.hK hw.1 hw.2.1 hw.2.2 C.hA hn hN hby (by rw [C.hR]; exact h1) (by rw [C.hR]; exact h2) hdg (fun q cA H1 hK a b c => ?_)
  obtain ⟨_, _, _, _, _, e1⟩ := (hK.2 5 (cA, .object RX1) rfl).2
  obtain ⟨_, _, _, _, _, e2⟩ := (C.hK.2 3 (eF X, .object RX1) rfl).2
  have : cA = eF X := Option.some.inj (e1.symm.trans e2)
  subst this
  exact g q H1 ⟨a, b, c⟩
theorem r_newR (C : Cx X k cc nL rt own A fr lo mc ms) (hw : Wd X k A ws H L) {ix : Nat} (hlk : Cond.classLink own ix RX4 ∈ aW) (hao : va_AO RX4 (ks k)) {n : Int32} {N : Nat} (hn : ¬ n < 0) (hN : n.toNatClampNeg = N) (hby : N * 4 ≤ 536870912) (h1 : ce + 1 ≤ mc) (h2 : sl + N ≤ ms) (hdg : decode cc pc = .ok (.anewarray ix, 3))
    (g : ∀ (q : Nat) (H1 : Heap), Wd X k A (ws ++ [(q, .inl (eR X, N, .inr (.inr (.inr (.inr (fun _ => none))))))]) H1 L → Wx X k (ce + 1) (sl + N) H1 L (pc + 3) ls (.ref q :: st)) : Wx X k ce sl H L pc ls (.int n :: st) := by
  refine va_newq (C := RX4) C.hx C.hb C.hown (C.hts _ hlk) hao C.hK hw.1 hw.2.1 hw.2.2 C.hA hn hN hby (by rw [C.hR]; exact h1) (by rw [C.hR]; exact h2) hdg (fun q cA H1 hK a b c => ?_)
  obtain ⟨_, _, _, _, _, e1⟩ := (hK.2 5 (cA, .object RX4) rfl).2
  obtain ⟨_, _, _, _, _, e2⟩ := (C.hK.2 4 (eR X, .object RX4) rfl).2
  have : cA = eR X := Option.some.inj (e1.symm.trans e2)
  subst this
  exact g q H1 ⟨a, b, c⟩
theorem r_astF (C : Cx X k cc nL rt own A fr lo mc ms) (hw : Wd X k A ws H L) {a n v : Nat} {f f' : Nat → Option Nat} {i : Int32} (q0 qk : Nat) {vs : List Value} (he : ws[q0]? = some (a, .inl (eF X, n, .inr (.inr (.inr (.inr f)))))) (hv : ws[qk]? = some (v, .inr (1, vs))) (hin : vp_in i n) (hf : f' = va_up f i.toNatClampNeg (some v)) {ws' : va_W} (hws : ws.set q0 (a, .inl (eF X, n, .inr (.inr (.inr (.inr f'))))) = ws') (hdg : decode cc pc = .ok (.aastore, 1)) (g : ∀ (H1 : Heap) (L1 : List Loc), Wd X k A ws' H1 L1 → Wx X k ce sl H1 L1 (pc + 1) ls st) : Wx X k ce sl H L pc ls (.ref v :: .int i :: .ref a :: st) := by
  subst hf
  subst hws
  exact va_astq (r := (RX1, TX1, 1)) C.hx C.hb C.hK hw.1 hw.2.1 hw.2.2 q0 3 qk 1 he rfl hv rfl hin hdg (fun H1 L1 a b c => g H1 L1 ⟨a, b, c⟩)
theorem r_astR (C : Cx X k cc nL rt own A fr lo mc ms) (hw : Wd X k A ws H L) {a n v : Nat} {f f' : Nat → Option Nat} {i : Int32} (q0 qk : Nat) {vs : List Value} (he : ws[q0]? = some (a, .inl (eR X, n, .inr (.inr (.inr (.inr f)))))) (hv : ws[qk]? = some (v, .inr (4, vs))) (hin : vp_in i n) (hf : f' = va_up f i.toNatClampNeg (some v)) {ws' : va_W} (hws : ws.set q0 (a, .inl (eR X, n, .inr (.inr (.inr (.inr f'))))) = ws') (hdg : decode cc pc = .ok (.aastore, 1)) (g : ∀ (H1 : Heap) (L1 : List Loc), Wd X k A ws' H1 L1 → Wx X k ce sl H1 L1 (pc + 1) ls st) : Wx X k ce sl H L pc ls (.ref v :: .int i :: .ref a :: st) := by
  subst hf
  subst hws
  exact va_astq (r := (RX4, TX4, 3)) C.hx C.hb C.hK hw.1 hw.2.1 hw.2.2 q0 4 qk 4 he rfl hv rfl hin hdg (fun H1 L1 a b c => g H1 L1 ⟨a, b, c⟩)
theorem r_putF (C : Cx X k cc nL rt own A fr lo mc ms) (hin' : (kt k).name = "<init>") (hw : Wd X k A ws H L) {a ci ix : Nat} {T : u_T} {N : Nat} (q0 : Nat) {fs : List Value} (he : ws[q0]? = some (a, .inr (ci, fs))) (hc : vwCl[ci]? = some (own, T, N)) (hin : ∀ w ∈ u_ws own T N, w ∈ aW) {ty0 : Nat → FieldType} (hty : ∀ k, k < N → parseFieldDescriptor (T k).2.2.1 = some (ty0 k)) (hnm : ∀ a, a < N → ∀ b, b < N → a ≠ b → (T a).2.1 ≠ (T b).2.1) (j : Nat) (hj : j < N) (hlk : Cond.fieldLink own ix (T j).1 (T j).2.1 (T j).2.2.1 ∈ aW) (hfin : (T j).2.2.2 = true) (hdecl : (T j).1 = own) {v : Value} (hd : parseFieldDescriptor (T j).2.2.1 = some (ty0 j)) (hn : narrow (ty0 j) v = v) (hfit : fits (ty0 j) v = true) (hl : j < fs.length) {ws' : va_W} (hws : ws.set q0 (a, .inr (ci, fs.set j v)) = ws') (hdg : decode cc pc = .ok (.putfield ix, 3)) (g : ∀ (H1 : Heap) (L1 : List Loc), Wd X k A ws' H1 L1 → Wx X k ce sl H1 L1 (pc + 3) ls st) : Wx X k ce sl H L pc ls (v :: .ref a :: st) := by
  subst hws
  exact va_putF C.hx C.hb C.hts hin ty0 hty hnm C.hown C.hK hw.1 hw.2.1 hw.2.2 q0 he hc j hj (C.hts _ hlk) (fun _ h => h) hfin hin' hdecl hd hn hfit hl hdg (fun H1 L1 a b c => g H1 L1 ⟨a, b, c⟩)
end MK
