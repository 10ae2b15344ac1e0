/-! STRINGS: the words of the text, and the JDK's methods over them -/
def slen (i : Nat) : Int32 := Int32.ofNat (jsLen.getD i 0)
def sch (i : Nat) (k : Int32) : Int32 := (jsByt.getD i []).getD k.toNatClampNeg 0 &&& 255
def fJ0_length_8abf5 (q : Nat) : Option Int32 := if q < 8 then some (slen q) else none
def fJ0_charAt_5068e (q : Nat) (k : Int32) : Option Int32 := if q < 8 ∧ ¬ (k < 0 ∨ jsLen.getD q 0 ≤ k.toNatClampNeg) then some (sch q k) else none
def fX6_wordOf (p0 : Int32) : Option Nat := if p0 = 1 then some 0 else if p0 = 2 then some 1 else if p0 = 3 then some 2 else if p0 = 4 then some 3 else if p0 = 5 then some 4 else if p0 = 6 then some 5 else if p0 = 7 then some 6 else some 7
theorem fJ0_length_lt {q : Nat} {o : Int32} (h : fJ0_length_8abf5 q = some o) : q < 8 := by
  unfold fJ0_length_8abf5 at h
  split at h
  · assumption
  · cases h
theorem fJ0_charAt_lt {q : Nat} {k o : Int32} (h : fJ0_charAt_5068e q k = some o) : q < 8 := by
  unfold fJ0_charAt_5068e at h
  split at h
  · rename_i h1; exact h1.1
  · cases h
section STR
variable {X : Ev} {k : KT} {cc : ByteArray} {nL : Nat} {rt : Option FieldType} {own : String} {A : Nat → Prop} {fr lo mc ms : Nat} {ws : va_W} {H : Heap} {L : List Loc} {ce sl pc : Nat} {ls : Array Slot} {st : List Value} {lv : List (Nat × Value)}
variable {y : MethodName} {c' : ByteArray} {n' : Nat} {r' : Option FieldType} {fr' lo' ix : Nat} {As : List Value} {rv : Option Value}
theorem Wx.run0 (C : Cx X k cc nL rt own A fr lo mc ms) {st0 : List Value} {av : Array Value} (h : Wd X k A ws H L)
    (hr : va_Run (kp k) (eL X) (ke k) (kR k) (ks k) (km k) (ka k) (kb k) (kt k) (kc k) H L ce sl 0 0 (F0 (km k) pc ls st0) st (Pos X [] H.size (De rv []) av) (va_A [] H.size))
    (g : ∀ (H1 : Heap) (L1 : List Loc), Wd X k A ws H1 L1 → Wx X k ce sl H1 L1 (pc + 3) ls (rv.toList ++ st)) : Wx X k ce sl H L pc ls st0 := by
  have hF : ∀ q, va_A [] H.size q → A q := fun q hq => by
    rcases hq with ⟨i, e, hh⟩ | hh
    · simp at hh
    · exact C.hA q (Nat.le_trans h.2.2.1 hh)
  intro T hT Y
  obtain ⟨v, st₀, t, T', L', h0, X', hL, e1, e2, ⟨⟨rv', w1, hv, ⟨hp1, hp2⟩, hP1, hD1⟩, hz, hk⟩, stp⟩ := hr T hT Y
  cases hv
  subst hp1
  rw [h0] at hz hk
  have hS := h.2.2
  have hkk : ∀ q : Nat, q < H.size → T'.heap[q]? = H[q]? := fun q hq => by
    rw [e1]
    refine hk q hq (fun z => ?_)
    rcases z with ⟨i, e, hh⟩ | hh
    · simp at hh
    · omega
  have hS1 : va_S A (ks k).heap T'.heap (L ++ L') := ⟨Nat.le_trans hS.1 (by rw [e1]; exact hz), fun q h1 h2 => by rw [hkk q (Nat.lt_of_lt_of_le h1 hS.1)]; exact hS.2.1 q h1 h2, fun q hq => by
      rcases List.mem_append.mp hq with hh | hh
      · exact hS.2.2 q hh
      · exact hF _ (hL q hh)⟩
  obtain ⟨t2, a1, b1⟩ := g T'.heap (L ++ L') ⟨h.1.kept (fun i q hq => hkk q.1 ((h.1 i q hq).lt)), h.2.1, hS1⟩ T' rfl X'
  exact ⟨t2, stp t2 a1, b1⟩
theorem Pre.at0 (C : Cx X k cc nL rt own A fr lo mc ms) (h : Wd X k A ws H L) {av : List Value} : ∀ U : State, U.heap = H → (ks k).WarmedH U.vm → va_Pc av (Pre X [] H.size) av.toArray U := Pre.at C h [] rfl rfl
/-- a call on a String of ours -/
theorem r_VS (C : Cx X k cc nL rt own A fr lo mc ms) (hl : lv_has ls nL lv) {i : Nat} (M : Ctr X y c' n' r' fr' lo' 0 0 (.ref (eK X i) :: As) [] (De rv [])) (hw : Wd X k A ws H L) (hi : i < 8)
    (wcd : Cond.code y c' n' r' ∈ aW) (wml : Cond.methodLink own ix y ∈ aW) (wim : Cond.instanceMethod y ∈ aW) (wse : Cond.selects RJ0 y y ∈ aW) (win : Cond.initialized y.cls ∈ aW) {np : Nat} (hd : y.cls ≠ "java/lang/invoke/MethodHandle" ∧ y.cls ≠ "java/lang/invoke/VarHandle" ∧ (parseMethodDescriptor y.desc).map (fun d => d.parameters.length) = some np) (hnp : As.length = np) (hrm : fr' + 1 ≤ fr ∧ 8 + (n' + 11) + lo' ≤ lo) (hf : ce + 0 ≤ mc ∧ sl + 0 ≤ ms) (hst : (st.map fun v => v.category).sum ≤ 8) (hdg : decode cc pc = .ok (.invokevirtual ix, 3))
    (g : ∀ (H1 : Heap) (L1 : List Loc), Wd X k A ws H1 L1 → Wx X k ce sl H1 L1 (pc + 3) ls (rv.toList ++ st)) {st0 : List Value} (hs0 : st0 = As.reverse ++ .ref (eK X i) :: st) : Wx X k ce sl H L pc ls st0 := by
  subst hs0
  have hcw : CallW (kR k) (ks k) (ka k) own RJ0 ix y c' n' r' (.code y c' n' r' :: aW) { frames := fr', cells := 0, slots := 0, locals := lo' } 0 0 np := ⟨callB_of np C.hts (gd_cons wcd) rfl rfl rfl (C.hts _ win) (C.hts _ wml) hd (rm_le C hrm), C.hts _ wim, C.hts _ wse⟩
  exact Wx.run0 C hw (va_runV (fix_of C) (M H.size) hcw ⟨Pre.blind, vk_recv (C.hE.2.2.2.2.1.narrow C.hAb) hi hw.2.2, Pre.at0 C hw⟩ rfl hnp hl.1 rfl (lv_room hst) hdg (rm_ce C hf)) g
theorem r_S0 (C : Cx X k cc nL rt own A fr lo mc ms) (hl : lv_has ls nL lv) (M : Ctr X y c' n' r' fr' lo' 0 0 As [] (De rv [])) (hw : Wd X k A ws H L)
    (wcd : Cond.code y c' n' r' ∈ aW) (wml : Cond.methodLink own ix y ∈ aW) (wst : Cond.static y ∈ aW) (win : Cond.initialized y.cls ∈ aW) {np : Nat} (hd : y.cls ≠ "java/lang/invoke/MethodHandle" ∧ y.cls ≠ "java/lang/invoke/VarHandle" ∧ (parseMethodDescriptor y.desc).map (fun d => d.parameters.length) = some np) (hnp : As.length = np) (hrm : fr' + 1 ≤ fr ∧ 8 + (n' + 11) + lo' ≤ lo) (hf : ce + 0 ≤ mc ∧ sl + 0 ≤ ms) (hst : (st.map fun v => v.category).sum ≤ 8) (hdg : decode cc pc = .ok (.invokestatic ix, 3))
    (g : ∀ (H1 : Heap) (L1 : List Loc), Wd X k A ws H1 L1 → Wx X k ce sl H1 L1 (pc + 3) ls (rv.toList ++ st)) {st0 : List Value} (hs0 : st0 = As.reverse ++ st) : Wx X k ce sl H L pc ls st0 := by
  subst hs0
  have hcw : CallB (kR k) (ks k) (ka k) own ix y c' n' r' (.code y c' n' r' :: aW) { frames := fr', cells := 0, slots := 0, locals := lo' } 0 0 np ∧ (Cond.static y).before (ka k) (ks k) = true := ⟨callB_of np C.hts (gd_cons wcd) rfl rfl rfl (C.hts _ win) (C.hts _ wml) hd (rm_le C hrm), C.hts _ wst⟩
  exact Wx.run0 C hw (va_runS (fix_of C) (M H.size) hcw ⟨Pre.blind, Pre.at0 C hw⟩ rfl hnp hl.1 rfl (lv_room hst) hdg (rm_ce C hf)) g
theorem r_scod (C : Cx X k cc nL rt own A fr lo mc ms) (hw : Wd X k A ws H L) {i : Nat} (hi : i < 8) (hlk : Cond.fieldLink own ix "java/lang/String" "coder" "B" ∈ aW) (hdg : decode cc pc = .ok (.getfield ix, 3)) (g : Wx X k ce sl H L (pc + 3) ls (.int 0 :: st)) : Wx X k ce sl H L pc ls (.ref (eK X i) :: st) := vk_getf C.hx C.hb ((C.hE.2.2.2.2.1.1 i hi).2.1.narrow C.hAb) hw.2.2 C.hown (C.hts _ hlk) (fun _ h => h) hdg g
theorem r_sval (C : Cx X k cc nL rt own A fr lo mc ms) (hw : Wd X k A ws H L) {i : Nat} (hi : i < 8) (hlk : Cond.fieldLink own ix "java/lang/String" "value" "[B" ∈ aW) (hdg : decode cc pc = .ok (.getfield ix, 3)) (g : Wx X k ce sl H L (pc + 3) ls (.ref (eV X i) :: st)) : Wx X k ce sl H L pc ls (.ref (eK X i) :: st) := vk_getf C.hx C.hb ((C.hE.2.2.2.2.1.1 i hi).2.2.1.narrow C.hAb) hw.2.2 C.hown (C.hts _ hlk) (fun _ h => h) hdg g
theorem r_stb (C : Cx X k cc nL rt own A fr lo mc ms) (hw : Wd X k A ws H L) {i : Nat} (hi : i < 8) {j : Int32} (hin : vp_in j (jsLen.getD i 0)) (hdg : decode cc pc = .ok (.baload, 1)) (g : Wx X k ce sl H L (pc + 1) ls (.int ((jsByt.getD i []).getD j.toNatClampNeg 0) :: st)) : Wx X k ce sl H L pc ls (.int j :: .ref (eV X i) :: st) := va_tb C.hx C.hb ((C.hE.2.2.2.2.1.1 i hi).2.2.2.narrow C.hAb) hw.2.2 hin rfl hdg g
theorem r_stl (C : Cx X k cc nL rt own A fr lo mc ms) (hw : Wd X k A ws H L) {i : Nat} (hi : i < 8) (hdg : decode cc pc = .ok (.arraylength, 1)) (g : Wx X k ce sl H L (pc + 1) ls (.int (slen i) :: st)) : Wx X k ce sl H L pc ls (.ref (eV X i) :: st) := va_tlen C.hx C.hb ((C.hE.2.2.2.2.1.1 i hi).2.2.2.narrow C.hAb) hw.2.2 rfl hdg g
theorem r_gcs (C : Cx X k cc nL rt own A fr lo mc ms) (hw : Wd X k A ws H L) (hlk : Cond.fieldLink own ix "java/lang/String" "COMPACT_STRINGS" "Z" ∈ aW) (hdg : decode cc pc = .ok (.getstatic ix, 3)) (g : Wx X k ce sl H L (pc + 3) ls (.int 1 :: st)) : Wx X k ce sl H L pc ls st := va_gets C.hx C.hb (C.hE.2.2.2.2.2.2.1.narrow C.hAb) hw.2.2 C.hown (C.hts _ hlk) (fun _ h => h) hdg g
theorem r_gsf (C : Cx X k cc nL rt own A fr lo mc ms) (hw : Wd X k A ws H L) (hlk : Cond.fieldLink own ix "jdk/internal/util/Preconditions" "SIOOBE_FORMATTER" "Ljava/util/function/BiFunction;" ∈ aW) (hdg : decode cc pc = .ok (.getstatic ix, 3)) (g : ∀ v : Value, (v = .null ∨ ∃ a, v = .ref a) → Wx X k ce sl H L (pc + 3) ls (v :: st)) : Wx X k ce sl H L pc ls st := by
  rcases C.hE.2.2.2.2.2.2.2.narrow C.hAb with hz | ⟨t, hz⟩
  · exact va_gets C.hx C.hb hz hw.2.2 C.hown (C.hts _ hlk) (fun _ h => h) hdg (g _ (Or.inl rfl))
  · exact va_gets C.hx C.hb hz hw.2.2 C.hown (C.hts _ hlk) (fun _ h => h) hdg (g _ (Or.inr ⟨t, rfl⟩))
theorem r_ldcS (C : Cx X k cc nL rt own A fr lo mc ms) {tx : String} {q : Nat} (hZ : vk_R own ix tx q (ks k)) (hdg : decode cc pc = .ok (.ldc ix, 2)) (g : Wx X k ce sl H L (pc + 2) ls (.ref q :: st)) : Wx X k ce sl H L pc ls st := va_ldcS C.hx C.hb C.hown hZ hdg g
theorem r_aret {ty : String} (C : Cx X k cc nL (some (.object ty)) own A fr lo mc ms) {w0 w1 : va_W} {Po : Option Value → va_W → Prop} (hq : Rx X k A w0 Po mc ms) (hw : Wd X k A w1 H L) {a : Nat} (hp : Po (some (.ref a)) w1) (hdg : decode cc pc = .ok (.areturn, 1)) : Wx X k mc ms H L pc ls [.ref a] := by
  obtain ⟨sz, h1, h2, h3⟩ := r_ret0 hq hw hp
  have := W.aret (p := kp k) (l := eL X) (e := ke k) (R := kR k) (m := km k) (below := kb k) (c := kc k) (cells := mc) (slots := ms) (ls := ls) C.hx C.hb C.hr (Or.inl ⟨_, rfl⟩) (Or.inr ⟨a, rfl⟩) h2 h3 hdg C.hlk
  unfold Wx
  rw [h1]
  exact this
end STR
set_option maxRecDepth 100000 in
set_option maxHeartbeats 4000000 in
theorem mX6_wordOf (X : Ev) (p0 : Int32) (o : Nat) (h : fX6_wordOf p0 = some o) : Ctr X yX6_wordOf cX6_wordOf 1 (some (.object "java/lang/String")) 0 0 0 0 [.int p0] [] (De (some (.ref (eK X o))) []) := by
  refine Ctr.start (by decide) (Nat.le_of_ble_eq_true rfl) (fun k A ls C hq hin hW hl => ?_)
  replace C : Cx X k cX6_wordOf 1 (some (.object "java/lang/String")) RX6 A 0 0 0 0 := C
  replace hl : lv_has ls 1 [(0, .int p0)] := hl
  suffices hh : ∀ (H : Heap) (L : List Loc), Wd X k A [] H L → Wx X k 0 0 H L 0 ls [] from hh _ _ hW
  clear hW
  intro H L hW
  unfold fX6_wordOf at h
  refine r_iload_n C hl 0 dX6_wordOf_0 rfl rfl ?_
  by_cases c1 : p0 = 1
  · replace h := iT c1 h
    refine r_swI (tgt := 44) C dX6_wordOf_1 c1 (by decide) (by decide) rfl (by decide) ?_
    refine r_ldcS C (show vk_R RX6 86 "num" (eK X 0) _ from C.hE.2.2.2.2.2.1 0 (by decide)) dX6_wordOf_44 ?_
    exact r_aret C hq hW (by obtain rfl := Option.some.inj h; exact ⟨rfl, rfl⟩) dX6_wordOf_46
  replace h := iF c1 h
  by_cases c2 : p0 = 2
  · replace h := iT c2 h
    refine r_swI (tgt := 47) C dX6_wordOf_1 c2 (by decide) (by decide) rfl (by decide) ?_
    refine r_ldcS C (show vk_R RX6 88 "add" (eK X 1) _ from C.hE.2.2.2.2.2.1 1 (by decide)) dX6_wordOf_47 ?_
    exact r_aret C hq hW (by obtain rfl := Option.some.inj h; exact ⟨rfl, rfl⟩) dX6_wordOf_49
  replace h := iF c2 h
  by_cases c3 : p0 = 3
  · replace h := iT c3 h
    refine r_swI (tgt := 50) C dX6_wordOf_1 c3 (by decide) (by decide) rfl (by decide) ?_
    refine r_ldcS C (show vk_R RX6 90 "sub" (eK X 2) _ from C.hE.2.2.2.2.2.1 2 (by decide)) dX6_wordOf_50 ?_
    exact r_aret C hq hW (by obtain rfl := Option.some.inj h; exact ⟨rfl, rfl⟩) dX6_wordOf_52
  replace h := iF c3 h
  by_cases c4 : p0 = 4
  · replace h := iT c4 h
    refine r_swI (tgt := 53) C dX6_wordOf_1 c4 (by decide) (by decide) rfl (by decide) ?_
    refine r_ldcS C (show vk_R RX6 92 "mul" (eK X 3) _ from C.hE.2.2.2.2.2.1 3 (by decide)) dX6_wordOf_53 ?_
    exact r_aret C hq hW (by obtain rfl := Option.some.inj h; exact ⟨rfl, rfl⟩) dX6_wordOf_55
  replace h := iF c4 h
  by_cases c5 : p0 = 5
  · replace h := iT c5 h
    refine r_swI (tgt := 56) C dX6_wordOf_1 c5 (by decide) (by decide) rfl (by decide) ?_
    refine r_ldcS C (show vk_R RX6 94 "pick" (eK X 4) _ from C.hE.2.2.2.2.2.1 4 (by decide)) dX6_wordOf_56 ?_
    exact r_aret C hq hW (by obtain rfl := Option.some.inj h; exact ⟨rfl, rfl⟩) dX6_wordOf_58
  replace h := iF c5 h
  by_cases c6 : p0 = 6
  · replace h := iT c6 h
    refine r_swI (tgt := 59) C dX6_wordOf_1 c6 (by decide) (by decide) rfl (by decide) ?_
    refine r_ldcS C (show vk_R RX6 96 "sum" (eK X 5) _ from C.hE.2.2.2.2.2.1 5 (by decide)) dX6_wordOf_59 ?_
    exact r_aret C hq hW (by obtain rfl := Option.some.inj h; exact ⟨rfl, rfl⟩) dX6_wordOf_61
  replace h := iF c6 h
  by_cases c7 : p0 = 7
  · replace h := iT c7 h
    refine r_swI (tgt := 62) C dX6_wordOf_1 c7 (by decide) (by decide) rfl (by decide) ?_
    refine r_ldcS C (show vk_R RX6 98 "most" (eK X 6) _ from C.hE.2.2.2.2.2.1 6 (by decide)) dX6_wordOf_62 ?_
    exact r_aret C hq hW (by obtain rfl := Option.some.inj h; exact ⟨rfl, rfl⟩) dX6_wordOf_64
  replace h := iF c7 h
  refine r_swO (tgt := 65) C dX6_wordOf_1 (by have u1 := lv_neT (a := 1) c1 rfl; have u2 := lv_neT (a := 2) c2 rfl; have u3 := lv_neT (a := 3) c3 rfl; have u4 := lv_neT (a := 4) c4 rfl; have u5 := lv_neT (a := 5) c5 rfl; have u6 := lv_neT (a := 6) c6 rfl; have u7 := lv_neT (a := 7) c7 rfl; omega) (by decide) ?_
  refine r_ldcS C (show vk_R RX6 100 "when" (eK X 7) _ from C.hE.2.2.2.2.2.1 7 (by decide)) dX6_wordOf_65 ?_
  exact r_aret C hq hW (by obtain rfl := Option.some.inj h; exact ⟨rfl, rfl⟩) dX6_wordOf_67
set_option maxRecDepth 100000 in
set_option maxHeartbeats 4000000 in
theorem mJ3_checkIndex (X : Ev) (i n : Int32) (v : Value) (hv : v = .null ∨ ∃ a, v = .ref a) (h0 : ¬ i < 0) (h1 : i < n) : Ctr X yJ3_checkIndex_8e157 cJ3_checkIndex_8e157 3 (some .int) 0 0 0 0 [.int i, .int n, v] [] (De (some (.int i)) []) := by
  have hlen : (lg_sl [.int i, .int n, v]).length ≤ 3 := by rcases hv with rfl | ⟨a, rfl⟩ <;> exact Nat.le_of_ble_eq_true rfl
  refine Ctr.start (by decide) hlen (fun k A ls C hq hin hW hl => ?_)
  replace C : Cx X k cJ3_checkIndex_8e157 3 (some .int) RJ3 A 0 0 0 0 := C
  replace hl : lv_has ls 3 [(0, .int i), (1, .int n)] := lv_sub hl [0, 1] rfl
  suffices hh : ∀ (H : Heap) (L : List Loc), Wd X k A [] H L → Wx X k 0 0 H L 0 ls [] from hh _ _ hW
  clear hW
  intro H L hW
  refine r_iload_n C hl 0 dJ3_checkIndex_8e157_0 rfl rfl ?_
  refine r_if_lt (tgt := 9) C dJ3_checkIndex_8e157_1 (by decide) (fun c1 => absurd c1 h0) (fun _ => ?_)
  refine r_iload_n C hl 0 dJ3_checkIndex_8e157_4 rfl rfl ?_
  refine r_iload_n C hl 1 dJ3_checkIndex_8e157_5 rfl rfl ?_
  refine r_icmp_lt (tgt := 16) C dJ3_checkIndex_8e157_6 (by decide) (fun _ => ?_) (fun c1 => absurd h1 c1)
  refine r_iload_n C hl 0 dJ3_checkIndex_8e157_16 rfl rfl ?_
  exact r_iret C hq hW ⟨rfl, rfl⟩ dJ3_checkIndex_8e157_17
set_option maxRecDepth 100000 in
set_option maxHeartbeats 4000000 in
theorem mJ0_checkIndex (X : Ev) (i n : Int32) (h0 : ¬ i < 0) (h1 : i < n) : Ctr X yJ0_checkIndex_df160 cJ0_checkIndex_df160 2 none 1 22 0 0 [.int i, .int n] [] (De none []) := by
  refine Ctr.start (by decide) (Nat.le_of_ble_eq_true rfl) (fun k A ls C hq hin hW hl => ?_)
  replace C : Cx X k cJ0_checkIndex_df160 2 none RJ0 A 1 22 0 0 := C
  replace hl : lv_has ls 2 [(0, .int i), (1, .int n)] := hl
  suffices hh : ∀ (H : Heap) (L : List Loc), Wd X k A [] H L → Wx X k 0 0 H L 0 ls [] from hh _ _ hW
  clear hW
  intro H L hW
  refine r_iload_n C hl 0 dJ0_checkIndex_df160_0 rfl rfl ?_
  refine r_iload_n C hl 1 dJ0_checkIndex_df160_1 rfl rfl ?_
  refine r_gsf C hW w_fl_J0_1053 dJ0_checkIndex_df160_2 (fun v hv => ?_)
  refine r_S0 (st := []) (np := 3) C hl (mJ3_checkIndex X i n v hv h0 h1) hW w_cd_J3_checkIndex_8e157 w_ml_J0_1059 w_st_J3_checkIndex_8e157 w_in_jdk_internal_util_Preconditions (by decide +kernel) rfl ⟨Nat.le_of_ble_eq_true rfl, Nat.le_of_ble_eq_true rfl⟩ ⟨Nat.zero_le _, Nat.zero_le _⟩ (Nat.le_of_ble_eq_true rfl) dJ0_checkIndex_df160_5 (fun H L hW => ?_) rfl
  show Wx X k 0 0 H L 8 ls [.int i]
  refine r_pop C rfl dJ0_checkIndex_df160_8 ?_
  exact r_vret C hq hW ⟨rfl, rfl⟩ dJ0_checkIndex_df160_9
theorem slen_lt {i : Nat} (hi : i < 8) {k : Int32} (h : vp_in k (jsLen.getD i 0)) : ¬ k < 0 ∧ k < slen i := by
  have hl : jsLen.getD i 0 < 2 ^ 31 := by
    have : ∀ i, i < 8 → jsLen.getD i 0 < 2 ^ 31 := by decide
    exact this i hi
  obtain ⟨j, hj, rfl⟩ := vp_in_of h hl
  exact ⟨nI_pos (by omega), nI_lt hj hl⟩
set_option maxRecDepth 100000 in
set_option maxHeartbeats 4000000 in
theorem mJ1_charAt (X : Ev) (i : Nat) (hi : i < 8) (q : Int32) (hk : vp_in q (jsLen.getD i 0)) : Ctr X yJ1_charAt_3b067 cJ1_charAt_3b067 2 (some .char) 2 43 0 0 [.ref (eV X i), .int q] [] (De (some (.int (sch i q))) []) := by
  obtain ⟨h0, h1⟩ := slen_lt hi hk
  refine Ctr.start (by decide) (Nat.le_of_ble_eq_true rfl) (fun k A ls C hq hin hW hl => ?_)
  replace C : Cx X k cJ1_charAt_3b067 2 (some .char) RJ1 A 2 43 0 0 := C
  replace hl : lv_has ls 2 [(0, .ref (eV X i)), (1, .int q)] := hl
  suffices hh : ∀ (H : Heap) (L : List Loc), Wd X k A [] H L → Wx X k 0 0 H L 0 ls [] from hh _ _ hW
  clear hW
  intro H L hW
  refine r_iload_n C hl 1 dJ1_charAt_3b067_0 rfl rfl ?_
  refine r_aload_n C hl 0 dJ1_charAt_3b067_1 rfl rfl ?_
  refine r_stl C hW hi dJ1_charAt_3b067_2 ?_
  refine r_S0 (st := []) (np := 2) C hl (mJ0_checkIndex X q (slen i) h0 h1) hW w_cd_J0_checkIndex_df160 w_ml_J1_9 w_st_J0_checkIndex_df160 w_in_java_lang_String (by decide +kernel) rfl ⟨Nat.le_of_ble_eq_true rfl, Nat.le_of_ble_eq_true rfl⟩ ⟨Nat.zero_le _, Nat.zero_le _⟩ (Nat.le_of_ble_eq_true rfl) dJ1_charAt_3b067_3 (fun H L hW => ?_) rfl
  show Wx X k 0 0 H L 6 ls []
  refine r_aload_n C hl 0 dJ1_charAt_3b067_6 rfl rfl ?_
  refine r_iload_n C hl 1 dJ1_charAt_3b067_7 rfl rfl ?_
  refine r_stb C hW hi hk dJ1_charAt_3b067_8 ?_
  refine r_sipush (v := 255) C dJ1_charAt_3b067_9 (by decide) ?_
  refine r_iand C dJ1_charAt_3b067_12 ?_
  refine r_i2c C dJ1_charAt_3b067_13 ?_
  rw [sc_c2]
  exact r_zret C hq hW (sc_nar _) ⟨rfl, rfl⟩ dJ1_charAt_3b067_14
set_option maxRecDepth 100000 in
set_option maxHeartbeats 4000000 in
theorem mJ0_coder (X : Ev) (i : Nat) (hi : i < 8) : Ctr X yJ0_coder_7d493 cJ0_coder_7d493 1 (some .byte) 0 0 0 0 [.ref (eK X i)] [] (De (some (.int 0)) []) := by
  refine Ctr.start (by decide) (Nat.le_of_ble_eq_true rfl) (fun k A ls C hq hin hW hl => ?_)
  replace C : Cx X k cJ0_coder_7d493 1 (some .byte) RJ0 A 0 0 0 0 := C
  replace hl : lv_has ls 1 [(0, .ref (eK X i))] := hl
  suffices hh : ∀ (H : Heap) (L : List Loc), Wd X k A [] H L → Wx X k 0 0 H L 0 ls [] from hh _ _ hW
  clear hW
  intro H L hW
  refine r_gcs C hW w_fl_J0_38 dJ0_coder_7d493_0 ?_
  refine r_if_eq (tgt := 13) C dJ0_coder_7d493_3 (by decide) (fun c1 => absurd c1 (by decide)) (fun _ => ?_)
  refine r_aload_n C hl 0 dJ0_coder_7d493_6 rfl rfl ?_
  refine r_scod C hW hi w_fl_J0_15 dJ0_coder_7d493_7 ?_
  refine r_goto (tgt := 14) C dJ0_coder_7d493_10 (by decide) ?_
  exact r_zret C hq hW (by decide) ⟨rfl, rfl⟩ dJ0_coder_7d493_14
set_option maxRecDepth 100000 in
set_option maxHeartbeats 4000000 in
theorem mJ0_isLatin1 (X : Ev) (i : Nat) (hi : i < 8) : Ctr X yJ0_isLatin1_aae02 cJ0_isLatin1_aae02 1 (some .boolean) 0 0 0 0 [.ref (eK X i)] [] (De (some (.int 1)) []) := by
  refine Ctr.start (by decide) (Nat.le_of_ble_eq_true rfl) (fun k A ls C hq hin hW hl => ?_)
  replace C : Cx X k cJ0_isLatin1_aae02 1 (some .boolean) RJ0 A 0 0 0 0 := C
  replace hl : lv_has ls 1 [(0, .ref (eK X i))] := hl
  suffices hh : ∀ (H : Heap) (L : List Loc), Wd X k A [] H L → Wx X k 0 0 H L 0 ls [] from hh _ _ hW
  clear hW
  intro H L hW
  refine r_gcs C hW w_fl_J0_38 dJ0_isLatin1_aae02_0 ?_
  refine r_if_eq (tgt := 17) C dJ0_isLatin1_aae02_3 (by decide) (fun c1 => absurd c1 (by decide)) (fun _ => ?_)
  refine r_aload_n C hl 0 dJ0_isLatin1_aae02_6 rfl rfl ?_
  refine r_scod C hW hi w_fl_J0_15 dJ0_isLatin1_aae02_7 ?_
  refine r_if_ne (tgt := 17) C dJ0_isLatin1_aae02_10 (by decide) (fun c1 => absurd rfl c1) (fun _ => ?_)
  refine r_iconst (v := 1) C dJ0_isLatin1_aae02_13 (by decide) ?_
  refine r_goto (tgt := 18) C dJ0_isLatin1_aae02_14 (by decide) ?_
  exact r_zret C hq hW (by decide) ⟨rfl, rfl⟩ dJ0_isLatin1_aae02_18
theorem slen_shr {i : Nat} (hi : i < 8) : slen i >>> ((0 : Int32) &&& 31) = slen i := by
  have : ∀ i, i < 8 → slen i >>> ((0 : Int32) &&& 31) = slen i := by decide
  exact this i hi
set_option maxRecDepth 100000 in
set_option maxHeartbeats 4000000 in
theorem mJ0_length_8abf5 (X : Ev) (i : Nat) (o : Int32) (h : fJ0_length_8abf5 i = some o) : Ctr X yJ0_length_8abf5 cJ0_length_8abf5 1 (some .int) 1 20 0 0 [.ref (eK X i)] [] (De (some (.int o)) []) := by
  have hi := fJ0_length_lt h
  obtain rfl : slen i = o := by unfold fJ0_length_8abf5 at h; rw [if_pos hi] at h; exact Option.some.inj h
  refine Ctr.start (by decide) (Nat.le_of_ble_eq_true rfl) (fun k A ls C hq hin hW hl => ?_)
  replace C : Cx X k cJ0_length_8abf5 1 (some .int) RJ0 A 1 20 0 0 := C
  replace hl : lv_has ls 1 [(0, .ref (eK X i))] := hl
  suffices hh : ∀ (H : Heap) (L : List Loc), Wd X k A [] H L → Wx X k 0 0 H L 0 ls [] from hh _ _ hW
  clear hW
  intro H L hW
  refine r_aload_n C hl 0 dJ0_length_8abf5_0 rfl rfl ?_
  refine r_sval C hW hi w_fl_J0_9 dJ0_length_8abf5_1 ?_
  refine r_stl C hW hi dJ0_length_8abf5_4 ?_
  refine r_aload_n C hl 0 dJ0_length_8abf5_5 rfl rfl ?_
  refine r_VS (np := 0) (As := []) C hl (mJ0_coder X i hi) hW hi w_cd_J0_coder_7d493 w_ml_J0_335 w_im_J0_coder_7d493 w_sel_J0_coder_7d493 w_in_java_lang_String (by decide +kernel) rfl ⟨Nat.le_of_ble_eq_true rfl, Nat.le_of_ble_eq_true rfl⟩ ⟨Nat.zero_le _, Nat.zero_le _⟩ (Nat.le_of_ble_eq_true rfl) dJ0_length_8abf5_6 (fun H L hW => ?_) rfl
  show Wx X k 0 0 H L 9 ls [.int 0, .int (slen i)]
  refine r_ishr C dJ0_length_8abf5_9 ?_
  rw [slen_shr hi]
  exact r_iret C hq hW ⟨rfl, rfl⟩ dJ0_length_8abf5_10
set_option maxRecDepth 100000 in
set_option maxHeartbeats 4000000 in
theorem mJ0_charAt_5068e (X : Ev) (i : Nat) (q : Int32) (o : Int32) (h : fJ0_charAt_5068e i q = some o) : Ctr X yJ0_charAt_5068e cJ0_charAt_5068e 2 (some .char) 3 64 0 0 [.ref (eK X i), .int q] [] (De (some (.int o)) []) := by
  have hi := fJ0_charAt_lt h
  obtain ⟨hk, rfl⟩ : vp_in q (jsLen.getD i 0) ∧ sch i q = o := by
    unfold fJ0_charAt_5068e at h
    split at h
    · rename_i h1; exact ⟨h1.2, Option.some.inj h⟩
    · cases h
  refine Ctr.start (by decide) (Nat.le_of_ble_eq_true rfl) (fun k A ls C hq hin hW hl => ?_)
  replace C : Cx X k cJ0_charAt_5068e 2 (some .char) RJ0 A 3 64 0 0 := C
  replace hl : lv_has ls 2 [(0, .ref (eK X i)), (1, .int q)] := hl
  suffices hh : ∀ (H : Heap) (L : List Loc), Wd X k A [] H L → Wx X k 0 0 H L 0 ls [] from hh _ _ hW
  clear hW
  intro H L hW
  refine r_aload_n C hl 0 dJ0_charAt_5068e_0 rfl rfl ?_
  refine r_VS (np := 0) (As := []) C hl (mJ0_isLatin1 X i hi) hW hi w_cd_J0_isLatin1_aae02 w_ml_J0_492 w_im_J0_isLatin1_aae02 w_sel_J0_isLatin1_aae02 w_in_java_lang_String (by decide +kernel) rfl ⟨Nat.le_of_ble_eq_true rfl, Nat.le_of_ble_eq_true rfl⟩ ⟨Nat.zero_le _, Nat.zero_le _⟩ (Nat.le_of_ble_eq_true rfl) dJ0_charAt_5068e_1 (fun H L hW => ?_) rfl
  show Wx X k 0 0 H L 4 ls [.int 1]
  refine r_if_eq (tgt := 16) C dJ0_charAt_5068e_4 (by decide) (fun c1 => absurd c1 (by decide)) (fun _ => ?_)
  refine r_aload_n C hl 0 dJ0_charAt_5068e_7 rfl rfl ?_
  refine r_sval C hW hi w_fl_J0_9 dJ0_charAt_5068e_8 ?_
  refine r_iload_n C hl 1 dJ0_charAt_5068e_11 rfl rfl ?_
  refine r_S0 (st := []) (np := 2) C hl (mJ1_charAt X i hi q hk) hW w_cd_J1_charAt_3b067 w_ml_J0_495 w_st_J1_charAt_3b067 w_in_java_lang_StringLatin1 (by decide +kernel) rfl ⟨Nat.le_of_ble_eq_true rfl, Nat.le_of_ble_eq_true rfl⟩ ⟨Nat.zero_le _, Nat.zero_le _⟩ (Nat.le_of_ble_eq_true rfl) dJ0_charAt_5068e_12 (fun H L hW => ?_) rfl
  show Wx X k 0 0 H L 15 ls [.int (sch i q)]
  exact r_zret C hq hW (sc_nar _) ⟨rfl, rfl⟩ dJ0_charAt_5068e_15
