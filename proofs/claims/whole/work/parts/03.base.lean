/-! BASE: the environment of all contracts (Ev, En), a contract (Ctr), a method's context (KT, Cx, Wd, Rx), the machine at a place (Wx) -/
abbrev Ev : Type := Launch × va_G × (ClassId × ClassId × ClassId × ClassId × ClassId) × (Nat × Nat) × ((Nat → Nat) × (Nat → Nat))
def eL (X : Ev) : Launch := X.1
def eD (X : Ev) : va_G := X.2.1
def eI (X : Ev) : ClassId := X.2.2.1.1
def eB (X : Ev) : ClassId := X.2.2.1.2.1
def eZ (X : Ev) : ClassId := X.2.2.1.2.2.1
def eF (X : Ev) : ClassId := X.2.2.1.2.2.2.1
def eR (X : Ev) : ClassId := X.2.2.1.2.2.2.2
def eb (X : Ev) : Nat := X.2.2.2.1.1
def et (X : Ev) : Nat := X.2.2.2.1.2
def eK (X : Ev) : Nat → Nat := X.2.2.2.2.1
def eV (X : Ev) : Nat → Nat := X.2.2.2.2.2
def eT (X : Ev) : List (ClassId × FieldType) := [(eI X, .int), (eB X, .byte), (eZ X, .boolean), (eF X, .object RX1), (eR X, .object RX4)]
/-- the table OPERANDS -/
def opT : Nat → Int32 := fun j => ([0, 1, 2, 2, 2, 1, 2, 2, 3] : List Int32).getD j 0
def jsLen : List Nat := [3, 3, 3, 3, 4, 3, 4, 4]
def jsByt : List (List Int32) := [[110, 117, 109], [97, 100, 100], [115, 117, 98], [109, 117, 108], [112, 105, 99, 107], [115, 117, 109], [109, 111, 115, 116], [119, 104, 101, 110]]
def jsIx : List Nat := [86, 88, 90, 92, 94, 96, 98, 100]
def jsTx : List String := ["num", "add", "sub", "mul", "pick", "sum", "most", "when"]
/-- what holds of the machine around all our cells -/
def En (X : Ev) (U : State) : Prop := (∀ x ∈ nwM, va_Nw (.methodLinkNest x.1 x.2.1 x.2.2.1 x.2.2.2) U) ∧ (∀ x ∈ nwF, va_Nw (.fieldLinkNest x.1 x.2.1 x.2.2.1 x.2.2.2.1 x.2.2.2.2.1 x.2.2.2.2.2) U) ∧
  va_Z RX7 "OPERANDS" "[I" (.ref (et X)) (fun q => eb X ≤ q) U U.heap ∧ va_T .int (et X) 9 (fun j => .int (opT j)) (fun q => eb X ≤ q) U U.heap ∧
  vk_S 8 jsLen jsByt (eK X) (eV X) (fun q => eb X ≤ q) U U.heap ∧ (∀ i, i < 8 → vk_R RX6 (jsIx.getD i 0) (jsTx.getD i "") (eK X i) U) ∧
  va_Z "java/lang/String" "COMPACT_STRINGS" "Z" (.int 1) (fun q => eb X ≤ q) U U.heap ∧ va_Zq "jdk/internal/util/Preconditions" "SIOOBE_FORMATTER" "Ljava/util/function/BiFunction;" (fun q => eb X ≤ q) U U.heap
theorem En.same {X : Ev} {u U : State} (hv : u.vm = U.vm) (hh : u.heap = U.heap) (h : En X u) : En X U := by
  obtain ⟨h1, h2, h3, h4, h5, h6, h7, h8⟩ := h
  have ha : u.vm.Alike U.vm := by rw [hv]; exact Vm.Alike.refl _
  refine ⟨fun x hx => va_Nw.same rfl hv (h1 x hx), fun x hx => va_Nw.same rfl hv (h2 x hx), ?_, ?_, ?_, fun i hi => vk_R.same hv.symm (h6 i hi), ?_, ?_⟩
  · rw [← hh]; exact va_Z.moved ha h3
  · rw [← hh]; exact va_T.moved ha h4
  · rw [← hh]; exact vk_S.moved ha h5
  · rw [← hh]; exact va_Z.moved ha h7
  · rw [← hh]; exact va_Zq.moved ha h8
theorem En.step {X : Ev} {s U : State} {A : Nat → Prop} {H : Heap} {L : List Loc} (h : En X s) (hS : va_S A s.heap H L) (hA : ∀ q, A q → eb X ≤ q) (hU : U.heap = H) (hW : s.WarmedH U.vm) : En X U := by
  obtain ⟨h1, h2, h3, h4, h5, h6, h7, h8⟩ := h
  have ha : s.vm.Alike U.vm := hW.alike
  have hk : ∀ a : Nat, a < s.heap.size → ¬ (eb X ≤ a) → H[a]? = s.heap[a]? := fun a hl hn => hS.2.1 a hl (fun z => hn (hA a z))
  refine ⟨fun x hx => va_Nw.warmM hW (h1 x hx), fun x hx => va_Nw.warmF hW (h2 x hx), ?_, ?_, ?_, fun i hi => vk_R.warm hW (h6 i hi), ?_, ?_⟩
  · rw [hU]; exact va_Z.moved ha (h3.kept hk)
  · rw [hU]; exact va_T.moved ha (h4.kept hk)
  · rw [hU]; exact vk_S.moved ha (h5.kept hk)
  · rw [hU]; exact va_Z.moved ha (h7.kept hk)
  · rw [hU]; exact va_Zq.moved ha (h8.kept hk)
/-- a method's start -/
def Pre (X : Ev) (w0 : va_W) (sz : Nat) (U : State) : Prop := U.heap.size = sz ∧ va_P (eD X) vwCl w0 U.heap ∧ va_K (eD X) vwCl (eT X) U ∧ va_D (fun q => eb X ≤ q) w0 ∧ eb X ≤ sz ∧ En X U
/-- its end: what it answers, and its cells -/
def Pos (X : Ev) (w0 : va_W) (sz : Nat) (Po : Option Value → va_W → Prop) : Array Value → State → Outcome → State → Prop := fun _ st oc t => (∃ (rv : Option Value) (w1 : va_W), oc = .returned rv ∧ Po rv w1 ∧ va_P (eD X) vwCl w1 t.heap ∧ va_D (va_A w0 sz) w1) ∧ va_F (va_A w0 sz) st t
/-- a contract -/
def Ctr (X : Ev) (y : MethodName) (cc : ByteArray) (nL : Nat) (rt : Option FieldType) (fr lo mc ms : Nat) (av : List Value) (w0 : va_W) (Po : Option Value → va_W → Prop) : Prop :=
  ∀ sz : Nat, Met (eL X) y (.code y cc nL rt :: aW) { frames := fr, cells := mc, slots := ms, locals := lo } (va_Pc av (Pre X w0 sz)) (Pos X w0 sz Po) mc ms (va_A w0 sz)
/-- an end that is known -/
def De (rv : Option Value) (w1 : va_W) : Option Value → va_W → Prop := fun r w => r = rv ∧ w = w1
/-- program, environment, room, start, method, arguments, frames below, method, code, aim -/
abbrev KT : Type := Program × Env × Room × State × MethodId × Array Value × List Frame × Method × Code × (State → Prop)
def kp (k : KT) : Program := k.1
def ke (k : KT) : Env := k.2.1
def kR (k : KT) : Room := k.2.2.1
def ks (k : KT) : State := k.2.2.2.1
def km (k : KT) : MethodId := k.2.2.2.2.1
def ka (k : KT) : Array Value := k.2.2.2.2.2.1
def kb (k : KT) : List Frame := k.2.2.2.2.2.2.1
def kt (k : KT) : Method := k.2.2.2.2.2.2.2.1
def kc (k : KT) : Code := k.2.2.2.2.2.2.2.2.1
def kQ (k : KT) : State → Prop := k.2.2.2.2.2.2.2.2.2
def Wx (X : Ev) (k : KT) (ce sl : Nat) (H : Heap) (L : List Loc) (pc : Nat) (ls : Array Slot) (st : List Value) : Prop := W (kp k) (eL X) (ke k) (kR k) (ks k) (km k) (ka k) (kb k) (kt k) (kc k) H L ce sl (kQ k) (F0 (km k) pc ls st)
/-- the context of a method's walk -/
def Cx (X : Ev) (k : KT) (cc : ByteArray) (nL : Nat) (rt : Option FieldType) (own : String) (A : Nat → Prop) (fr lo mc ms : Nat) : Prop :=
  (kp k).tables.exec = Jvm.exec ∧ (kc k).code = cc ∧ (kc k).maxLocals = nL ∧ (ks k).vm.findClass own = some (km k).cls ∧ (∀ w ∈ aW, w.before (ka k) (ks k) = true) ∧ va_K (eD X) vwCl (eT X) (ks k) ∧ (∀ q, (ks k).heap.size ≤ q → A q) ∧ (∀ q, A q → eb X ≤ q) ∧ En X (ks k) ∧ (kt k).sig.returnType = rt ∧ (kt k).locks = false ∧ kR k = { frames := fr, cells := mc, slots := ms, locals := lo }
/-- the cells, their apartness, what has changed -/
def Wd (X : Ev) (k : KT) (A : Nat → Prop) (ws : va_W) (H : Heap) (L : List Loc) : Prop := va_P (eD X) vwCl ws H ∧ va_D A ws ∧ va_S A (ks k).heap H L
/-- where the walk goes -/
def Rx (X : Ev) (k : KT) (A : Nat → Prop) (w0 : va_W) (Po : Option Value → va_W → Prop) (mc ms : Nat) : Prop := ∃ sz : Nat, A = va_A w0 sz ∧ kQ k = MQ (kb k) (Pos X w0 sz Po) (ka k) (ks k) mc ms (va_A w0 sz)
theorem Cx.hx {X k cc nL rt own A fr lo mc ms} (C : Cx X k cc nL rt own A fr lo mc ms) : (kp k).tables.exec = Jvm.exec := C.1
theorem Cx.hb {X k cc nL rt own A fr lo mc ms} (C : Cx X k cc nL rt own A fr lo mc ms) : (kc k).code = cc := C.2.1
theorem Cx.hml {X k cc nL rt own A fr lo mc ms} (C : Cx X k cc nL rt own A fr lo mc ms) : (kc k).maxLocals = nL := C.2.2.1
theorem Cx.hown {X k cc nL rt own A fr lo mc ms} (C : Cx X k cc nL rt own A fr lo mc ms) : (ks k).vm.findClass own = some (km k).cls := C.2.2.2.1
theorem Cx.hts {X k cc nL rt own A fr lo mc ms} (C : Cx X k cc nL rt own A fr lo mc ms) : ∀ w ∈ aW, w.before (ka k) (ks k) = true := C.2.2.2.2.1
theorem Cx.hK {X k cc nL rt own A fr lo mc ms} (C : Cx X k cc nL rt own A fr lo mc ms) : va_K (eD X) vwCl (eT X) (ks k) := C.2.2.2.2.2.1
theorem Cx.hA {X k cc nL rt own A fr lo mc ms} (C : Cx X k cc nL rt own A fr lo mc ms) : ∀ q, (ks k).heap.size ≤ q → A q := C.2.2.2.2.2.2.1
theorem Cx.hAb {X k cc nL rt own A fr lo mc ms} (C : Cx X k cc nL rt own A fr lo mc ms) : ∀ q, A q → eb X ≤ q := C.2.2.2.2.2.2.2.1
theorem Cx.hE {X k cc nL rt own A fr lo mc ms} (C : Cx X k cc nL rt own A fr lo mc ms) : En X (ks k) := C.2.2.2.2.2.2.2.2.1
theorem Cx.hr {X k cc nL rt own A fr lo mc ms} (C : Cx X k cc nL rt own A fr lo mc ms) : (kt k).sig.returnType = rt := C.2.2.2.2.2.2.2.2.2.1
theorem Cx.hlk {X k cc nL rt own A fr lo mc ms} (C : Cx X k cc nL rt own A fr lo mc ms) : (kt k).locks = false := C.2.2.2.2.2.2.2.2.2.2.1
theorem Cx.hR {X k cc nL rt own A fr lo mc ms} (C : Cx X k cc nL rt own A fr lo mc ms) : kR k = { frames := fr, cells := mc, slots := ms, locals := lo } := C.2.2.2.2.2.2.2.2.2.2.2
/-- a contract's start -/
theorem Ctr.start {X : Ev} {y : MethodName} {cc : ByteArray} {nL : Nat} {rt : Option FieldType} {fr lo mc ms : Nat} {av : List Value} {w0 : va_W} {Po : Option Value → va_W → Prop} (hy : plainName y.cls = true) (hlen : (lg_sl av).length ≤ nL)
    (body : ∀ (k : KT) (A : Nat → Prop) (ls : Array Slot), Cx X k cc nL rt y.cls A fr lo mc ms → Rx X k A w0 Po mc ms → (y.name = "<init>" → (kt k).name = "<init>") → Wd X k A w0 (ks k).heap [] → lv_has ls nL (lv_args 0 av) → Wx X k 0 0 (ks k).heap [] 0 ls []) : Ctr X y cc nL rt fr lo mc ms av w0 Po := by
  intro sz
  refine Met.ofW (cc := cc) (maxL := nL) (ret := rt) hy rfl ?_
  intro p e s m args below meth c s₁ B hml hv
  obtain ⟨rfl, hsz, hP, hK, hD, hbs, hE⟩ := hv
  have hts := atoms_spec (ws := .code y cc nL rt :: aW) B.pre
  have hown : s.vm.findClass y.cls = some m.cls := findClass_of_methodNamed B.named
  subst hsz
  have hl := lv_entry av (n := nL) hlen
  have hC : Cx X (p, e, { frames := fr, cells := mc, slots := ms, locals := lo }, s, m, av.toArray, below, meth, c, MQ below (Pos X w0 s.heap.size Po) av.toArray s mc ms (va_A w0 s.heap.size)) cc nL rt y.cls (va_A w0 s.heap.size) fr lo mc ms := by
    refine ⟨B.exec, B.bytes, hml, hown, fun w hw => hts w (List.mem_cons_of_mem _ hw), hK, fun q h => Or.inr h, fun q h => ?_, hE, B.returns, B.notSynchronized, rfl⟩
    rcases h with ⟨i, ee, h⟩ | h
    · exact hD.2 i _ h
    · exact Nat.le_trans hbs h
  have := body _ _ ((lg_sl av ++ List.replicate (nL - (lg_sl av).length) Slot.unset).toArray) hC ⟨s.heap.size, rfl, rfl⟩ (fun hn => by show meth.name = _; rw [← hn]; exact (name_of_methodNamed B.named B.method).1) ⟨hP, hD.self, va_S.rf⟩ hl
  rw [lg_entry_eq]
  exact this
theorem Wd.sub {X : Ev} {k : KT} {A : Nat → Prop} {ws ws' : va_W} {H : Heap} {L : List Loc} (h : Wd X k A ws H L) (is : List Nat) (hn : va_nd is = true) (hs : is.map (fun i => ws[i]?) = ws'.map some) : Wd X k A ws' H L := by
  refine ⟨h.1.sub is ?_, h.2.1.sub is hn hs, h.2.2⟩
  have e : is.filterMap (fun i => ws[i]?) = (is.map (fun i => ws[i]?)).filterMap id := by rw [List.filterMap_map]; rfl
  rw [e, hs]
  simp [List.filterMap_map]
/-- the frame's rule: what a call leaves -/
theorem Wd.call {X : Ev} {k : KT} {cc : ByteArray} {nL : Nat} {rt : Option FieldType} {own : String} {A : Nat → Prop} {fr lo mc ms : Nat} (C : Cx X k cc nL rt own A fr lo mc ms) {ws wc wr w1 : va_W} {H H1 : Heap} {L L1 : List Loc} (h : Wd X k A ws H L) (isC isR : List Nat) (hC : isC.map (fun i => ws[i]?) = wc.map some) (hR : isR.map (fun i => ws[i]?) = wr.map some) (hn : va_nd isR = true) (hdis : ∀ i ∈ isR, i ∉ isC)
    (hk : ∀ q : Nat, q < H.size → ¬ va_A wc H.size q → H1[q]? = H[q]?) (hS1 : va_S A (ks k).heap H1 L1) (hP1 : va_P (eD X) vwCl w1 H1) (hD1 : va_D (va_A wc H.size) w1) : Wd X k A (wr ++ w1) H1 L1 := by
  obtain ⟨hP, hD, hS⟩ := h
  have hF := va_free (wc := wc) hD hS C.hA isC hC
  obtain ⟨a, b⟩ := va_join hP hD isC isR hC hR hn hdis hk hF hP1 hD1
  exact ⟨a, b, hS1⟩
theorem Pre.blind {X : Ev} {av : List Value} {w0 : va_W} {sz : Nat} : FrameBlind (va_Pc av (Pre X w0 sz)) := by
  intro a U g mk q
  obtain ⟨q0, q1, qP, qK, qD, qb, qE⟩ := q
  exact ⟨q0, q1, qP, va_K.moved (u := U) (U := U.calling g mk a) (Vm.Alike.refl U.vm) qK, qD, qb, En.same (u := U) (U := U.calling g mk a) rfl rfl qE⟩
theorem Pre.at {X : Ev} {k : KT} {cc : ByteArray} {nL : Nat} {rt : Option FieldType} {own : String} {A : Nat → Prop} {fr lo mc ms : Nat} (C : Cx X k cc nL rt own A fr lo mc ms) {ws wc : va_W} {H : Heap} {L : List Loc} (h : Wd X k A ws H L) (isC : List Nat) (hn : va_nd isC = true) (hC : isC.map (fun i => ws[i]?) = wc.map some) {av : List Value} : ∀ U : State, U.heap = H → (ks k).WarmedH U.vm → va_Pc av (Pre X wc H.size) av.toArray U := by
  intro U hU hW
  have hc : Wd X k A wc H L := h.sub isC hn hC
  have hsz : eb X ≤ H.size := Nat.le_trans (C.hAb _ (C.hA _ (Nat.le_refl _))) h.2.2.1
  exact ⟨rfl, by rw [hU], by rw [hU]; exact hc.1, va_K.moved hW.alike C.hK, hc.2.1.weaken (fun _ _ _ hq => C.hAb _ hq), hsz, C.hE.step h.2.2 C.hAb hU hW⟩
/-- behind a call -/
theorem Wx.run {X : Ev} {k : KT} {cc : ByteArray} {nL : Nat} {rt : Option FieldType} {own : String} {A : Nat → Prop} {fr lo mc ms : Nat} (C : Cx X k cc nL rt own A fr lo mc ms) {ws wc wr : va_W} {H : Heap} {L : List Loc} {ce sl mc' ms' pc : Nat} {ls : Array Slot} {st0 st : List Value} {Po : Option Value → va_W → Prop} {av : Array Value} (h : Wd X k A ws H L) (isC isR : List Nat) (hC : isC.map (fun i => ws[i]?) = wc.map some) (hR : isR.map (fun i => ws[i]?) = wr.map some) (hn : va_nd isR = true) (hdis : ∀ i ∈ isR, i ∉ isC)
    (hr : va_Run (kp k) (eL X) (ke k) (kR k) (ks k) (km k) (ka k) (kb k) (kt k) (kc k) H L ce sl mc' ms' (F0 (km k) pc ls st0) st (Pos X wc H.size Po av) (va_A wc H.size))
    (g : ∀ (rv : Option Value) (w1 : va_W) (H1 : Heap) (L1 : List Loc), Po rv w1 → Wd X k A (wr ++ w1) H1 L1 → Wx X k (ce + mc') (sl + ms') H1 L1 (pc + 3) ls (rv.toList ++ st)) : Wx X k ce sl H L pc ls st0 := by
  have hF := va_free (wc := wc) h.2.1 h.2.2 C.hA isC hC
  intro T hT Y
  obtain ⟨v, st₀, t, T', L', h0, X', hL, e1, e2, ⟨⟨rv, w1, hv, hp, hP1, hD1⟩, hz, hk⟩, stp⟩ := hr T hT Y
  cases hv
  rw [h0] at hz hk
  have hS := h.2.2
  have hS1 : va_S A (ks k).heap T'.heap (L ++ L') := ⟨Nat.le_trans hS.1 (by rw [e1]; exact hz), fun q h1 h2 => by rw [e1, hk q (Nat.lt_of_lt_of_le h1 hS.1) (fun z => h2 (hF q z))]; exact hS.2.1 q h1 h2, fun q hq => by
      rcases List.mem_append.mp hq with hh | hh
      · exact hS.2.2 q hh
      · exact hF _ (hL q hh)⟩
  obtain ⟨t2, a1, b1⟩ := g v w1 T'.heap (L ++ L') hp (Wd.call C h isC isR hC hR hn hdis (fun q h1 h2 => by rw [e1]; exact hk q h1 h2) hS1 (by rw [e1]; exact hP1) hD1) T' rfl X'
  exact ⟨t2, stp t2 a1, b1⟩
theorem gd_cons {y : MethodName} {c : ByteArray} {n : Nat} {r : Option FieldType} (h : Cond.code y c n r ∈ aW) : GoodIn aW (Cond.code y c n r :: aW) := fun w hw => by
  rcases List.mem_cons.mp hw with rfl | hw
  · exact aW_good _ h
  · exact aW_good w hw
section CALLS
variable {X : Ev} {k : KT} {cc : ByteArray} {nL : Nat} {rt : Option FieldType} {own : String} {A : Nat → Prop} {fr lo mc ms : Nat} {ws wc wr : va_W} {H : Heap} {L : List Loc} {ce sl pc : Nat} {ls : Array Slot} {st : List Value} {Po : Option Value → va_W → Prop}
variable {y : MethodName} {c' : ByteArray} {n' : Nat} {r' : Option FieldType} {fr' lo' mc' ms' ix : Nat} {As : List Value} {b : Nat} {lv : List (Nat × Value)}
theorem rm_le (C : Cx X k cc nL rt own A fr lo mc ms) (hrm : fr' + 1 ≤ fr ∧ 8 + (n' + 11) + lo' ≤ lo) : fr' + 1 ≤ (kR k).frames ∧ 8 + (n' + 11) + lo' ≤ (kR k).locals := by
  rw [C.hR]; exact hrm
theorem rm_ce (C : Cx X k cc nL rt own A fr lo mc ms) (hf : ce + mc' ≤ mc ∧ sl + ms' ≤ ms) : ce + mc' ≤ (kR k).cells ∧ sl + ms' ≤ (kR k).slots := by
  rw [C.hR]; exact hf
theorem fix_of (C : Cx X k cc nL rt own A fr lo mc ms) : CallFix (kp k) (km k) (kc k) cc nL (ks k) (ka k) aW own := ⟨C.hx, C.hb, C.hml, C.hown, C.hts⟩
/-- invokevirtual of a method of a class of ours -/
theorem r_V (C : Cx X k cc nL rt own A fr lo mc ms) (hl : lv_has ls nL lv) (M : Ctr X y c' n' r' fr' lo' mc' ms' (.ref b :: As) wc Po) (hw : Wd X k A ws H L) (isC isR : List Nat) (hC : isC.map (fun i => ws[i]?) = wc.map some) (hnC : va_nd isC = true) (hR : isR.map (fun i => ws[i]?) = wr.map some) (hn : va_nd isR = true) (hdis : ∀ i ∈ isR, i ∉ isC) {ci : Nat} {fs : List Value} (q0 : Nat) {q : vw_C} (hc : vwCl[ci]? = some q) (he : wc[q0]? = some (b, .inr (ci, fs)))
    (wcd : Cond.code y c' n' r' ∈ aW) (wml : Cond.methodLink own ix y ∈ aW) (wim : Cond.instanceMethod y ∈ aW) (wse : Cond.selects q.1 y y ∈ aW) (win : Cond.initialized y.cls ∈ aW) {np : Nat} (hd : y.cls ≠ "java/lang/invoke/MethodHandle" ∧ y.cls ≠ "java/lang/invoke/VarHandle" ∧ (parseMethodDescriptor y.desc).map (fun d => d.parameters.length) = some np) (hnp : As.length = np) (hrm : fr' + 1 ≤ fr ∧ 8 + (n' + 11) + lo' ≤ lo) (hf : ce + mc' ≤ mc ∧ sl + ms' ≤ ms) (hst : (st.map fun v => v.category).sum ≤ 8) (hdg : decode cc pc = .ok (.invokevirtual ix, 3))
    (g : ∀ (rv : Option Value) (w1 : va_W) (H1 : Heap) (L1 : List Loc), Po rv w1 → Wd X k A (wr ++ w1) H1 L1 → Wx X k (ce + mc') (sl + ms') H1 L1 (pc + 3) ls (rv.toList ++ st)) {st0 : List Value} (hs0 : st0 = As.reverse ++ .ref b :: st) : Wx X k ce sl H L pc ls st0 := by
  subst hs0
  have hcw : CallW (kR k) (ks k) (ka k) own q.1 ix y c' n' r' (.code y c' n' r' :: aW) { frames := fr', cells := mc', slots := ms', locals := lo' } mc' ms' np := ⟨callB_of np C.hts (gd_cons wcd) rfl rfl rfl (C.hts _ win) (C.hts _ wml) hd (rm_le C hrm), C.hts _ wim, C.hts _ wse⟩
  refine Wx.run C hw isC isR hC hR hn hdis (va_runV (fix_of C) (M H.size) hcw ⟨Pre.blind, va_recv C.hK (hw.sub isC hnC hC).1 hc he, Pre.at C hw isC hnC hC⟩ rfl hnp hl.1 rfl (lv_room hst) hdg (rm_ce C hf)) g
/-- invokevirtual of a nest mate's private method -/
theorem r_VN (C : Cx X k cc nL rt own A fr lo mc ms) (hl : lv_has ls nL lv) (M : Ctr X y c' n' r' fr' lo' mc' ms' (.ref b :: As) wc Po) (hw : Wd X k A ws H L) (isC isR : List Nat) (hC : isC.map (fun i => ws[i]?) = wc.map some) (hnC : va_nd isC = true) (hR : isR.map (fun i => ws[i]?) = wr.map some) (hn : va_nd isR = true) (hdis : ∀ i ∈ isR, i ∉ isC) {ci : Nat} {fs : List Value} (q0 : Nat) {q : vw_C} (hc : vwCl[ci]? = some q) (he : wc[q0]? = some (b, .inr (ci, fs)))
    (wcd : Cond.code y c' n' r' ∈ aW) (wim : Cond.instanceMethod y ∈ aW) (wse : Cond.selects q.1 y y ∈ aW) (win : Cond.initialized y.cls ∈ aW) (jx : Nat) {host : String} (hj : nwM[jx]? = some (own, ix, y, host)) {np : Nat} (hd : y.cls ≠ "java/lang/invoke/MethodHandle" ∧ y.cls ≠ "java/lang/invoke/VarHandle" ∧ (parseMethodDescriptor y.desc).map (fun d => d.parameters.length) = some np) (hnp : As.length = np) (hrm : fr' + 1 ≤ fr ∧ 8 + (n' + 11) + lo' ≤ lo) (hf : ce + mc' ≤ mc ∧ sl + ms' ≤ ms) (hst : (st.map fun v => v.category).sum ≤ 8) (hdg : decode cc pc = .ok (.invokevirtual ix, 3))
    (g : ∀ (rv : Option Value) (w1 : va_W) (H1 : Heap) (L1 : List Loc), Po rv w1 → Wd X k A (wr ++ w1) H1 L1 → Wx X k (ce + mc') (sl + ms') H1 L1 (pc + 3) ls (rv.toList ++ st)) {st0 : List Value} (hs0 : st0 = As.reverse ++ .ref b :: st) : Wx X k ce sl H L pc ls st0 := by
  subst hs0
  have hcw : va_CN (kR k) (ks k) (ka k) own ix y host c' n' r' (.code y c' n' r' :: aW) { frames := fr', cells := mc', slots := ms', locals := lo' } mc' ms' np ∧ (Cond.instanceMethod y).before (ka k) (ks k) = true ∧ (Cond.selects q.1 y y).before (ka k) (ks k) = true := ⟨va_cnB np C.hts (gd_cons wcd) rfl rfl rfl (C.hE.1 _ (List.mem_of_getElem? hj)) (C.hts _ win) hd (rm_le C hrm), C.hts _ wim, C.hts _ wse⟩
  refine Wx.run C hw isC isR hC hR hn hdis (va_runVN (fix_of C) (M H.size) hcw ⟨Pre.blind, va_recv C.hK (hw.sub isC hnC hC).1 hc he, Pre.at C hw isC hnC hC⟩ rfl hnp hl.1 rfl (lv_room hst) hdg (rm_ce C hf)) g
/-- invokestatic -/
theorem r_S (C : Cx X k cc nL rt own A fr lo mc ms) (hl : lv_has ls nL lv) (M : Ctr X y c' n' r' fr' lo' mc' ms' As wc Po) (hw : Wd X k A ws H L) (isC isR : List Nat) (hC : isC.map (fun i => ws[i]?) = wc.map some) (hnC : va_nd isC = true) (hR : isR.map (fun i => ws[i]?) = wr.map some) (hn : va_nd isR = true) (hdis : ∀ i ∈ isR, i ∉ isC)
    (wcd : Cond.code y c' n' r' ∈ aW) (wml : Cond.methodLink own ix y ∈ aW) (wst : Cond.static y ∈ aW) (win : Cond.initialized y.cls ∈ aW) {np : Nat} (hd : y.cls ≠ "java/lang/invoke/MethodHandle" ∧ y.cls ≠ "java/lang/invoke/VarHandle" ∧ (parseMethodDescriptor y.desc).map (fun d => d.parameters.length) = some np) (hnp : As.length = np) (hrm : fr' + 1 ≤ fr ∧ 8 + (n' + 11) + lo' ≤ lo) (hf : ce + mc' ≤ mc ∧ sl + ms' ≤ ms) (hst : (st.map fun v => v.category).sum ≤ 8) (hdg : decode cc pc = .ok (.invokestatic ix, 3))
    (g : ∀ (rv : Option Value) (w1 : va_W) (H1 : Heap) (L1 : List Loc), Po rv w1 → Wd X k A (wr ++ w1) H1 L1 → Wx X k (ce + mc') (sl + ms') H1 L1 (pc + 3) ls (rv.toList ++ st)) {st0 : List Value} (hs0 : st0 = As.reverse ++ st) : Wx X k ce sl H L pc ls st0 := by
  subst hs0
  have hcw : CallB (kR k) (ks k) (ka k) own ix y c' n' r' (.code y c' n' r' :: aW) { frames := fr', cells := mc', slots := ms', locals := lo' } mc' ms' np ∧ (Cond.static y).before (ka k) (ks k) = true := ⟨callB_of np C.hts (gd_cons wcd) rfl rfl rfl (C.hts _ win) (C.hts _ wml) hd (rm_le C hrm), C.hts _ wst⟩
  refine Wx.run C hw isC isR hC hR hn hdis (va_runS (fix_of C) (M H.size) hcw ⟨Pre.blind, Pre.at C hw isC hnC hC⟩ rfl hnp hl.1 rfl (lv_room hst) hdg (rm_ce C hf)) g
/-- invokestatic of a nest mate's -/
theorem r_SN (C : Cx X k cc nL rt own A fr lo mc ms) (hl : lv_has ls nL lv) (M : Ctr X y c' n' r' fr' lo' mc' ms' As wc Po) (hw : Wd X k A ws H L) (isC isR : List Nat) (hC : isC.map (fun i => ws[i]?) = wc.map some) (hnC : va_nd isC = true) (hR : isR.map (fun i => ws[i]?) = wr.map some) (hn : va_nd isR = true) (hdis : ∀ i ∈ isR, i ∉ isC)
    (wcd : Cond.code y c' n' r' ∈ aW) (wst : Cond.static y ∈ aW) (win : Cond.initialized y.cls ∈ aW) (jx : Nat) {host : String} (hj : nwM[jx]? = some (own, ix, y, host)) {np : Nat} (hd : y.cls ≠ "java/lang/invoke/MethodHandle" ∧ y.cls ≠ "java/lang/invoke/VarHandle" ∧ (parseMethodDescriptor y.desc).map (fun d => d.parameters.length) = some np) (hnp : As.length = np) (hrm : fr' + 1 ≤ fr ∧ 8 + (n' + 11) + lo' ≤ lo) (hf : ce + mc' ≤ mc ∧ sl + ms' ≤ ms) (hst : (st.map fun v => v.category).sum ≤ 8) (hdg : decode cc pc = .ok (.invokestatic ix, 3))
    (g : ∀ (rv : Option Value) (w1 : va_W) (H1 : Heap) (L1 : List Loc), Po rv w1 → Wd X k A (wr ++ w1) H1 L1 → Wx X k (ce + mc') (sl + ms') H1 L1 (pc + 3) ls (rv.toList ++ st)) {st0 : List Value} (hs0 : st0 = As.reverse ++ st) : Wx X k ce sl H L pc ls st0 := by
  subst hs0
  have hcw : va_CN (kR k) (ks k) (ka k) own ix y host c' n' r' (.code y c' n' r' :: aW) { frames := fr', cells := mc', slots := ms', locals := lo' } mc' ms' np ∧ (Cond.static y).before (ka k) (ks k) = true ∧ True := ⟨va_cnB np C.hts (gd_cons wcd) rfl rfl rfl (C.hE.1 _ (List.mem_of_getElem? hj)) (C.hts _ win) hd (rm_le C hrm), C.hts _ wst, trivial⟩
  refine Wx.run C hw isC isR hC hR hn hdis (va_runSN (fix_of C) (M H.size) hcw ⟨Pre.blind, Pre.at C hw isC hnC hC⟩ rfl hnp hl.1 rfl (lv_room hst) hdg (rm_ce C hf)) g
/-- a constructor -/
theorem r_I (C : Cx X k cc nL rt own A fr lo mc ms) (hl : lv_has ls nL lv) (M : Ctr X y c' n' none fr' lo' mc' ms' (.ref b :: As) wc Po) (hw : Wd X k A ws H L) (isC isR : List Nat) (hC : isC.map (fun i => ws[i]?) = wc.map some) (hnC : va_nd isC = true) (hR : isR.map (fun i => ws[i]?) = wr.map some) (hn : va_nd isR = true) (hdis : ∀ i ∈ isR, i ∉ isC)
    (wcd : Cond.code y c' n' none ∈ aW) (wml : Cond.methodLink own ix y ∈ aW) (wim : Cond.instanceMethod y ∈ aW) (win : Cond.initialized y.cls ∈ aW) (hin : y.name = "<init>") {np : Nat} (hd : y.cls ≠ "java/lang/invoke/MethodHandle" ∧ y.cls ≠ "java/lang/invoke/VarHandle" ∧ (parseMethodDescriptor y.desc).map (fun d => d.parameters.length) = some np) (hnp : As.length = np) (hrm : fr' + 1 ≤ fr ∧ 8 + (n' + 11) + lo' ≤ lo) (hf : ce + mc' ≤ mc ∧ sl + ms' ≤ ms) (hst : (st.map fun v => v.category).sum ≤ 8) (hdg : decode cc pc = .ok (.invokespecial ix, 3))
    (g : ∀ (rv : Option Value) (w1 : va_W) (H1 : Heap) (L1 : List Loc), Po rv w1 → Wd X k A (wr ++ w1) H1 L1 → Wx X k (ce + mc') (sl + ms') H1 L1 (pc + 3) ls (rv.toList ++ st)) {st0 : List Value} (hs0 : st0 = As.reverse ++ .ref b :: st) : Wx X k ce sl H L pc ls st0 := by
  subst hs0
  have hcw : CallB (kR k) (ks k) (ka k) own ix y c' n' none (.code y c' n' none :: aW) { frames := fr', cells := mc', slots := ms', locals := lo' } mc' ms' np ∧ y.name = "<init>" ∧ (Cond.instanceMethod y).before (ka k) (ks k) = true := ⟨callB_of np C.hts (gd_cons wcd) rfl rfl rfl (C.hts _ win) (C.hts _ wml) hd (rm_le C hrm), hin, C.hts _ wim⟩
  refine Wx.run C hw isC isR hC hR hn hdis (va_runI (fix_of C) (M H.size) hcw ⟨Pre.blind, Pre.at C hw isC hnC hC⟩ rfl hnp hl.1 rfl (lv_room hst) hdg (rm_ce C hf)) g
theorem r_IN (C : Cx X k cc nL rt own A fr lo mc ms) (hl : lv_has ls nL lv) (M : Ctr X y c' n' none fr' lo' mc' ms' (.ref b :: As) wc Po) (hw : Wd X k A ws H L) (isC isR : List Nat) (hC : isC.map (fun i => ws[i]?) = wc.map some) (hnC : va_nd isC = true) (hR : isR.map (fun i => ws[i]?) = wr.map some) (hn : va_nd isR = true) (hdis : ∀ i ∈ isR, i ∉ isC)
    (wcd : Cond.code y c' n' none ∈ aW) (wim : Cond.instanceMethod y ∈ aW) (win : Cond.initialized y.cls ∈ aW) (jx : Nat) {host : String} (hj : nwM[jx]? = some (own, ix, y, host)) (hin : y.name = "<init>") {np : Nat} (hd : y.cls ≠ "java/lang/invoke/MethodHandle" ∧ y.cls ≠ "java/lang/invoke/VarHandle" ∧ (parseMethodDescriptor y.desc).map (fun d => d.parameters.length) = some np) (hnp : As.length = np) (hrm : fr' + 1 ≤ fr ∧ 8 + (n' + 11) + lo' ≤ lo) (hf : ce + mc' ≤ mc ∧ sl + ms' ≤ ms) (hst : (st.map fun v => v.category).sum ≤ 8) (hdg : decode cc pc = .ok (.invokespecial ix, 3))
    (g : ∀ (rv : Option Value) (w1 : va_W) (H1 : Heap) (L1 : List Loc), Po rv w1 → Wd X k A (wr ++ w1) H1 L1 → Wx X k (ce + mc') (sl + ms') H1 L1 (pc + 3) ls (rv.toList ++ st)) {st0 : List Value} (hs0 : st0 = As.reverse ++ .ref b :: st) : Wx X k ce sl H L pc ls st0 := by
  subst hs0
  have hcw : va_CN (kR k) (ks k) (ka k) own ix y host c' n' none (.code y c' n' none :: aW) { frames := fr', cells := mc', slots := ms', locals := lo' } mc' ms' np ∧ y.name = "<init>" ∧ (Cond.instanceMethod y).before (ka k) (ks k) = true := ⟨va_cnB np C.hts (gd_cons wcd) rfl rfl rfl (C.hE.1 _ (List.mem_of_getElem? hj)) (C.hts _ win) hd (rm_le C hrm), hin, C.hts _ wim⟩
  refine Wx.run C hw isC isR hC hR hn hdis (va_runIN (fix_of C) (M H.size) hcw ⟨Pre.blind, Pre.at C hw isC hnC hC⟩ rfl hnp hl.1 rfl (lv_room hst) hdg (rm_ce C hf)) g
end CALLS
