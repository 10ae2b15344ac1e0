theorem iT {α : Type} {c : Prop} {_ : Decidable c} {a b o : α} (hc : c) (h : (if c then a else b) = o) : a = o := by rwa [if_pos hc] at h
theorem iF {α : Type} {c : Prop} {_ : Decidable c} {a b o : α} (hc : ¬ c) (h : (if c then a else b) = o) : b = o := by rwa [if_neg hc] at h
theorem zb_n {v : Int32} (h : v = 0 ∨ v = 1) : narrow .boolean (.int v) = .int v := by rcases h with rfl | rfl <;> rfl
theorem zb_f {v : Int32} (h : v = 0 ∨ v = 1) : fits .boolean (.int v) = true := by rcases h with rfl | rfl <;> rfl
theorem vi_0_2 : vp_in 0 2 := by unfold vp_in; decide
theorem vi_1_2 : vp_in 1 2 := by unfold vp_in; decide
theorem vi_0_4 : vp_in 0 4 := by unfold vp_in; decide
theorem vi_1_4 : vp_in 1 4 := by unfold vp_in; decide
theorem vi_2_4 : vp_in 2 4 := by unfold vp_in; decide
theorem vi_3_4 : vp_in 3 4 := by unfold vp_in; decide
/-- a Reckoning: its addresses, its four rows, its three numbers -/
abbrev RKT : Type := (Nat → Nat) × (Nat → Int32) × (Nat → Int32) × (Nat → Int32) × (Nat → Int32) × Int32 × Int32 × Int32
def rkA (r : RKT) : Nat → Nat := r.1
def rkV (r : RKT) : Nat → Int32 := r.2.1
def rkH (r : RKT) : Nat → Int32 := r.2.2.1
def rkR (r : RKT) : Nat → Int32 := r.2.2.2.1
def rkW (r : RKT) : Nat → Int32 := r.2.2.2.2.1
def rkK (r : RKT) : Int32 := r.2.2.2.2.2.1
def rkC (r : RKT) : Int32 := r.2.2.2.2.2.2.1
def rkN (r : RKT) : Int32 := r.2.2.2.2.2.2.2
/-- a method of a class that has entries in place of some of its methods, but none for this one -/
theorem Met.ofWF {l : Launch} {y : MethodName} {ws ws' : List Cond} {rm : Room} {Pc : Array Value → State → Prop} {Qc : Array Value → State → Outcome → State → Prop} {mc ms : Nat} {free : Addr → Prop} {cc : ByteArray} {maxL : Nat} {ret : Option FieldType}
    (hy : plainFor y = true) (hw : ws = Cond.code y cc maxL ret :: ws')
    (body : ∀ p e s m args below meth c s₁, BodyLoose p l y (headSpec ws rm) cc maxL ret e s m args below meth c s₁ → c.maxLocals = maxL → Pc args s →
      W p l e (headSpec ws rm).room s m args below meth c s.heap [] 0 0 (MQ below Qc args s mc ms free) (entryFrame m args maxL)) : Met l y ws rm Pc Qc mc ms free := by
  refine MetFree.of_bodySF (code := cc) (maxLocals := maxL) (ret := ret) hy ?_ ?_
  · intro args s m h hn
    obtain ⟨meth, c, h1, h2, h3, h4, h5, h6, -, -⟩ := Cond.code_spec hn (atoms_spec (ws := ws) h _ (by rw [hw]; exact List.mem_cons_self))
    exact ⟨meth, c, h1, h2, h3, h4, h5, h6⟩
  · intro p e s m args below meth c s₁ B hml hP _
    have hh0 : s₁.heap = s.heap := by rw [B.state]; rfl
    obtain ⟨t, a1, o, b1, b2, b3⟩ := body p e s m args below meth c s₁ B hml hP s₁ hh0 (Stand.of_body B)
    exact ⟨t, o, a1, b1, b2, ⟨b3.1, b3.2⟩⟩
theorem Ctr.startF {X : Ev} {y : MethodName} {cc : ByteArray} {nL : Nat} {rt : Option FieldType} {fr lo mc ms : Nat} {av : List Value} {w0 : va_W} {Po : Option Value → va_W → Prop} (hy : plainFor y = true) (hlen : (lg_sl av).length ≤ nL)
    (body : ∀ (k : KT) (A : Nat → Prop) (ls : Array Slot), Cx X k cc nL rt y.cls A fr lo mc ms → Rx X k A w0 Po mc ms → (y.name = "<init>" → (kt k).name = "<init>") → Wd X k A w0 (ks k).heap [] → lv_has ls nL (lv_args 0 av) → Wx X k 0 0 (ks k).heap [] 0 ls []) : Ctr X y cc nL rt fr lo mc ms av w0 Po := by
  intro sz
  refine Met.ofWF (cc := cc) (maxL := nL) (ret := rt) hy rfl ?_
  intro p e s m args below meth c s₁ B hml hv
  obtain ⟨rfl, hsz, hP, hK, hD, hbs, hE⟩ := hv
  have hts := atoms_spec (ws := .code y cc nL rt :: aW) B.pre
  have hown : s.vm.findClass y.cls = some m.cls := findClass_of_methodNamed B.named
  subst hsz
  have hl := lv_entry av (n := nL) hlen
  have hC : Cx X (p, e, { frames := fr, cells := mc, slots := ms, locals := lo }, s, m, av.toArray, below, meth, c, MQ below (Pos X w0 s.heap.size Po) av.toArray s mc ms (va_A w0 s.heap.size)) cc nL rt y.cls (va_A w0 s.heap.size) fr lo mc ms := by
    refine ⟨B.exec, B.bytes, hml, hown, fun w hw => hts w (List.mem_cons_of_mem _ hw), hK, fun q h => Or.inr h, fun q h => ?_, hE, B.returns, B.notSynchronized, rfl⟩
    rcases h with ⟨i, ee, h⟩ | h
    · exact hD.2 i _ h
    · exact Nat.le_trans hbs h
  have := body _ _ ((lg_sl av ++ List.replicate (nL - (lg_sl av).length) Slot.unset).toArray) hC ⟨s.heap.size, rfl, rfl⟩ (fun hn => by show meth.name = _; rw [← hn]; exact (name_of_methodNamed B.named B.method).1) ⟨hP, hD.self, va_S.rf⟩ hl
  rw [lg_entry_eq]
  exact this
theorem r_lk {X : Ev} {k : KT} {cc : ByteArray} {nL : Nat} {rt : Option FieldType} {own : String} {A : Nat → Prop} {fr lo mc ms : Nat} {H : Heap} {L : List Loc} {ce sl pc : Nat} {ls : Array Slot} {st : List Value} (C : Cx X k cc nL rt own A fr lo mc ms) {dflt : Int} {ps : Array (Int × Int)} {len : Nat} {x : Int32} {off : Int} {tgt : Nat} (hdg : decode cc pc = .ok (.lookupswitch dflt ps, len)) (hp : (ps.toList.zip (ps.toList.drop 1)).all (fun (a, next) => a.1 < next.1) = true) (ho : Op.lookupswitch.offset ps.toList dflt x.toInt = off) (ht : (pc : Int) + off = (tgt : Int)) (g : Wx X k ce sl H L tgt ls st) : Wx X k ce sl H L pc ls (.int x :: st) := lv_lookup C.hx C.hb hdg hp ho ht g
