/-! ROWS: an instruction, a row, over Wx -/
section ROWS
variable {X : Ev} {k : KT} {cc : ByteArray} {nL : Nat} {rt : Option FieldType} {own : String} {A : Nat → Prop} {fr lo mc ms : Nat} {ws : va_W} {H : Heap} {L : List Loc} {ce sl pc : Nat} {ls : Array Slot} {st : List Value} {lv lv' : List (Nat × Value)}
theorem r_iconst (C : Cx X k cc nL rt own A fr lo mc ms) {n : Int} {v : Int32} (hdg : decode cc pc = .ok (.iconst n, 1)) (hv : Int32.ofInt n = v) (g : Wx X k ce sl H L (pc + 1) ls (.int v :: st)) : Wx X k ce sl H L pc ls (st) := lv_iconst C.hx C.hb hdg hv g
theorem r_bipush (C : Cx X k cc nL rt own A fr lo mc ms) {n : Int} {v : Int32} (hdg : decode cc pc = .ok (.bipush n, 2)) (hv : (Int8.ofInt n).toInt32 = v) (g : Wx X k ce sl H L (pc + 2) ls (.int v :: st)) : Wx X k ce sl H L pc ls (st) := lv_bipush C.hx C.hb hdg hv g
theorem r_sipush (C : Cx X k cc nL rt own A fr lo mc ms) {n : Int} {v : Int32} (hdg : decode cc pc = .ok (.sipush n, 3)) (hv : (Int16.ofInt n).toInt32 = v) (g : Wx X k ce sl H L (pc + 3) ls (.int v :: st)) : Wx X k ce sl H L pc ls (st) := lv_sipush C.hx C.hb hdg hv g
theorem r_lconst (C : Cx X k cc nL rt own A fr lo mc ms) {n : Fin 2} {v : Int64} (hdg : decode cc pc = .ok (.lconst n, 1)) (hv : Int64.ofNat (n : Nat) = v) (g : Wx X k ce sl H L (pc + 1) ls (.long v :: st)) : Wx X k ce sl H L pc ls (st) := lv_lconst C.hx C.hb hdg hv g
theorem r_ldc (C : Cx X k cc nL rt own A fr lo mc ms) {ix : Nat} {v : Int32} (hw : Cond.constant own ix v ∈ aW) (hdg : decode cc pc = .ok (.ldc ix, 2)) (g : Wx X k ce sl H L (pc + 2) ls (.int v :: st)) : Wx X k ce sl H L pc ls (st) := lv_ldc C.hx C.hb C.hown (C.hts _ hw) hdg g
theorem r_ldcw (C : Cx X k cc nL rt own A fr lo mc ms) {ix : Nat} {v : Int32} (hw : Cond.constant own ix v ∈ aW) (hdg : decode cc pc = .ok (.ldc_w ix, 3)) (g : Wx X k ce sl H L (pc + 3) ls (.int v :: st)) : Wx X k ce sl H L pc ls (st) := lv_ldcw C.hx C.hb C.hown (C.hts _ hw) hdg g
theorem r_ldc2 (C : Cx X k cc nL rt own A fr lo mc ms) {ix : Nat} {v : Int64} (hw : Cond.constantLong own ix v ∈ aW) (hdg : decode cc pc = .ok (.ldc2_w ix, 3)) (g : Wx X k ce sl H L (pc + 3) ls (.long v :: st)) : Wx X k ce sl H L pc ls (st) := lv_ldc2 C.hx C.hb C.hown (C.hts _ hw) hdg g
theorem r_iload_n (C : Cx X k cc nL rt own A fr lo mc ms) {q : Fin 4} {i : Nat} {x : Int32} (hl : lv_has ls nL lv) (j : Nat) (hdg : decode cc pc = .ok (.iload_n q, 1)) (hi : (q : Nat) = i) (hj : lv[j]? = some (i, .int x)) (g : Wx X k ce sl H L (pc + 1) ls (.int x :: st)) : Wx X k ce sl H L pc ls (st) := lv_iload_n C.hx C.hb hdg hi (lv_at hl j hj) g
theorem r_iload (C : Cx X k cc nL rt own A fr lo mc ms) {i : Nat} {x : Int32} (hl : lv_has ls nL lv) (j : Nat) (hdg : decode cc pc = .ok (.iload i, 2)) (hj : lv[j]? = some (i, .int x)) (g : Wx X k ce sl H L (pc + 2) ls (.int x :: st)) : Wx X k ce sl H L pc ls (st) := lv_iload C.hx C.hb hdg (lv_at hl j hj) g
theorem r_istore_n (C : Cx X k cc nL rt own A fr lo mc ms) {q : Fin 4} {i : Nat} {x : Int32} (hl : lv_has ls nL lv) (hdg : decode cc pc = .ok (.istore_n q, 1)) (hi : (q : Nat) = i) (hn : i < nL) (hf : (i, Value.int x) :: lv.filter (fun q => !(q.1 == i) && !(q.1 + 1 == i && q.2.category == 2)) = lv') (g : ∀ ls' : Array Slot, lv_has ls' nL lv' → Wx X k ce sl H L (pc + 1) ls' st) : Wx X k ce sl H L pc ls (.int x :: st) := lv_istore_n C.hx C.hb hdg hi hl hn hf g
theorem r_istore (C : Cx X k cc nL rt own A fr lo mc ms) {i : Nat} {x : Int32} (hl : lv_has ls nL lv) (hdg : decode cc pc = .ok (.istore i, 2)) (hn : i < nL) (hf : (i, Value.int x) :: lv.filter (fun q => !(q.1 == i) && !(q.1 + 1 == i && q.2.category == 2)) = lv') (g : ∀ ls' : Array Slot, lv_has ls' nL lv' → Wx X k ce sl H L (pc + 2) ls' st) : Wx X k ce sl H L pc ls (.int x :: st) := lv_istore C.hx C.hb hdg hl hn hf g
theorem r_lload_n (C : Cx X k cc nL rt own A fr lo mc ms) {q : Fin 4} {i : Nat} {x : Int64} (hl : lv_has ls nL lv) (j : Nat) (hdg : decode cc pc = .ok (.lload_n q, 1)) (hi : (q : Nat) = i) (hj : lv[j]? = some (i, .long x)) (g : Wx X k ce sl H L (pc + 1) ls (.long x :: st)) : Wx X k ce sl H L pc ls (st) := lv_lload_n C.hx C.hb hdg hi (lv_at hl j hj) g
theorem r_lload (C : Cx X k cc nL rt own A fr lo mc ms) {i : Nat} {x : Int64} (hl : lv_has ls nL lv) (j : Nat) (hdg : decode cc pc = .ok (.lload i, 2)) (hj : lv[j]? = some (i, .long x)) (g : Wx X k ce sl H L (pc + 2) ls (.long x :: st)) : Wx X k ce sl H L pc ls (st) := lv_lload C.hx C.hb hdg (lv_at hl j hj) g
theorem r_lstore_n (C : Cx X k cc nL rt own A fr lo mc ms) {q : Fin 4} {i : Nat} {x : Int64} (hl : lv_has ls nL lv) (hdg : decode cc pc = .ok (.lstore_n q, 1)) (hi : (q : Nat) = i) (hn : i + 1 < nL) (hf : (i, Value.long x) :: lv.filter (fun q => !(q.1 == i) && (!(q.1 == i + 1) && !(q.1 + 1 == i && q.2.category == 2))) = lv') (g : ∀ ls' : Array Slot, lv_has ls' nL lv' → Wx X k ce sl H L (pc + 1) ls' st) : Wx X k ce sl H L pc ls (.long x :: st) := lv_lstore_n C.hx C.hb hdg hi hl hn hf g
theorem r_lstore (C : Cx X k cc nL rt own A fr lo mc ms) {i : Nat} {x : Int64} (hl : lv_has ls nL lv) (hdg : decode cc pc = .ok (.lstore i, 2)) (hn : i + 1 < nL) (hf : (i, Value.long x) :: lv.filter (fun q => !(q.1 == i) && (!(q.1 == i + 1) && !(q.1 + 1 == i && q.2.category == 2))) = lv') (g : ∀ ls' : Array Slot, lv_has ls' nL lv' → Wx X k ce sl H L (pc + 2) ls' st) : Wx X k ce sl H L pc ls (.long x :: st) := lv_lstore C.hx C.hb hdg hl hn hf g
theorem r_aload_n (C : Cx X k cc nL rt own A fr lo mc ms) {q : Fin 4} {i : Nat} {x : Nat} (hl : lv_has ls nL lv) (j : Nat) (hdg : decode cc pc = .ok (.aload_n q, 1)) (hi : (q : Nat) = i) (hj : lv[j]? = some (i, .ref x)) (g : Wx X k ce sl H L (pc + 1) ls (.ref x :: st)) : Wx X k ce sl H L pc ls (st) := lv_aload_n C.hx C.hb hdg hi (lv_at hl j hj) g
theorem r_aload (C : Cx X k cc nL rt own A fr lo mc ms) {i : Nat} {x : Nat} (hl : lv_has ls nL lv) (j : Nat) (hdg : decode cc pc = .ok (.aload i, 2)) (hj : lv[j]? = some (i, .ref x)) (g : Wx X k ce sl H L (pc + 2) ls (.ref x :: st)) : Wx X k ce sl H L pc ls (st) := lv_aload C.hx C.hb hdg (lv_at hl j hj) g
theorem r_astore_n (C : Cx X k cc nL rt own A fr lo mc ms) {q : Fin 4} {i : Nat} {x : Nat} (hl : lv_has ls nL lv) (hdg : decode cc pc = .ok (.astore_n q, 1)) (hi : (q : Nat) = i) (hn : i < nL) (hf : (i, Value.ref x) :: lv.filter (fun q => !(q.1 == i) && !(q.1 + 1 == i && q.2.category == 2)) = lv') (g : ∀ ls' : Array Slot, lv_has ls' nL lv' → Wx X k ce sl H L (pc + 1) ls' st) : Wx X k ce sl H L pc ls (.ref x :: st) := lv_astore_n C.hx C.hb hdg hi hl hn hf g
theorem r_astore (C : Cx X k cc nL rt own A fr lo mc ms) {i : Nat} {x : Nat} (hl : lv_has ls nL lv) (hdg : decode cc pc = .ok (.astore i, 2)) (hn : i < nL) (hf : (i, Value.ref x) :: lv.filter (fun q => !(q.1 == i) && !(q.1 + 1 == i && q.2.category == 2)) = lv') (g : ∀ ls' : Array Slot, lv_has ls' nL lv' → Wx X k ce sl H L (pc + 2) ls' st) : Wx X k ce sl H L pc ls (.ref x :: st) := lv_astore C.hx C.hb hdg hl hn hf g
theorem r_iinc (C : Cx X k cc nL rt own A fr lo mc ms) {i j : Nat} {n : Int} {x v : Int32} (hl : lv_has ls nL lv) (hdg : decode cc pc = .ok (.iinc i n, 3)) (hj : lv[j]? = some (i, .int x)) (hv : x + Int32.ofInt n = v) (hn : i < nL) (hf : (i, Value.int v) :: lv.filter (fun q => !(q.1 == i) && !(q.1 + 1 == i && q.2.category == 2)) = lv') (g : ∀ ls' : Array Slot, lv_has ls' nL lv' → Wx X k ce sl H L (pc + 3) ls' st) : Wx X k ce sl H L pc ls st := lv_iinc C.hx C.hb hdg hl hj hv hn hf g
theorem r_iadd (C : Cx X k cc nL rt own A fr lo mc ms) {x y : Int32} (hdg : decode cc pc = .ok (.iadd, 1)) (g : Wx X k ce sl H L (pc + 1) ls (.int (x + y) :: st)) : Wx X k ce sl H L pc ls (.int y :: .int x :: st) := lv_iadd C.hx C.hb hdg g
theorem r_isub (C : Cx X k cc nL rt own A fr lo mc ms) {x y : Int32} (hdg : decode cc pc = .ok (.isub, 1)) (g : Wx X k ce sl H L (pc + 1) ls (.int (x - y) :: st)) : Wx X k ce sl H L pc ls (.int y :: .int x :: st) := lv_isub C.hx C.hb hdg g
theorem r_imul (C : Cx X k cc nL rt own A fr lo mc ms) {x y : Int32} (hdg : decode cc pc = .ok (.imul, 1)) (g : Wx X k ce sl H L (pc + 1) ls (.int (x * y) :: st)) : Wx X k ce sl H L pc ls (.int y :: .int x :: st) := lv_imul C.hx C.hb hdg g
theorem r_iand (C : Cx X k cc nL rt own A fr lo mc ms) {x y : Int32} (hdg : decode cc pc = .ok (.iand, 1)) (g : Wx X k ce sl H L (pc + 1) ls (.int (x &&& y) :: st)) : Wx X k ce sl H L pc ls (.int y :: .int x :: st) := lv_iand C.hx C.hb hdg g
theorem r_ior (C : Cx X k cc nL rt own A fr lo mc ms) {x y : Int32} (hdg : decode cc pc = .ok (.ior, 1)) (g : Wx X k ce sl H L (pc + 1) ls (.int (x ||| y) :: st)) : Wx X k ce sl H L pc ls (.int y :: .int x :: st) := lv_ior C.hx C.hb hdg g
theorem r_ixor (C : Cx X k cc nL rt own A fr lo mc ms) {x y : Int32} (hdg : decode cc pc = .ok (.ixor, 1)) (g : Wx X k ce sl H L (pc + 1) ls (.int (x ^^^ y) :: st)) : Wx X k ce sl H L pc ls (.int y :: .int x :: st) := lv_ixor C.hx C.hb hdg g
theorem r_ishl (C : Cx X k cc nL rt own A fr lo mc ms) {x y : Int32} (hdg : decode cc pc = .ok (.ishl, 1)) (g : Wx X k ce sl H L (pc + 1) ls (.int (x <<< (y &&& 31)) :: st)) : Wx X k ce sl H L pc ls (.int y :: .int x :: st) := lv_ishl C.hx C.hb hdg g
theorem r_ishr (C : Cx X k cc nL rt own A fr lo mc ms) {x y : Int32} (hdg : decode cc pc = .ok (.ishr, 1)) (g : Wx X k ce sl H L (pc + 1) ls (.int (x >>> (y &&& 31)) :: st)) : Wx X k ce sl H L pc ls (.int y :: .int x :: st) := lv_ishr C.hx C.hb hdg g
theorem r_iushr (C : Cx X k cc nL rt own A fr lo mc ms) {x y : Int32} (hdg : decode cc pc = .ok (.iushr, 1)) (g : Wx X k ce sl H L (pc + 1) ls (.int (x.toUInt32 >>> (y.toUInt32 &&& Int32.toUInt32 31)).toInt32 :: st)) : Wx X k ce sl H L pc ls (.int y :: .int x :: st) := lv_iushr C.hx C.hb hdg rfl g
theorem r_idiv (C : Cx X k cc nL rt own A fr lo mc ms) {x y : Int32} (hdg : decode cc pc = .ok (.idiv, 1)) (hne : ¬ y = 0) (g : Wx X k ce sl H L (pc + 1) ls (.int (x / y) :: st)) : Wx X k ce sl H L pc ls (.int y :: .int x :: st) := lv_idiv C.hx C.hb hdg hne g
theorem r_irem (C : Cx X k cc nL rt own A fr lo mc ms) {x y : Int32} (hdg : decode cc pc = .ok (.irem, 1)) (hne : ¬ y = 0) (g : Wx X k ce sl H L (pc + 1) ls (.int (x - x / y * y) :: st)) : Wx X k ce sl H L pc ls (.int y :: .int x :: st) := lv_irem C.hx C.hb hdg hne g
theorem r_ladd (C : Cx X k cc nL rt own A fr lo mc ms) {x y : Int64} (hdg : decode cc pc = .ok (.ladd, 1)) (g : Wx X k ce sl H L (pc + 1) ls (.long (x + y) :: st)) : Wx X k ce sl H L pc ls (.long y :: .long x :: st) := lv_ladd C.hx C.hb hdg g
theorem r_lcmp (C : Cx X k cc nL rt own A fr lo mc ms) {x y : Int64} (hdg : decode cc pc = .ok (.lcmp, 1)) (g : Wx X k ce sl H L (pc + 1) ls (.int (lg_cmp x y) :: st)) : Wx X k ce sl H L pc ls (.long y :: .long x :: st) := W.lcmp C.hx C.hb hdg g
theorem r_i2l (C : Cx X k cc nL rt own A fr lo mc ms) {x : Int32} (hdg : decode cc pc = .ok (.i2l, 1)) (g : Wx X k ce sl H L (pc + 1) ls (.long (x.toInt64) :: st)) : Wx X k ce sl H L pc ls (.int x :: st) := lv_i2l C.hx C.hb hdg rfl g
theorem r_l2i (C : Cx X k cc nL rt own A fr lo mc ms) {x : Int64} (hdg : decode cc pc = .ok (.l2i, 1)) (g : Wx X k ce sl H L (pc + 1) ls (.int (x.toInt32) :: st)) : Wx X k ce sl H L pc ls (.long x :: st) := lv_l2i C.hx C.hb hdg rfl g
theorem r_i2b (C : Cx X k cc nL rt own A fr lo mc ms) {x : Int32} (hdg : decode cc pc = .ok (.i2b, 1)) (g : Wx X k ce sl H L (pc + 1) ls (.int (x.toInt8.toInt32) :: st)) : Wx X k ce sl H L pc ls (.int x :: st) := lv_i2b C.hx C.hb hdg rfl g
theorem r_i2s (C : Cx X k cc nL rt own A fr lo mc ms) {x : Int32} (hdg : decode cc pc = .ok (.i2s, 1)) (g : Wx X k ce sl H L (pc + 1) ls (.int (x.toInt16.toInt32) :: st)) : Wx X k ce sl H L pc ls (.int x :: st) := lv_i2s C.hx C.hb hdg rfl g
theorem r_i2c (C : Cx X k cc nL rt own A fr lo mc ms) {x : Int32} (hdg : decode cc pc = .ok (.i2c, 1)) (g : Wx X k ce sl H L (pc + 1) ls (.int ((x.toUInt32 % 65536).toInt32) :: st)) : Wx X k ce sl H L pc ls (.int x :: st) := lv_i2c C.hx C.hb hdg rfl g
theorem r_dup (C : Cx X k cc nL rt own A fr lo mc ms) {v : Value} (hv : v.category = 1) (hdg : decode cc pc = .ok (.dup, 1)) (g : Wx X k ce sl H L (pc + 1) ls (v :: v :: st)) : Wx X k ce sl H L pc ls (v :: st) := lv_dup C.hx C.hb hdg hv g
theorem r_pop (C : Cx X k cc nL rt own A fr lo mc ms) {v : Value} (hv : v.category = 1) (hdg : decode cc pc = .ok (.pop, 1)) (g : Wx X k ce sl H L (pc + 1) ls (st)) : Wx X k ce sl H L pc ls (v :: st) := lv_pop C.hx C.hb hdg hv g
theorem r_dup2 (C : Cx X k cc nL rt own A fr lo mc ms) {v w : Value} (hv : v.category = 1) (hw : w.category = 1) (hdg : decode cc pc = .ok (.dup2, 1)) (g : Wx X k ce sl H L (pc + 1) ls (v :: w :: v :: w :: st)) : Wx X k ce sl H L pc ls (v :: w :: st) := lv_dup2_11 C.hx C.hb hdg hv hw g
theorem r_if_eq (C : Cx X k cc nL rt own A fr lo mc ms) {x : Int32} {off : Int} {tgt : Nat} (hdg : decode cc pc = .ok (.ifCond .eq off, 3)) (ht : (pc : Int) + off = (tgt : Int)) (g1 : x = 0 → Wx X k ce sl H L tgt ls st) (g2 : ¬ x = 0 → Wx X k ce sl H L (pc + 3) ls st) : Wx X k ce sl H L pc ls (.int x :: st) := lv_if_eq C.hx C.hb hdg ht g1 g2
theorem r_icmp_eq (C : Cx X k cc nL rt own A fr lo mc ms) {x y : Int32} {off : Int} {tgt : Nat} (hdg : decode cc pc = .ok (.if_icmp .eq off, 3)) (ht : (pc : Int) + off = (tgt : Int)) (g1 : x = y → Wx X k ce sl H L tgt ls st) (g2 : ¬ x = y → Wx X k ce sl H L (pc + 3) ls st) : Wx X k ce sl H L pc ls (.int y :: .int x :: st) := lv_icmp_eq C.hx C.hb hdg ht g1 g2
theorem r_if_ne (C : Cx X k cc nL rt own A fr lo mc ms) {x : Int32} {off : Int} {tgt : Nat} (hdg : decode cc pc = .ok (.ifCond .ne off, 3)) (ht : (pc : Int) + off = (tgt : Int)) (g1 : ¬ x = 0 → Wx X k ce sl H L tgt ls st) (g2 : x = 0 → Wx X k ce sl H L (pc + 3) ls st) : Wx X k ce sl H L pc ls (.int x :: st) := lv_if_ne C.hx C.hb hdg ht g1 g2
theorem r_icmp_ne (C : Cx X k cc nL rt own A fr lo mc ms) {x y : Int32} {off : Int} {tgt : Nat} (hdg : decode cc pc = .ok (.if_icmp .ne off, 3)) (ht : (pc : Int) + off = (tgt : Int)) (g1 : ¬ x = y → Wx X k ce sl H L tgt ls st) (g2 : x = y → Wx X k ce sl H L (pc + 3) ls st) : Wx X k ce sl H L pc ls (.int y :: .int x :: st) := lv_icmp_ne C.hx C.hb hdg ht g1 g2
theorem r_if_lt (C : Cx X k cc nL rt own A fr lo mc ms) {x : Int32} {off : Int} {tgt : Nat} (hdg : decode cc pc = .ok (.ifCond .lt off, 3)) (ht : (pc : Int) + off = (tgt : Int)) (g1 : x < 0 → Wx X k ce sl H L tgt ls st) (g2 : ¬ x < 0 → Wx X k ce sl H L (pc + 3) ls st) : Wx X k ce sl H L pc ls (.int x :: st) := lv_if_lt C.hx C.hb hdg ht g1 g2
theorem r_icmp_lt (C : Cx X k cc nL rt own A fr lo mc ms) {x y : Int32} {off : Int} {tgt : Nat} (hdg : decode cc pc = .ok (.if_icmp .lt off, 3)) (ht : (pc : Int) + off = (tgt : Int)) (g1 : x < y → Wx X k ce sl H L tgt ls st) (g2 : ¬ x < y → Wx X k ce sl H L (pc + 3) ls st) : Wx X k ce sl H L pc ls (.int y :: .int x :: st) := lv_icmp_lt C.hx C.hb hdg ht g1 g2
theorem r_if_ge (C : Cx X k cc nL rt own A fr lo mc ms) {x : Int32} {off : Int} {tgt : Nat} (hdg : decode cc pc = .ok (.ifCond .ge off, 3)) (ht : (pc : Int) + off = (tgt : Int)) (g1 : 0 ≤ x → Wx X k ce sl H L tgt ls st) (g2 : ¬ 0 ≤ x → Wx X k ce sl H L (pc + 3) ls st) : Wx X k ce sl H L pc ls (.int x :: st) := lv_if_ge C.hx C.hb hdg ht g1 g2
theorem r_icmp_ge (C : Cx X k cc nL rt own A fr lo mc ms) {x y : Int32} {off : Int} {tgt : Nat} (hdg : decode cc pc = .ok (.if_icmp .ge off, 3)) (ht : (pc : Int) + off = (tgt : Int)) (g1 : y ≤ x → Wx X k ce sl H L tgt ls st) (g2 : ¬ y ≤ x → Wx X k ce sl H L (pc + 3) ls st) : Wx X k ce sl H L pc ls (.int y :: .int x :: st) := lv_icmp_ge C.hx C.hb hdg ht g1 g2
theorem r_if_gt (C : Cx X k cc nL rt own A fr lo mc ms) {x : Int32} {off : Int} {tgt : Nat} (hdg : decode cc pc = .ok (.ifCond .gt off, 3)) (ht : (pc : Int) + off = (tgt : Int)) (g1 : 0 < x → Wx X k ce sl H L tgt ls st) (g2 : ¬ 0 < x → Wx X k ce sl H L (pc + 3) ls st) : Wx X k ce sl H L pc ls (.int x :: st) := lv_if_gt C.hx C.hb hdg ht g1 g2
theorem r_icmp_gt (C : Cx X k cc nL rt own A fr lo mc ms) {x y : Int32} {off : Int} {tgt : Nat} (hdg : decode cc pc = .ok (.if_icmp .gt off, 3)) (ht : (pc : Int) + off = (tgt : Int)) (g1 : y < x → Wx X k ce sl H L tgt ls st) (g2 : ¬ y < x → Wx X k ce sl H L (pc + 3) ls st) : Wx X k ce sl H L pc ls (.int y :: .int x :: st) := lv_icmp_gt C.hx C.hb hdg ht g1 g2
theorem r_if_le (C : Cx X k cc nL rt own A fr lo mc ms) {x : Int32} {off : Int} {tgt : Nat} (hdg : decode cc pc = .ok (.ifCond .le off, 3)) (ht : (pc : Int) + off = (tgt : Int)) (g1 : x ≤ 0 → Wx X k ce sl H L tgt ls st) (g2 : ¬ x ≤ 0 → Wx X k ce sl H L (pc + 3) ls st) : Wx X k ce sl H L pc ls (.int x :: st) := lv_if_le C.hx C.hb hdg ht g1 g2
theorem r_icmp_le (C : Cx X k cc nL rt own A fr lo mc ms) {x y : Int32} {off : Int} {tgt : Nat} (hdg : decode cc pc = .ok (.if_icmp .le off, 3)) (ht : (pc : Int) + off = (tgt : Int)) (g1 : x ≤ y → Wx X k ce sl H L tgt ls st) (g2 : ¬ x ≤ y → Wx X k ce sl H L (pc + 3) ls st) : Wx X k ce sl H L pc ls (.int y :: .int x :: st) := lv_icmp_le C.hx C.hb hdg ht g1 g2
theorem r_goto (C : Cx X k cc nL rt own A fr lo mc ms) {off : Int} {tgt : Nat} (hdg : decode cc pc = .ok (.goto off, 3)) (ht : (pc : Int) + off = (tgt : Int)) (g : Wx X k ce sl H L tgt ls st) : Wx X k ce sl H L pc ls st := lv_goto C.hx C.hb hdg ht g
theorem r_swO (C : Cx X k cc nL rt own A fr lo mc ms) {dflt low hi : Int} {offs : Array Int} {len : Nat} {x : Int32} {tgt : Nat} (hdg : decode cc pc = .ok (.tableswitch dflt low hi offs, len)) (h : x.toInt < low ∨ hi < x.toInt) (ht : (pc : Int) + dflt = (tgt : Int)) (g : Wx X k ce sl H L tgt ls st) : Wx X k ce sl H L pc ls (.int x :: st) := lv_tableOut C.hx C.hb hdg h ht g
theorem r_swI (C : Cx X k cc nL rt own A fr lo mc ms) {dflt low hi : Int} {offs : Array Int} {len : Nat} {x : Int32} {off : Int} {tgt : Nat} (hdg : decode cc pc = .ok (.tableswitch dflt low hi offs, len)) {v : Int32} (hv : x = v) (h1 : ¬ v.toInt < low) (h2 : ¬ hi < v.toInt) (ho : offs[(v.toInt - low).toNat]? = some off) (ht : (pc : Int) + off = (tgt : Int)) (g : Wx X k ce sl H L tgt ls st) : Wx X k ce sl H L pc ls (.int x :: st) := by
  subst hv
  exact lv_tableIn C.hx C.hb hdg h1 h2 ho ht g
theorem r_get (C : Cx X k cc nL rt own A fr lo mc ms) (hw : Wd X k A ws H L) {a ci ix : Nat} {Cn : String} {T : u_T} {N : Nat} (q0 : Nat) {fs : List Value} (he : ws[q0]? = some (a, .inr (ci, fs))) (hc : vwCl[ci]? = some (Cn, T, N)) (hin : ∀ w ∈ u_ws Cn T N, w ∈ aW) (j : Nat) (hj : j < N) (hlk : Cond.fieldLink own ix (T j).1 (T j).2.1 (T j).2.2.1 ∈ aW) {v : Value} (hv : fs[j]? = some v) (hdg : decode cc pc = .ok (.getfield ix, 3)) (g : Wx X k ce sl H L (pc + 3) ls (v :: st)) : Wx X k ce sl H L pc ls (.ref a :: st) := va_get C.hx C.hb C.hts hin C.hown C.hK hw.1 q0 he hc j hj (C.hts _ hlk) (fun _ h => h) hv hdg g
theorem r_getN (C : Cx X k cc nL rt own A fr lo mc ms) (hw : Wd X k A ws H L) {a ci ix : Nat} {Cn host : String} {T : u_T} {N : Nat} (q0 : Nat) {fs : List Value} (he : ws[q0]? = some (a, .inr (ci, fs))) (hc : vwCl[ci]? = some (Cn, T, N)) (hin : ∀ w ∈ u_ws Cn T N, w ∈ aW) (j : Nat) (hj : j < N) (jx : Nat) (hx : nwF[jx]? = some (own, ix, (T j).1, (T j).2.1, (T j).2.2.1, host)) {v : Value} (hv : fs[j]? = some v) (hdg : decode cc pc = .ok (.getfield ix, 3)) (g : Wx X k ce sl H L (pc + 3) ls (v :: st)) : Wx X k ce sl H L pc ls (.ref a :: st) := va_getN C.hx C.hb C.hts hin C.hown C.hK hw.1 q0 he hc j hj (va_Nw.use rfl (C.hE.2.1 _ (List.mem_of_getElem? hx))) (fun _ h => h) hv hdg g
theorem r_put (C : Cx X k cc nL rt own A fr lo mc ms) (hw : Wd X k A ws H L) {a ci ix : Nat} {Cn : String} {T : u_T} {N : Nat} (q0 : Nat) {fs : List Value} (he : ws[q0]? = some (a, .inr (ci, fs))) (hc : vwCl[ci]? = some (Cn, T, N)) (hin : ∀ w ∈ u_ws Cn T N, w ∈ aW) {ty0 : Nat → FieldType} (hty : ∀ k, k < N → parseFieldDescriptor (T k).2.2.1 = some (ty0 k)) (hnm : ∀ a, a < N → ∀ b, b < N → a ≠ b → (T a).2.1 ≠ (T b).2.1) (j : Nat) (hj : j < N) (hlk : Cond.fieldLink own ix (T j).1 (T j).2.1 (T j).2.2.1 ∈ aW) (hfin : (T j).2.2.2 = false) {v : Value} (hd : parseFieldDescriptor (T j).2.2.1 = some (ty0 j)) (hn : narrow (ty0 j) v = v) (hfit : fits (ty0 j) v = true) (hl : j < fs.length) {ws' : va_W} (hws : ws.set q0 (a, .inr (ci, fs.set j v)) = ws') (hdg : decode cc pc = .ok (.putfield ix, 3)) (g : ∀ (H1 : Heap) (L1 : List Loc), Wd X k A ws' H1 L1 → Wx X k ce sl H1 L1 (pc + 3) ls st) : Wx X k ce sl H L pc ls (v :: .ref a :: st) := by
  subst hws
  exact va_put C.hx C.hb C.hts hin ty0 hty hnm C.hown C.hK hw.1 hw.2.1 hw.2.2 q0 he hc j hj (C.hts _ hlk) (fun _ h => h) hfin hd hn hfit hl hdg (fun H1 L1 a b c => g H1 L1 ⟨a, b, c⟩)
theorem r_putN (C : Cx X k cc nL rt own A fr lo mc ms) (hw : Wd X k A ws H L) {a ci ix : Nat} {Cn host : String} {T : u_T} {N : Nat} (q0 : Nat) {fs : List Value} (he : ws[q0]? = some (a, .inr (ci, fs))) (hc : vwCl[ci]? = some (Cn, T, N)) (hin : ∀ w ∈ u_ws Cn T N, w ∈ aW) {ty0 : Nat → FieldType} (hty : ∀ k, k < N → parseFieldDescriptor (T k).2.2.1 = some (ty0 k)) (hnm : ∀ a, a < N → ∀ b, b < N → a ≠ b → (T a).2.1 ≠ (T b).2.1) (j : Nat) (hj : j < N) (jx : Nat) (hx : nwF[jx]? = some (own, ix, (T j).1, (T j).2.1, (T j).2.2.1, host)) (hfin : (T j).2.2.2 = false) {v : Value} (hd : parseFieldDescriptor (T j).2.2.1 = some (ty0 j)) (hn : narrow (ty0 j) v = v) (hfit : fits (ty0 j) v = true) (hl : j < fs.length) {ws' : va_W} (hws : ws.set q0 (a, .inr (ci, fs.set j v)) = ws') (hdg : decode cc pc = .ok (.putfield ix, 3)) (g : ∀ (H1 : Heap) (L1 : List Loc), Wd X k A ws' H1 L1 → Wx X k ce sl H1 L1 (pc + 3) ls st) : Wx X k ce sl H L pc ls (v :: .ref a :: st) := by
  subst hws
  exact va_putN C.hx C.hb C.hts hin ty0 hty hnm C.hown C.hK hw.1 hw.2.1 hw.2.2 q0 he hc j hj (va_Nw.use rfl (C.hE.2.1 _ (List.mem_of_getElem? hx))) (fun _ h => h) hfin hd hn hfit hl hdg (fun H1 L1 a b c => g H1 L1 ⟨a, b, c⟩)
theorem r_iald (C : Cx X k cc nL rt own A fr lo mc ms) (hw : Wd X k A ws H L) {a n : Nat} {f : Nat → Int32} {i v : Int32} (q0 : Nat) (he : ws[q0]? = some (a, .inl (eI X, n, .inl f))) (hin : vp_in i n) (hv : v = f i.toNatClampNeg) (hdg : decode cc pc = .ok (.iaload, 1)) (g : Wx X k ce sl H L (pc + 1) ls (.int v :: st)) : Wx X k ce sl H L pc ls (.int i :: .ref a :: st) := by
  subst hv
  exact va_iald C.hx C.hb C.hK hw.1 q0 0 he rfl hin hdg g
theorem r_iast (C : Cx X k cc nL rt own A fr lo mc ms) (hw : Wd X k A ws H L) {a n : Nat} {f f' : Nat → Int32} {i x : Int32} (q0 : Nat) (he : ws[q0]? = some (a, .inl (eI X, n, .inl f))) (hin : vp_in i n) (hv : f' = upd f i.toNatClampNeg x) {ws' : va_W} (hws : ws.set q0 (a, .inl (eI X, n, .inl f')) = ws') (hdg : decode cc pc = .ok (.iastore, 1)) (g : ∀ (H1 : Heap) (L1 : List Loc), Wd X k A ws' H1 L1 → Wx X k ce sl H1 L1 (pc + 1) ls st) : Wx X k ce sl H L pc ls (.int x :: .int i :: .ref a :: st) := by
  subst hv
  subst hws
  exact va_iast C.hx C.hb C.hK hw.1 hw.2.1 hw.2.2 q0 0 he rfl hin hdg (fun H1 L1 a b c => g H1 L1 ⟨a, b, c⟩)
theorem r_ilen (C : Cx X k cc nL rt own A fr lo mc ms) (hw : Wd X k A ws H L) {a n : Nat} {f : Nat → Int32} {v : Int32} (q0 : Nat) (he : ws[q0]? = some (a, .inl (eI X, n, .inl f))) (hv : Int32.ofNat n = v) (hdg : decode cc pc = .ok (.arraylength, 1)) (g : Wx X k ce sl H L (pc + 1) ls (.int v :: st)) : Wx X k ce sl H L pc ls (.ref a :: st) := va_alen C.hx C.hb C.hK hw.1 q0 0 he rfl hv hdg g
theorem r_bald (C : Cx X k cc nL rt own A fr lo mc ms) (hw : Wd X k A ws H L) {a n : Nat} {f : Nat → Int32} {i v : Int32} (q0 : Nat) (he : ws[q0]? = some (a, .inl (eB X, n, .inl f))) (hin : vp_in i n) (hv : v = f i.toNatClampNeg) (hdg : decode cc pc = .ok (.baload, 1)) (g : Wx X k ce sl H L (pc + 1) ls (.int v :: st)) : Wx X k ce sl H L pc ls (.int i :: .ref a :: st) := by
  subst hv
  exact va_bald C.hx C.hb C.hK hw.1 q0 1 he rfl hin hdg g
theorem r_bast (C : Cx X k cc nL rt own A fr lo mc ms) (hw : Wd X k A ws H L) {a n : Nat} {f f' : Nat → Int32} {i x : Int32} (q0 : Nat) (he : ws[q0]? = some (a, .inl (eB X, n, .inl f))) (hin : vp_in i n) (hv : f' = upd f i.toNatClampNeg (vp_nar .byte x)) {ws' : va_W} (hws : ws.set q0 (a, .inl (eB X, n, .inl f')) = ws') (hdg : decode cc pc = .ok (.bastore, 1)) (g : ∀ (H1 : Heap) (L1 : List Loc), Wd X k A ws' H1 L1 → Wx X k ce sl H1 L1 (pc + 1) ls st) : Wx X k ce sl H L pc ls (.int x :: .int i :: .ref a :: st) := by
  subst hv
  subst hws
  exact va_bast C.hx C.hb C.hK hw.1 hw.2.1 hw.2.2 q0 1 he rfl hin hdg (fun H1 L1 a b c => g H1 L1 ⟨a, b, c⟩)
theorem r_blen (C : Cx X k cc nL rt own A fr lo mc ms) (hw : Wd X k A ws H L) {a n : Nat} {f : Nat → Int32} {v : Int32} (q0 : Nat) (he : ws[q0]? = some (a, .inl (eB X, n, .inl f))) (hv : Int32.ofNat n = v) (hdg : decode cc pc = .ok (.arraylength, 1)) (g : Wx X k ce sl H L (pc + 1) ls (.int v :: st)) : Wx X k ce sl H L pc ls (.ref a :: st) := va_alen C.hx C.hb C.hK hw.1 q0 1 he rfl hv hdg g
theorem r_zald (C : Cx X k cc nL rt own A fr lo mc ms) (hw : Wd X k A ws H L) {a n : Nat} {f : Nat → Int32} {i v : Int32} (q0 : Nat) (he : ws[q0]? = some (a, .inl (eZ X, n, .inl f))) (hin : vp_in i n) (hv : v = f i.toNatClampNeg) (hdg : decode cc pc = .ok (.baload, 1)) (g : Wx X k ce sl H L (pc + 1) ls (.int v :: st)) : Wx X k ce sl H L pc ls (.int i :: .ref a :: st) := by
  subst hv
  exact va_zald C.hx C.hb C.hK hw.1 q0 2 he rfl hin hdg g
theorem r_zast (C : Cx X k cc nL rt own A fr lo mc ms) (hw : Wd X k A ws H L) {a n : Nat} {f f' : Nat → Int32} {i x : Int32} (q0 : Nat) (he : ws[q0]? = some (a, .inl (eZ X, n, .inl f))) (hin : vp_in i n) (hv : f' = upd f i.toNatClampNeg (vp_nar .boolean x)) {ws' : va_W} (hws : ws.set q0 (a, .inl (eZ X, n, .inl f')) = ws') (hdg : decode cc pc = .ok (.bastore, 1)) (g : ∀ (H1 : Heap) (L1 : List Loc), Wd X k A ws' H1 L1 → Wx X k ce sl H1 L1 (pc + 1) ls st) : Wx X k ce sl H L pc ls (.int x :: .int i :: .ref a :: st) := by
  subst hv
  subst hws
  exact va_zast C.hx C.hb C.hK hw.1 hw.2.1 hw.2.2 q0 2 he rfl hin hdg (fun H1 L1 a b c => g H1 L1 ⟨a, b, c⟩)
theorem r_zlen (C : Cx X k cc nL rt own A fr lo mc ms) (hw : Wd X k A ws H L) {a n : Nat} {f : Nat → Int32} {v : Int32} (q0 : Nat) (he : ws[q0]? = some (a, .inl (eZ X, n, .inl f))) (hv : Int32.ofNat n = v) (hdg : decode cc pc = .ok (.arraylength, 1)) (g : Wx X k ce sl H L (pc + 1) ls (.int v :: st)) : Wx X k ce sl H L pc ls (.ref a :: st) := va_alen C.hx C.hb C.hK hw.1 q0 2 he rfl hv hdg g
theorem r_aldF (C : Cx X k cc nL rt own A fr lo mc ms) (hw : Wd X k A ws H L) {a n b : Nat} {f : Nat → Option Nat} {i : Int32} (q0 : Nat) (he : ws[q0]? = some (a, .inl (eF X, n, .inr (.inr (.inr (.inr f)))))) (hin : vp_in i n) (hv : f i.toNatClampNeg = some b) (hdg : decode cc pc = .ok (.aaload, 1)) (g : Wx X k ce sl H L (pc + 1) ls (.ref b :: st)) : Wx X k ce sl H L pc ls (.int i :: .ref a :: st) := by
  refine va_aldq C.hx C.hb C.hK hw.1 q0 3 he rfl hin hdg ?_
  rw [hv]
  exact g
theorem r_aldR (C : Cx X k cc nL rt own A fr lo mc ms) (hw : Wd X k A ws H L) {a n b : Nat} {f : Nat → Option Nat} {i : Int32} (q0 : Nat) (he : ws[q0]? = some (a, .inl (eR X, n, .inr (.inr (.inr (.inr f)))))) (hin : vp_in i n) (hv : f i.toNatClampNeg = some b) (hdg : decode cc pc = .ok (.aaload, 1)) (g : Wx X k ce sl H L (pc + 1) ls (.ref b :: st)) : Wx X k ce sl H L pc ls (.int i :: .ref a :: st) := by
  refine va_aldq C.hx C.hb C.hK hw.1 q0 4 he rfl hin hdg ?_
  rw [hv]
  exact g
theorem r_max (C : Cx X k cc nL rt own A fr lo mc ms) (hl : lv_has ls nL lv) {ix : Nat} {x y : Int32} (hlk : Cond.methodLink own ix Lib.Math.max.name ∈ aW) (hfr : 1 ≤ fr) (hlo : (st.map fun v => v.category).sum + 13 ≤ lo) (hc : ce ≤ mc) (hs : sl ≤ ms) (hdg : decode cc pc = .ok (.invokestatic ix, 3)) (g : Wx X k ce sl H L (pc + 3) ls (.int (if x < y then y else x) :: st)) : Wx X k ce sl H L pc ls (.int y :: .int x :: st) := va_mmax C.hx C.hb (C.hml.trans hl.1.symm) C.hown (C.hts _ hlk) (C.hts _ w_st_max) (C.hts _ w_in_java_lang_Math) (C.hts _ w_cd_max) (by rw [C.hR]; exact hfr) (by rw [C.hR]; exact hlo) (by rw [C.hR]; exact hc) (by rw [C.hR]; exact hs) hdg g
theorem r_min (C : Cx X k cc nL rt own A fr lo mc ms) (hl : lv_has ls nL lv) {ix : Nat} {x y : Int32} (hlk : Cond.methodLink own ix Lib.Math.min.name ∈ aW) (hfr : 1 ≤ fr) (hlo : (st.map fun v => v.category).sum + 13 ≤ lo) (hc : ce ≤ mc) (hs : sl ≤ ms) (hdg : decode cc pc = .ok (.invokestatic ix, 3)) (g : Wx X k ce sl H L (pc + 3) ls (.int (if y < x then y else x) :: st)) : Wx X k ce sl H L pc ls (.int y :: .int x :: st) := va_mmin C.hx C.hb (C.hml.trans hl.1.symm) C.hown (C.hts _ hlk) (C.hts _ w_st_min) (C.hts _ w_in_java_lang_Math) (C.hts _ w_cd_min) (by rw [C.hR]; exact hfr) (by rw [C.hR]; exact hlo) (by rw [C.hR]; exact hc) (by rw [C.hR]; exact hs) hdg g
theorem r_copy (C : Cx X k cc nL rt own A fr lo mc ms) (hl : lv_has ls nL lv) (hw : Wd X k A ws H L) {ix : Nat} (hlk : Cond.methodLink own ix arraycopyName ∈ aW) (q0 q1 : Nat) {a a0 n0 n1 : Nat} {f f1 f' : Nat → Int32} (ha0 : ws[q0]? = some (a0, .inl (eI X, n0, .inl f))) (ha1 : ws[q1]? = some (a, .inl (eI X, n1, .inl f1))) {sp dp n : Int32} (h1 : ¬ sp < 0) (h2 : ¬ dp < 0) (h3 : ¬ n < 0) (h4 : sp.toNatClampNeg + n.toNatClampNeg ≤ n0) (h5 : dp.toNatClampNeg + n.toNatClampNeg ≤ n1) (hv : f' = va_cpy f f1 sp.toNatClampNeg dp.toNatClampNeg n.toNatClampNeg) {ws' : va_W} (hws : ws.set q1 (a, .inl (eI X, n1, .inl f')) = ws') (hfr : 1 ≤ fr) (hlo : (st.map fun v => v.category).sum + (nativeFrameWords "java/lang/System" "arraycopy" 5 + 11) ≤ lo) (hdg : decode cc pc = .ok (.invokestatic ix, 3)) (g : ∀ (H1 : Heap) (L1 : List Loc), Wd X k A ws' H1 L1 → Wx X k ce sl H1 L1 (pc + 3) ls st) : Wx X k ce sl H L pc ls (.int n :: .int dp :: .ref a :: .int sp :: .ref a0 :: st) := by
  subst hv
  subst hws
  exact va_copyi (ty := .int) C.hx C.hb (C.hml.trans hl.1.symm) C.hown (C.hts _ hlk) (C.hts _ w_na_arraycopy) (C.hts _ w_st_arraycopy) (C.hts _ w_in_java_lang_System) C.hK hw.1 hw.2.1 hw.2.2 q0 q1 0 0 ha0 ha1 rfl rfl rfl h1 h2 h3 h4 h5 (fun _ _ => rfl) (by rw [C.hR]; exact hfr) (by rw [C.hR]; exact hlo) hdg (fun H1 L1 a b c => g H1 L1 ⟨a, b, c⟩)
theorem r_gops (C : Cx X k cc nL rt own A fr lo mc ms) (hw : Wd X k A ws H L) {ix : Nat} (hlk : Cond.fieldLink own ix RX7 "OPERANDS" "[I" ∈ aW) (hdg : decode cc pc = .ok (.getstatic ix, 3)) (g : Wx X k ce sl H L (pc + 3) ls (.ref (et X) :: st)) : Wx X k ce sl H L pc ls (st) := va_gets C.hx C.hb (C.hE.2.2.1.narrow C.hAb) hw.2.2 C.hown (C.hts _ hlk) (fun _ h => h) hdg g
theorem r_ald0 (C : Cx X k cc nL rt own A fr lo mc ms) (hw : Wd X k A ws H L) {i v : Int32} (hin : vp_in i 9) (hv : v = opT i.toNatClampNeg) (hdg : decode cc pc = .ok (.iaload, 1)) (g : Wx X k ce sl H L (pc + 1) ls (.int v :: st)) : Wx X k ce sl H L pc ls (.int i :: .ref (et X) :: st) := by
  subst hv
  exact va_ti C.hx C.hb (C.hE.2.2.2.1.narrow C.hAb) hw.2.2 hin rfl hdg g
theorem r_ret0 {w0 w1 : va_W} {Po : Option Value → va_W → Prop} (hq : Rx X k A w0 Po mc ms) (hw : Wd X k A w1 H L) {rv : Option Value} (hp : Po rv w1) : ∃ sz : Nat, kQ k = MQ (kb k) (Pos X w0 sz Po) (ka k) (ks k) mc ms (va_A w0 sz) ∧ (∀ t : State, t.heap = H → (ks k).WarmedH t.vm → Pos X w0 sz Po (ka k) (ks k) (.returned rv) t) ∧ ∀ q ∈ L, va_A w0 sz q.base := by
  obtain ⟨sz, hA, hQ⟩ := hq
  subst hA
  exact ⟨sz, hQ, fun t ht hW => ⟨⟨rv, w1, rfl, hp, by rw [ht]; exact hw.1, hw.2.1⟩, hw.2.2.F ht⟩, hw.2.2.2.2⟩
theorem r_iret (C : Cx X k cc nL (some .int) own A fr lo mc ms) {w0 w1 : va_W} {Po : Option Value → va_W → Prop} (hq : Rx X k A w0 Po mc ms) (hw : Wd X k A w1 H L) {v : Int32} (hp : Po (some (.int v)) w1) (hdg : decode cc pc = .ok (.ireturn, 1)) : Wx X k mc ms H L pc ls [.int v] := by
  obtain ⟨sz, h1, h2, h3⟩ := r_ret0 hq hw hp
  have := W.iret (p := kp k) (l := eL X) (e := ke k) (R := kR k) (m := km k) (below := kb k) (c := kc k) (cells := mc) (slots := ms) (ls := ls) C.hx C.hb C.hr h2 h3 hdg C.hlk
  unfold Wx
  rw [h1]
  exact this
theorem r_zret {ty : FieldType} (C : Cx X k cc nL (some ty) own A fr lo mc ms) {w0 w1 : va_W} {Po : Option Value → va_W → Prop} (hq : Rx X k A w0 Po mc ms) (hw : Wd X k A w1 H L) {v : Int32} (hn : narrow ty (.int v) = .int v) (hp : Po (some (.int v)) w1) (hdg : decode cc pc = .ok (.ireturn, 1)) : Wx X k mc ms H L pc ls [.int v] := by
  obtain ⟨sz, h1, h2, h3⟩ := r_ret0 hq hw hp
  have := W.zret (p := kp k) (l := eL X) (e := ke k) (R := kR k) (m := km k) (below := kb k) (c := kc k) (cells := mc) (slots := ms) (ls := ls) C.hx C.hb C.hr hn h2 h3 hdg C.hlk
  unfold Wx
  rw [h1]
  exact this
theorem r_vret (C : Cx X k cc nL none own A fr lo mc ms) {w0 w1 : va_W} {Po : Option Value → va_W → Prop} (hq : Rx X k A w0 Po mc ms) (hw : Wd X k A w1 H L) (hp : Po none w1) (hdg : decode cc pc = .ok (.return_, 1)) : Wx X k mc ms H L pc ls [] := by
  obtain ⟨sz, h1, h2, h3⟩ := r_ret0 hq hw hp
  have := W.vret (p := kp k) (l := eL X) (e := ke k) (R := kR k) (m := km k) (below := kb k) (c := kc k) (cells := mc) (slots := ms) (ls := ls) C.hx C.hb C.hr h2 h3 hdg C.hlk
  unfold Wx
  rw [h1]
  exact this
end ROWS
/-! the pure programs' words -/
def rd {α : Type} (f : Nat → Int32) (n : Nat) (i : Int32) (k : Int32 → Option α) : Option α := if ¬ (i < 0 ∨ n ≤ i.toNatClampNeg) then k (f i.toNatClampNeg) else none
def wr {α : Type} (f : Nat → Int32) (n : Nat) (i v : Int32) (k : (Nat → Int32) → Option α) : Option α := if ¬ (i < 0 ∨ n ≤ i.toNatClampNeg) then k (upd f i.toNatClampNeg v) else none
def cpy {α : Type} (f g : Nat → Int32) (n0 n1 : Nat) (sp dp n : Int32) (k : (Nat → Int32) → Option α) : Option α := if ¬ sp < 0 ∧ ¬ dp < 0 ∧ ¬ n < 0 ∧ sp.toNatClampNeg + n.toNatClampNeg ≤ n0 ∧ dp.toNatClampNeg + n.toNatClampNeg ≤ n1 then k (va_cpy f g sp.toNatClampNeg dp.toNatClampNeg n.toNatClampNeg) else none
def ck {α : Type} (c : Prop) [Decidable c] (k : Option α) : Option α := if c then k else none
theorem rd_some {α : Type} {f : Nat → Int32} {n : Nat} {i : Int32} {k : Int32 → Option α} {o : α} (h : rd f n i k = some o) : ∃ v : Int32, v = f i.toNatClampNeg ∧ vp_in i n ∧ k v = some o := by
  unfold rd at h
  split at h
  · exact ⟨_, rfl, by assumption, h⟩
  · cases h
theorem wr_some {α : Type} {f : Nat → Int32} {n : Nat} {i v : Int32} {k : (Nat → Int32) → Option α} {o : α} (h : wr f n i v k = some o) : ∃ f' : Nat → Int32, f' = upd f i.toNatClampNeg v ∧ vp_in i n ∧ k f' = some o := by
  unfold wr at h
  split at h
  · exact ⟨_, rfl, by assumption, h⟩
  · cases h
theorem cpy_some {α : Type} {f g : Nat → Int32} {n0 n1 : Nat} {sp dp n : Int32} {k : (Nat → Int32) → Option α} {o : α} (h : cpy f g n0 n1 sp dp n k = some o) : ∃ f' : Nat → Int32, f' = va_cpy f g sp.toNatClampNeg dp.toNatClampNeg n.toNatClampNeg ∧ (¬ sp < 0 ∧ ¬ dp < 0 ∧ ¬ n < 0 ∧ sp.toNatClampNeg + n.toNatClampNeg ≤ n0 ∧ dp.toNatClampNeg + n.toNatClampNeg ≤ n1) ∧ k f' = some o := by
  unfold cpy at h
  split at h
  · exact ⟨_, rfl, by assumption, h⟩
  · cases h
theorem ck_some {α : Type} {c : Prop} [Decidable c] {k : Option α} {o : α} (h : ck c k = some o) : c ∧ k = some o := by
  unfold ck at h
  split at h
  · exact ⟨by assumption, h⟩
  · cases h
theorem it {α : Type} {c : Prop} [Decidable c] {a b o : α} (hc : c) (h : (if c then a else b) = o) : a = o := by rwa [if_pos hc] at h
theorem if' {α : Type} {c : Prop} [Decidable c] {a b o : α} (hc : ¬ c) (h : (if c then a else b) = o) : b = o := by rwa [if_neg hc] at h
def bd1 {A1 α : Type} (x : Option (A1)) (k : A1 → Option α) : Option α := x.bind fun x => k x
theorem bd1_some {A1 α : Type} {x : Option (A1)} {k : A1 → Option α} {o : α} (h : bd1 x k = some o) : ∃ (a1 : A1), x = some (a1) ∧ k a1 = some o := by
  unfold bd1 at h
  cases x with
  | none => cases h
  | some p => exact ⟨p, rfl, h⟩
theorem bd1_e {A1 α : Type} {k : A1 → Option α} (a1 : A1) : bd1 (some (a1)) k = k a1 := rfl
def lq1 {A1 α : Type} (body : (A1 → Option α) → A1 → Option α) : Nat → A1 → Option α
  | 0, _ => none
  | n + 1, a1 => body (lq1 body n) a1
theorem lq1_0 {A1 α : Type} {body : (A1 → Option α) → A1 → Option α} {o : α} {a1 : A1} {P : Prop} (h : lq1 body 0 a1 = some o) : P := by cases h
theorem lq1_s {A1 α : Type} (body : (A1 → Option α) → A1 → Option α) (n : Nat) (a1 : A1) : lq1 body (n + 1) a1 = body (lq1 body n) a1 := rfl
def bd2 {A1 A2 α : Type} (x : Option (A1 × A2)) (k : A1 → A2 → Option α) : Option α := x.bind fun x => k x.1 x.2
theorem bd2_some {A1 A2 α : Type} {x : Option (A1 × A2)} {k : A1 → A2 → Option α} {o : α} (h : bd2 x k = some o) : ∃ (a1 : A1) (a2 : A2), x = some (a1, a2) ∧ k a1 a2 = some o := by
  unfold bd2 at h
  cases x with
  | none => cases h
  | some p => exact ⟨p.1, p.2, rfl, h⟩
theorem bd2_e {A1 A2 α : Type} {k : A1 → A2 → Option α} (a1 : A1) (a2 : A2) : bd2 (some (a1, a2)) k = k a1 a2 := rfl
def lq2 {A1 A2 α : Type} (body : (A1 → A2 → Option α) → A1 → A2 → Option α) : Nat → A1 → A2 → Option α
  | 0, _, _ => none
  | n + 1, a1, a2 => body (lq2 body n) a1 a2
theorem lq2_0 {A1 A2 α : Type} {body : (A1 → A2 → Option α) → A1 → A2 → Option α} {o : α} {a1 : A1} {a2 : A2} {P : Prop} (h : lq2 body 0 a1 a2 = some o) : P := by cases h
theorem lq2_s {A1 A2 α : Type} (body : (A1 → A2 → Option α) → A1 → A2 → Option α) (n : Nat) (a1 : A1) (a2 : A2) : lq2 body (n + 1) a1 a2 = body (lq2 body n) a1 a2 := rfl
def bd3 {A1 A2 A3 α : Type} (x : Option (A1 × A2 × A3)) (k : A1 → A2 → A3 → Option α) : Option α := x.bind fun x => k x.1 x.2.1 x.2.2
theorem bd3_some {A1 A2 A3 α : Type} {x : Option (A1 × A2 × A3)} {k : A1 → A2 → A3 → Option α} {o : α} (h : bd3 x k = some o) : ∃ (a1 : A1) (a2 : A2) (a3 : A3), x = some (a1, a2, a3) ∧ k a1 a2 a3 = some o := by
  unfold bd3 at h
  cases x with
  | none => cases h
  | some p => exact ⟨p.1, p.2.1, p.2.2, rfl, h⟩
theorem bd3_e {A1 A2 A3 α : Type} {k : A1 → A2 → A3 → Option α} (a1 : A1) (a2 : A2) (a3 : A3) : bd3 (some (a1, a2, a3)) k = k a1 a2 a3 := rfl
def lq3 {A1 A2 A3 α : Type} (body : (A1 → A2 → A3 → Option α) → A1 → A2 → A3 → Option α) : Nat → A1 → A2 → A3 → Option α
  | 0, _, _, _ => none
  | n + 1, a1, a2, a3 => body (lq3 body n) a1 a2 a3
theorem lq3_0 {A1 A2 A3 α : Type} {body : (A1 → A2 → A3 → Option α) → A1 → A2 → A3 → Option α} {o : α} {a1 : A1} {a2 : A2} {a3 : A3} {P : Prop} (h : lq3 body 0 a1 a2 a3 = some o) : P := by cases h
theorem lq3_s {A1 A2 A3 α : Type} (body : (A1 → A2 → A3 → Option α) → A1 → A2 → A3 → Option α) (n : Nat) (a1 : A1) (a2 : A2) (a3 : A3) : lq3 body (n + 1) a1 a2 a3 = body (lq3 body n) a1 a2 a3 := rfl
def bd4 {A1 A2 A3 A4 α : Type} (x : Option (A1 × A2 × A3 × A4)) (k : A1 → A2 → A3 → A4 → Option α) : Option α := x.bind fun x => k x.1 x.2.1 x.2.2.1 x.2.2.2
theorem bd4_some {A1 A2 A3 A4 α : Type} {x : Option (A1 × A2 × A3 × A4)} {k : A1 → A2 → A3 → A4 → Option α} {o : α} (h : bd4 x k = some o) : ∃ (a1 : A1) (a2 : A2) (a3 : A3) (a4 : A4), x = some (a1, a2, a3, a4) ∧ k a1 a2 a3 a4 = some o := by
  unfold bd4 at h
  cases x with
  | none => cases h
  | some p => exact ⟨p.1, p.2.1, p.2.2.1, p.2.2.2, rfl, h⟩
theorem bd4_e {A1 A2 A3 A4 α : Type} {k : A1 → A2 → A3 → A4 → Option α} (a1 : A1) (a2 : A2) (a3 : A3) (a4 : A4) : bd4 (some (a1, a2, a3, a4)) k = k a1 a2 a3 a4 := rfl
def lq4 {A1 A2 A3 A4 α : Type} (body : (A1 → A2 → A3 → A4 → Option α) → A1 → A2 → A3 → A4 → Option α) : Nat → A1 → A2 → A3 → A4 → Option α
  | 0, _, _, _, _ => none
  | n + 1, a1, a2, a3, a4 => body (lq4 body n) a1 a2 a3 a4
theorem lq4_0 {A1 A2 A3 A4 α : Type} {body : (A1 → A2 → A3 → A4 → Option α) → A1 → A2 → A3 → A4 → Option α} {o : α} {a1 : A1} {a2 : A2} {a3 : A3} {a4 : A4} {P : Prop} (h : lq4 body 0 a1 a2 a3 a4 = some o) : P := by cases h
theorem lq4_s {A1 A2 A3 A4 α : Type} (body : (A1 → A2 → A3 → A4 → Option α) → A1 → A2 → A3 → A4 → Option α) (n : Nat) (a1 : A1) (a2 : A2) (a3 : A3) (a4 : A4) : lq4 body (n + 1) a1 a2 a3 a4 = body (lq4 body n) a1 a2 a3 a4 := rfl
def bd5 {A1 A2 A3 A4 A5 α : Type} (x : Option (A1 × A2 × A3 × A4 × A5)) (k : A1 → A2 → A3 → A4 → A5 → Option α) : Option α := x.bind fun x => k x.1 x.2.1 x.2.2.1 x.2.2.2.1 x.2.2.2.2
theorem bd5_some {A1 A2 A3 A4 A5 α : Type} {x : Option (A1 × A2 × A3 × A4 × A5)} {k : A1 → A2 → A3 → A4 → A5 → Option α} {o : α} (h : bd5 x k = some o) : ∃ (a1 : A1) (a2 : A2) (a3 : A3) (a4 : A4) (a5 : A5), x = some (a1, a2, a3, a4, a5) ∧ k a1 a2 a3 a4 a5 = some o := by
  unfold bd5 at h
  cases x with
  | none => cases h
  | some p => exact ⟨p.1, p.2.1, p.2.2.1, p.2.2.2.1, p.2.2.2.2, rfl, h⟩
theorem bd5_e {A1 A2 A3 A4 A5 α : Type} {k : A1 → A2 → A3 → A4 → A5 → Option α} (a1 : A1) (a2 : A2) (a3 : A3) (a4 : A4) (a5 : A5) : bd5 (some (a1, a2, a3, a4, a5)) k = k a1 a2 a3 a4 a5 := rfl
def lq5 {A1 A2 A3 A4 A5 α : Type} (body : (A1 → A2 → A3 → A4 → A5 → Option α) → A1 → A2 → A3 → A4 → A5 → Option α) : Nat → A1 → A2 → A3 → A4 → A5 → Option α
  | 0, _, _, _, _, _ => none
  | n + 1, a1, a2, a3, a4, a5 => body (lq5 body n) a1 a2 a3 a4 a5
theorem lq5_0 {A1 A2 A3 A4 A5 α : Type} {body : (A1 → A2 → A3 → A4 → A5 → Option α) → A1 → A2 → A3 → A4 → A5 → Option α} {o : α} {a1 : A1} {a2 : A2} {a3 : A3} {a4 : A4} {a5 : A5} {P : Prop} (h : lq5 body 0 a1 a2 a3 a4 a5 = some o) : P := by cases h
theorem lq5_s {A1 A2 A3 A4 A5 α : Type} (body : (A1 → A2 → A3 → A4 → A5 → Option α) → A1 → A2 → A3 → A4 → A5 → Option α) (n : Nat) (a1 : A1) (a2 : A2) (a3 : A3) (a4 : A4) (a5 : A5) : lq5 body (n + 1) a1 a2 a3 a4 a5 = body (lq5 body n) a1 a2 a3 a4 a5 := rfl
def bd6 {A1 A2 A3 A4 A5 A6 α : Type} (x : Option (A1 × A2 × A3 × A4 × A5 × A6)) (k : A1 → A2 → A3 → A4 → A5 → A6 → Option α) : Option α := x.bind fun x => k x.1 x.2.1 x.2.2.1 x.2.2.2.1 x.2.2.2.2.1 x.2.2.2.2.2
theorem bd6_some {A1 A2 A3 A4 A5 A6 α : Type} {x : Option (A1 × A2 × A3 × A4 × A5 × A6)} {k : A1 → A2 → A3 → A4 → A5 → A6 → Option α} {o : α} (h : bd6 x k = some o) : ∃ (a1 : A1) (a2 : A2) (a3 : A3) (a4 : A4) (a5 : A5) (a6 : A6), x = some (a1, a2, a3, a4, a5, a6) ∧ k a1 a2 a3 a4 a5 a6 = some o := by
  unfold bd6 at h
  cases x with
  | none => cases h
  | some p => exact ⟨p.1, p.2.1, p.2.2.1, p.2.2.2.1, p.2.2.2.2.1, p.2.2.2.2.2, rfl, h⟩
theorem bd6_e {A1 A2 A3 A4 A5 A6 α : Type} {k : A1 → A2 → A3 → A4 → A5 → A6 → Option α} (a1 : A1) (a2 : A2) (a3 : A3) (a4 : A4) (a5 : A5) (a6 : A6) : bd6 (some (a1, a2, a3, a4, a5, a6)) k = k a1 a2 a3 a4 a5 a6 := rfl
def lq6 {A1 A2 A3 A4 A5 A6 α : Type} (body : (A1 → A2 → A3 → A4 → A5 → A6 → Option α) → A1 → A2 → A3 → A4 → A5 → A6 → Option α) : Nat → A1 → A2 → A3 → A4 → A5 → A6 → Option α
  | 0, _, _, _, _, _, _ => none
  | n + 1, a1, a2, a3, a4, a5, a6 => body (lq6 body n) a1 a2 a3 a4 a5 a6
theorem lq6_0 {A1 A2 A3 A4 A5 A6 α : Type} {body : (A1 → A2 → A3 → A4 → A5 → A6 → Option α) → A1 → A2 → A3 → A4 → A5 → A6 → Option α} {o : α} {a1 : A1} {a2 : A2} {a3 : A3} {a4 : A4} {a5 : A5} {a6 : A6} {P : Prop} (h : lq6 body 0 a1 a2 a3 a4 a5 a6 = some o) : P := by cases h
theorem lq6_s {A1 A2 A3 A4 A5 A6 α : Type} (body : (A1 → A2 → A3 → A4 → A5 → A6 → Option α) → A1 → A2 → A3 → A4 → A5 → A6 → Option α) (n : Nat) (a1 : A1) (a2 : A2) (a3 : A3) (a4 : A4) (a5 : A5) (a6 : A6) : lq6 body (n + 1) a1 a2 a3 a4 a5 a6 = body (lq6 body n) a1 a2 a3 a4 a5 a6 := rfl
def bd7 {A1 A2 A3 A4 A5 A6 A7 α : Type} (x : Option (A1 × A2 × A3 × A4 × A5 × A6 × A7)) (k : A1 → A2 → A3 → A4 → A5 → A6 → A7 → Option α) : Option α := x.bind fun x => k x.1 x.2.1 x.2.2.1 x.2.2.2.1 x.2.2.2.2.1 x.2.2.2.2.2.1 x.2.2.2.2.2.2
theorem bd7_some {A1 A2 A3 A4 A5 A6 A7 α : Type} {x : Option (A1 × A2 × A3 × A4 × A5 × A6 × A7)} {k : A1 → A2 → A3 → A4 → A5 → A6 → A7 → Option α} {o : α} (h : bd7 x k = some o) : ∃ (a1 : A1) (a2 : A2) (a3 : A3) (a4 : A4) (a5 : A5) (a6 : A6) (a7 : A7), x = some (a1, a2, a3, a4, a5, a6, a7) ∧ k a1 a2 a3 a4 a5 a6 a7 = some o := by
  unfold bd7 at h
  cases x with
  | none => cases h
  | some p => exact ⟨p.1, p.2.1, p.2.2.1, p.2.2.2.1, p.2.2.2.2.1, p.2.2.2.2.2.1, p.2.2.2.2.2.2, rfl, h⟩
theorem bd7_e {A1 A2 A3 A4 A5 A6 A7 α : Type} {k : A1 → A2 → A3 → A4 → A5 → A6 → A7 → Option α} (a1 : A1) (a2 : A2) (a3 : A3) (a4 : A4) (a5 : A5) (a6 : A6) (a7 : A7) : bd7 (some (a1, a2, a3, a4, a5, a6, a7)) k = k a1 a2 a3 a4 a5 a6 a7 := rfl
def lq7 {A1 A2 A3 A4 A5 A6 A7 α : Type} (body : (A1 → A2 → A3 → A4 → A5 → A6 → A7 → Option α) → A1 → A2 → A3 → A4 → A5 → A6 → A7 → Option α) : Nat → A1 → A2 → A3 → A4 → A5 → A6 → A7 → Option α
  | 0, _, _, _, _, _, _, _ => none
  | n + 1, a1, a2, a3, a4, a5, a6, a7 => body (lq7 body n) a1 a2 a3 a4 a5 a6 a7
theorem lq7_0 {A1 A2 A3 A4 A5 A6 A7 α : Type} {body : (A1 → A2 → A3 → A4 → A5 → A6 → A7 → Option α) → A1 → A2 → A3 → A4 → A5 → A6 → A7 → Option α} {o : α} {a1 : A1} {a2 : A2} {a3 : A3} {a4 : A4} {a5 : A5} {a6 : A6} {a7 : A7} {P : Prop} (h : lq7 body 0 a1 a2 a3 a4 a5 a6 a7 = some o) : P := by cases h
theorem lq7_s {A1 A2 A3 A4 A5 A6 A7 α : Type} (body : (A1 → A2 → A3 → A4 → A5 → A6 → A7 → Option α) → A1 → A2 → A3 → A4 → A5 → A6 → A7 → Option α) (n : Nat) (a1 : A1) (a2 : A2) (a3 : A3) (a4 : A4) (a5 : A5) (a6 : A6) (a7 : A7) : lq7 body (n + 1) a1 a2 a3 a4 a5 a6 a7 = body (lq7 body n) a1 a2 a3 a4 a5 a6 a7 := rfl
def bd8 {A1 A2 A3 A4 A5 A6 A7 A8 α : Type} (x : Option (A1 × A2 × A3 × A4 × A5 × A6 × A7 × A8)) (k : A1 → A2 → A3 → A4 → A5 → A6 → A7 → A8 → Option α) : Option α := x.bind fun x => k x.1 x.2.1 x.2.2.1 x.2.2.2.1 x.2.2.2.2.1 x.2.2.2.2.2.1 x.2.2.2.2.2.2.1 x.2.2.2.2.2.2.2
theorem bd8_some {A1 A2 A3 A4 A5 A6 A7 A8 α : Type} {x : Option (A1 × A2 × A3 × A4 × A5 × A6 × A7 × A8)} {k : A1 → A2 → A3 → A4 → A5 → A6 → A7 → A8 → Option α} {o : α} (h : bd8 x k = some o) : ∃ (a1 : A1) (a2 : A2) (a3 : A3) (a4 : A4) (a5 : A5) (a6 : A6) (a7 : A7) (a8 : A8), x = some (a1, a2, a3, a4, a5, a6, a7, a8) ∧ k a1 a2 a3 a4 a5 a6 a7 a8 = some o := by
  unfold bd8 at h
  cases x with
  | none => cases h
  | some p => exact ⟨p.1, p.2.1, p.2.2.1, p.2.2.2.1, p.2.2.2.2.1, p.2.2.2.2.2.1, p.2.2.2.2.2.2.1, p.2.2.2.2.2.2.2, rfl, h⟩
theorem bd8_e {A1 A2 A3 A4 A5 A6 A7 A8 α : Type} {k : A1 → A2 → A3 → A4 → A5 → A6 → A7 → A8 → Option α} (a1 : A1) (a2 : A2) (a3 : A3) (a4 : A4) (a5 : A5) (a6 : A6) (a7 : A7) (a8 : A8) : bd8 (some (a1, a2, a3, a4, a5, a6, a7, a8)) k = k a1 a2 a3 a4 a5 a6 a7 a8 := rfl
def lq8 {A1 A2 A3 A4 A5 A6 A7 A8 α : Type} (body : (A1 → A2 → A3 → A4 → A5 → A6 → A7 → A8 → Option α) → A1 → A2 → A3 → A4 → A5 → A6 → A7 → A8 → Option α) : Nat → A1 → A2 → A3 → A4 → A5 → A6 → A7 → A8 → Option α
  | 0, _, _, _, _, _, _, _, _ => none
  | n + 1, a1, a2, a3, a4, a5, a6, a7, a8 => body (lq8 body n) a1 a2 a3 a4 a5 a6 a7 a8
theorem lq8_0 {A1 A2 A3 A4 A5 A6 A7 A8 α : Type} {body : (A1 → A2 → A3 → A4 → A5 → A6 → A7 → A8 → Option α) → A1 → A2 → A3 → A4 → A5 → A6 → A7 → A8 → Option α} {o : α} {a1 : A1} {a2 : A2} {a3 : A3} {a4 : A4} {a5 : A5} {a6 : A6} {a7 : A7} {a8 : A8} {P : Prop} (h : lq8 body 0 a1 a2 a3 a4 a5 a6 a7 a8 = some o) : P := by cases h
theorem lq8_s {A1 A2 A3 A4 A5 A6 A7 A8 α : Type} (body : (A1 → A2 → A3 → A4 → A5 → A6 → A7 → A8 → Option α) → A1 → A2 → A3 → A4 → A5 → A6 → A7 → A8 → Option α) (n : Nat) (a1 : A1) (a2 : A2) (a3 : A3) (a4 : A4) (a5 : A5) (a6 : A6) (a7 : A7) (a8 : A8) : lq8 body (n + 1) a1 a2 a3 a4 a5 a6 a7 a8 = body (lq8 body n) a1 a2 a3 a4 a5 a6 a7 a8 := rfl
def bd9 {A1 A2 A3 A4 A5 A6 A7 A8 A9 α : Type} (x : Option (A1 × A2 × A3 × A4 × A5 × A6 × A7 × A8 × A9)) (k : A1 → A2 → A3 → A4 → A5 → A6 → A7 → A8 → A9 → Option α) : Option α := x.bind fun x => k x.1 x.2.1 x.2.2.1 x.2.2.2.1 x.2.2.2.2.1 x.2.2.2.2.2.1 x.2.2.2.2.2.2.1 x.2.2.2.2.2.2.2.1 x.2.2.2.2.2.2.2.2
theorem bd9_some {A1 A2 A3 A4 A5 A6 A7 A8 A9 α : Type} {x : Option (A1 × A2 × A3 × A4 × A5 × A6 × A7 × A8 × A9)} {k : A1 → A2 → A3 → A4 → A5 → A6 → A7 → A8 → A9 → Option α} {o : α} (h : bd9 x k = some o) : ∃ (a1 : A1) (a2 : A2) (a3 : A3) (a4 : A4) (a5 : A5) (a6 : A6) (a7 : A7) (a8 : A8) (a9 : A9), x = some (a1, a2, a3, a4, a5, a6, a7, a8, a9) ∧ k a1 a2 a3 a4 a5 a6 a7 a8 a9 = some o := by
  unfold bd9 at h
  cases x with
  | none => cases h
  | some p => exact ⟨p.1, p.2.1, p.2.2.1, p.2.2.2.1, p.2.2.2.2.1, p.2.2.2.2.2.1, p.2.2.2.2.2.2.1, p.2.2.2.2.2.2.2.1, p.2.2.2.2.2.2.2.2, rfl, h⟩
theorem bd9_e {A1 A2 A3 A4 A5 A6 A7 A8 A9 α : Type} {k : A1 → A2 → A3 → A4 → A5 → A6 → A7 → A8 → A9 → Option α} (a1 : A1) (a2 : A2) (a3 : A3) (a4 : A4) (a5 : A5) (a6 : A6) (a7 : A7) (a8 : A8) (a9 : A9) : bd9 (some (a1, a2, a3, a4, a5, a6, a7, a8, a9)) k = k a1 a2 a3 a4 a5 a6 a7 a8 a9 := rfl
def lq9 {A1 A2 A3 A4 A5 A6 A7 A8 A9 α : Type} (body : (A1 → A2 → A3 → A4 → A5 → A6 → A7 → A8 → A9 → Option α) → A1 → A2 → A3 → A4 → A5 → A6 → A7 → A8 → A9 → Option α) : Nat → A1 → A2 → A3 → A4 → A5 → A6 → A7 → A8 → A9 → Option α
  | 0, _, _, _, _, _, _, _, _, _ => none
  | n + 1, a1, a2, a3, a4, a5, a6, a7, a8, a9 => body (lq9 body n) a1 a2 a3 a4 a5 a6 a7 a8 a9
theorem lq9_0 {A1 A2 A3 A4 A5 A6 A7 A8 A9 α : Type} {body : (A1 → A2 → A3 → A4 → A5 → A6 → A7 → A8 → A9 → Option α) → A1 → A2 → A3 → A4 → A5 → A6 → A7 → A8 → A9 → Option α} {o : α} {a1 : A1} {a2 : A2} {a3 : A3} {a4 : A4} {a5 : A5} {a6 : A6} {a7 : A7} {a8 : A8} {a9 : A9} {P : Prop} (h : lq9 body 0 a1 a2 a3 a4 a5 a6 a7 a8 a9 = some o) : P := by cases h
theorem lq9_s {A1 A2 A3 A4 A5 A6 A7 A8 A9 α : Type} (body : (A1 → A2 → A3 → A4 → A5 → A6 → A7 → A8 → A9 → Option α) → A1 → A2 → A3 → A4 → A5 → A6 → A7 → A8 → A9 → Option α) (n : Nat) (a1 : A1) (a2 : A2) (a3 : A3) (a4 : A4) (a5 : A5) (a6 : A6) (a7 : A7) (a8 : A8) (a9 : A9) : lq9 body (n + 1) a1 a2 a3 a4 a5 a6 a7 a8 a9 = body (lq9 body n) a1 a2 a3 a4 a5 a6 a7 a8 a9 := rfl
def bd10 {A1 A2 A3 A4 A5 A6 A7 A8 A9 A10 α : Type} (x : Option (A1 × A2 × A3 × A4 × A5 × A6 × A7 × A8 × A9 × A10)) (k : A1 → A2 → A3 → A4 → A5 → A6 → A7 → A8 → A9 → A10 → Option α) : Option α := x.bind fun x => k x.1 x.2.1 x.2.2.1 x.2.2.2.1 x.2.2.2.2.1 x.2.2.2.2.2.1 x.2.2.2.2.2.2.1 x.2.2.2.2.2.2.2.1 x.2.2.2.2.2.2.2.2.1 x.2.2.2.2.2.2.2.2.2
theorem bd10_some {A1 A2 A3 A4 A5 A6 A7 A8 A9 A10 α : Type} {x : Option (A1 × A2 × A3 × A4 × A5 × A6 × A7 × A8 × A9 × A10)} {k : A1 → A2 → A3 → A4 → A5 → A6 → A7 → A8 → A9 → A10 → Option α} {o : α} (h : bd10 x k = some o) : ∃ (a1 : A1) (a2 : A2) (a3 : A3) (a4 : A4) (a5 : A5) (a6 : A6) (a7 : A7) (a8 : A8) (a9 : A9) (a10 : A10), x = some (a1, a2, a3, a4, a5, a6, a7, a8, a9, a10) ∧ k a1 a2 a3 a4 a5 a6 a7 a8 a9 a10 = some o := by
  unfold bd10 at h
  cases x with
  | none => cases h
  | some p => exact ⟨p.1, p.2.1, p.2.2.1, p.2.2.2.1, p.2.2.2.2.1, p.2.2.2.2.2.1, p.2.2.2.2.2.2.1, p.2.2.2.2.2.2.2.1, p.2.2.2.2.2.2.2.2.1, p.2.2.2.2.2.2.2.2.2, rfl, h⟩
theorem bd10_e {A1 A2 A3 A4 A5 A6 A7 A8 A9 A10 α : Type} {k : A1 → A2 → A3 → A4 → A5 → A6 → A7 → A8 → A9 → A10 → Option α} (a1 : A1) (a2 : A2) (a3 : A3) (a4 : A4) (a5 : A5) (a6 : A6) (a7 : A7) (a8 : A8) (a9 : A9) (a10 : A10) : bd10 (some (a1, a2, a3, a4, a5, a6, a7, a8, a9, a10)) k = k a1 a2 a3 a4 a5 a6 a7 a8 a9 a10 := rfl
def lq10 {A1 A2 A3 A4 A5 A6 A7 A8 A9 A10 α : Type} (body : (A1 → A2 → A3 → A4 → A5 → A6 → A7 → A8 → A9 → A10 → Option α) → A1 → A2 → A3 → A4 → A5 → A6 → A7 → A8 → A9 → A10 → Option α) : Nat → A1 → A2 → A3 → A4 → A5 → A6 → A7 → A8 → A9 → A10 → Option α
  | 0, _, _, _, _, _, _, _, _, _, _ => none
  | n + 1, a1, a2, a3, a4, a5, a6, a7, a8, a9, a10 => body (lq10 body n) a1 a2 a3 a4 a5 a6 a7 a8 a9 a10
theorem lq10_0 {A1 A2 A3 A4 A5 A6 A7 A8 A9 A10 α : Type} {body : (A1 → A2 → A3 → A4 → A5 → A6 → A7 → A8 → A9 → A10 → Option α) → A1 → A2 → A3 → A4 → A5 → A6 → A7 → A8 → A9 → A10 → Option α} {o : α} {a1 : A1} {a2 : A2} {a3 : A3} {a4 : A4} {a5 : A5} {a6 : A6} {a7 : A7} {a8 : A8} {a9 : A9} {a10 : A10} {P : Prop} (h : lq10 body 0 a1 a2 a3 a4 a5 a6 a7 a8 a9 a10 = some o) : P := by cases h
theorem lq10_s {A1 A2 A3 A4 A5 A6 A7 A8 A9 A10 α : Type} (body : (A1 → A2 → A3 → A4 → A5 → A6 → A7 → A8 → A9 → A10 → Option α) → A1 → A2 → A3 → A4 → A5 → A6 → A7 → A8 → A9 → A10 → Option α) (n : Nat) (a1 : A1) (a2 : A2) (a3 : A3) (a4 : A4) (a5 : A5) (a6 : A6) (a7 : A7) (a8 : A8) (a9 : A9) (a10 : A10) : lq10 body (n + 1) a1 a2 a3 a4 a5 a6 a7 a8 a9 a10 = body (lq10 body n) a1 a2 a3 a4 a5 a6 a7 a8 a9 a10 := rfl
def bd11 {A1 A2 A3 A4 A5 A6 A7 A8 A9 A10 A11 α : Type} (x : Option (A1 × A2 × A3 × A4 × A5 × A6 × A7 × A8 × A9 × A10 × A11)) (k : A1 → A2 → A3 → A4 → A5 → A6 → A7 → A8 → A9 → A10 → A11 → Option α) : Option α := x.bind fun x => k x.1 x.2.1 x.2.2.1 x.2.2.2.1 x.2.2.2.2.1 x.2.2.2.2.2.1 x.2.2.2.2.2.2.1 x.2.2.2.2.2.2.2.1 x.2.2.2.2.2.2.2.2.1 x.2.2.2.2.2.2.2.2.2.1 x.2.2.2.2.2.2.2.2.2.2
theorem bd11_some {A1 A2 A3 A4 A5 A6 A7 A8 A9 A10 A11 α : Type} {x : Option (A1 × A2 × A3 × A4 × A5 × A6 × A7 × A8 × A9 × A10 × A11)} {k : A1 → A2 → A3 → A4 → A5 → A6 → A7 → A8 → A9 → A10 → A11 → Option α} {o : α} (h : bd11 x k = some o) : ∃ (a1 : A1) (a2 : A2) (a3 : A3) (a4 : A4) (a5 : A5) (a6 : A6) (a7 : A7) (a8 : A8) (a9 : A9) (a10 : A10) (a11 : A11), x = some (a1, a2, a3, a4, a5, a6, a7, a8, a9, a10, a11) ∧ k a1 a2 a3 a4 a5 a6 a7 a8 a9 a10 a11 = some o := by
  unfold bd11 at h
  cases x with
  | none => cases h
  | some p => exact ⟨p.1, p.2.1, p.2.2.1, p.2.2.2.1, p.2.2.2.2.1, p.2.2.2.2.2.1, p.2.2.2.2.2.2.1, p.2.2.2.2.2.2.2.1, p.2.2.2.2.2.2.2.2.1, p.2.2.2.2.2.2.2.2.2.1, p.2.2.2.2.2.2.2.2.2.2, rfl, h⟩
theorem bd11_e {A1 A2 A3 A4 A5 A6 A7 A8 A9 A10 A11 α : Type} {k : A1 → A2 → A3 → A4 → A5 → A6 → A7 → A8 → A9 → A10 → A11 → Option α} (a1 : A1) (a2 : A2) (a3 : A3) (a4 : A4) (a5 : A5) (a6 : A6) (a7 : A7) (a8 : A8) (a9 : A9) (a10 : A10) (a11 : A11) : bd11 (some (a1, a2, a3, a4, a5, a6, a7, a8, a9, a10, a11)) k = k a1 a2 a3 a4 a5 a6 a7 a8 a9 a10 a11 := rfl
def lq11 {A1 A2 A3 A4 A5 A6 A7 A8 A9 A10 A11 α : Type} (body : (A1 → A2 → A3 → A4 → A5 → A6 → A7 → A8 → A9 → A10 → A11 → Option α) → A1 → A2 → A3 → A4 → A5 → A6 → A7 → A8 → A9 → A10 → A11 → Option α) : Nat → A1 → A2 → A3 → A4 → A5 → A6 → A7 → A8 → A9 → A10 → A11 → Option α
  | 0, _, _, _, _, _, _, _, _, _, _, _ => none
  | n + 1, a1, a2, a3, a4, a5, a6, a7, a8, a9, a10, a11 => body (lq11 body n) a1 a2 a3 a4 a5 a6 a7 a8 a9 a10 a11
theorem lq11_0 {A1 A2 A3 A4 A5 A6 A7 A8 A9 A10 A11 α : Type} {body : (A1 → A2 → A3 → A4 → A5 → A6 → A7 → A8 → A9 → A10 → A11 → Option α) → A1 → A2 → A3 → A4 → A5 → A6 → A7 → A8 → A9 → A10 → A11 → Option α} {o : α} {a1 : A1} {a2 : A2} {a3 : A3} {a4 : A4} {a5 : A5} {a6 : A6} {a7 : A7} {a8 : A8} {a9 : A9} {a10 : A10} {a11 : A11} {P : Prop} (h : lq11 body 0 a1 a2 a3 a4 a5 a6 a7 a8 a9 a10 a11 = some o) : P := by cases h
theorem lq11_s {A1 A2 A3 A4 A5 A6 A7 A8 A9 A10 A11 α : Type} (body : (A1 → A2 → A3 → A4 → A5 → A6 → A7 → A8 → A9 → A10 → A11 → Option α) → A1 → A2 → A3 → A4 → A5 → A6 → A7 → A8 → A9 → A10 → A11 → Option α) (n : Nat) (a1 : A1) (a2 : A2) (a3 : A3) (a4 : A4) (a5 : A5) (a6 : A6) (a7 : A7) (a8 : A8) (a9 : A9) (a10 : A10) (a11 : A11) : lq11 body (n + 1) a1 a2 a3 a4 a5 a6 a7 a8 a9 a10 a11 = body (lq11 body n) a1 a2 a3 a4 a5 a6 a7 a8 a9 a10 a11 := rfl
def bd12 {A1 A2 A3 A4 A5 A6 A7 A8 A9 A10 A11 A12 α : Type} (x : Option (A1 × A2 × A3 × A4 × A5 × A6 × A7 × A8 × A9 × A10 × A11 × A12)) (k : A1 → A2 → A3 → A4 → A5 → A6 → A7 → A8 → A9 → A10 → A11 → A12 → Option α) : Option α := x.bind fun x => k x.1 x.2.1 x.2.2.1 x.2.2.2.1 x.2.2.2.2.1 x.2.2.2.2.2.1 x.2.2.2.2.2.2.1 x.2.2.2.2.2.2.2.1 x.2.2.2.2.2.2.2.2.1 x.2.2.2.2.2.2.2.2.2.1 x.2.2.2.2.2.2.2.2.2.2.1 x.2.2.2.2.2.2.2.2.2.2.2
theorem bd12_some {A1 A2 A3 A4 A5 A6 A7 A8 A9 A10 A11 A12 α : Type} {x : Option (A1 × A2 × A3 × A4 × A5 × A6 × A7 × A8 × A9 × A10 × A11 × A12)} {k : A1 → A2 → A3 → A4 → A5 → A6 → A7 → A8 → A9 → A10 → A11 → A12 → Option α} {o : α} (h : bd12 x k = some o) : ∃ (a1 : A1) (a2 : A2) (a3 : A3) (a4 : A4) (a5 : A5) (a6 : A6) (a7 : A7) (a8 : A8) (a9 : A9) (a10 : A10) (a11 : A11) (a12 : A12), x = some (a1, a2, a3, a4, a5, a6, a7, a8, a9, a10, a11, a12) ∧ k a1 a2 a3 a4 a5 a6 a7 a8 a9 a10 a11 a12 = some o := by
  unfold bd12 at h
  cases x with
  | none => cases h
  | some p => exact ⟨p.1, p.2.1, p.2.2.1, p.2.2.2.1, p.2.2.2.2.1, p.2.2.2.2.2.1, p.2.2.2.2.2.2.1, p.2.2.2.2.2.2.2.1, p.2.2.2.2.2.2.2.2.1, p.2.2.2.2.2.2.2.2.2.1, p.2.2.2.2.2.2.2.2.2.2.1, p.2.2.2.2.2.2.2.2.2.2.2, rfl, h⟩
theorem bd12_e {A1 A2 A3 A4 A5 A6 A7 A8 A9 A10 A11 A12 α : Type} {k : A1 → A2 → A3 → A4 → A5 → A6 → A7 → A8 → A9 → A10 → A11 → A12 → Option α} (a1 : A1) (a2 : A2) (a3 : A3) (a4 : A4) (a5 : A5) (a6 : A6) (a7 : A7) (a8 : A8) (a9 : A9) (a10 : A10) (a11 : A11) (a12 : A12) : bd12 (some (a1, a2, a3, a4, a5, a6, a7, a8, a9, a10, a11, a12)) k = k a1 a2 a3 a4 a5 a6 a7 a8 a9 a10 a11 a12 := rfl
def lq12 {A1 A2 A3 A4 A5 A6 A7 A8 A9 A10 A11 A12 α : Type} (body : (A1 → A2 → A3 → A4 → A5 → A6 → A7 → A8 → A9 → A10 → A11 → A12 → Option α) → A1 → A2 → A3 → A4 → A5 → A6 → A7 → A8 → A9 → A10 → A11 → A12 → Option α) : Nat → A1 → A2 → A3 → A4 → A5 → A6 → A7 → A8 → A9 → A10 → A11 → A12 → Option α
  | 0, _, _, _, _, _, _, _, _, _, _, _, _ => none
  | n + 1, a1, a2, a3, a4, a5, a6, a7, a8, a9, a10, a11, a12 => body (lq12 body n) a1 a2 a3 a4 a5 a6 a7 a8 a9 a10 a11 a12
theorem lq12_0 {A1 A2 A3 A4 A5 A6 A7 A8 A9 A10 A11 A12 α : Type} {body : (A1 → A2 → A3 → A4 → A5 → A6 → A7 → A8 → A9 → A10 → A11 → A12 → Option α) → A1 → A2 → A3 → A4 → A5 → A6 → A7 → A8 → A9 → A10 → A11 → A12 → Option α} {o : α} {a1 : A1} {a2 : A2} {a3 : A3} {a4 : A4} {a5 : A5} {a6 : A6} {a7 : A7} {a8 : A8} {a9 : A9} {a10 : A10} {a11 : A11} {a12 : A12} {P : Prop} (h : lq12 body 0 a1 a2 a3 a4 a5 a6 a7 a8 a9 a10 a11 a12 = some o) : P := by cases h
theorem lq12_s {A1 A2 A3 A4 A5 A6 A7 A8 A9 A10 A11 A12 α : Type} (body : (A1 → A2 → A3 → A4 → A5 → A6 → A7 → A8 → A9 → A10 → A11 → A12 → Option α) → A1 → A2 → A3 → A4 → A5 → A6 → A7 → A8 → A9 → A10 → A11 → A12 → Option α) (n : Nat) (a1 : A1) (a2 : A2) (a3 : A3) (a4 : A4) (a5 : A5) (a6 : A6) (a7 : A7) (a8 : A8) (a9 : A9) (a10 : A10) (a11 : A11) (a12 : A12) : lq12 body (n + 1) a1 a2 a3 a4 a5 a6 a7 a8 a9 a10 a11 a12 = body (lq12 body n) a1 a2 a3 a4 a5 a6 a7 a8 a9 a10 a11 a12 := rfl
def bd13 {A1 A2 A3 A4 A5 A6 A7 A8 A9 A10 A11 A12 A13 α : Type} (x : Option (A1 × A2 × A3 × A4 × A5 × A6 × A7 × A8 × A9 × A10 × A11 × A12 × A13)) (k : A1 → A2 → A3 → A4 → A5 → A6 → A7 → A8 → A9 → A10 → A11 → A12 → A13 → Option α) : Option α := x.bind fun x => k x.1 x.2.1 x.2.2.1 x.2.2.2.1 x.2.2.2.2.1 x.2.2.2.2.2.1 x.2.2.2.2.2.2.1 x.2.2.2.2.2.2.2.1 x.2.2.2.2.2.2.2.2.1 x.2.2.2.2.2.2.2.2.2.1 x.2.2.2.2.2.2.2.2.2.2.1 x.2.2.2.2.2.2.2.2.2.2.2.1 x.2.2.2.2.2.2.2.2.2.2.2.2
theorem bd13_some {A1 A2 A3 A4 A5 A6 A7 A8 A9 A10 A11 A12 A13 α : Type} {x : Option (A1 × A2 × A3 × A4 × A5 × A6 × A7 × A8 × A9 × A10 × A11 × A12 × A13)} {k : A1 → A2 → A3 → A4 → A5 → A6 → A7 → A8 → A9 → A10 → A11 → A12 → A13 → Option α} {o : α} (h : bd13 x k = some o) : ∃ (a1 : A1) (a2 : A2) (a3 : A3) (a4 : A4) (a5 : A5) (a6 : A6) (a7 : A7) (a8 : A8) (a9 : A9) (a10 : A10) (a11 : A11) (a12 : A12) (a13 : A13), x = some (a1, a2, a3, a4, a5, a6, a7, a8, a9, a10, a11, a12, a13) ∧ k a1 a2 a3 a4 a5 a6 a7 a8 a9 a10 a11 a12 a13 = some o := by
  unfold bd13 at h
  cases x with
  | none => cases h
  | some p => exact ⟨p.1, p.2.1, p.2.2.1, p.2.2.2.1, p.2.2.2.2.1, p.2.2.2.2.2.1, p.2.2.2.2.2.2.1, p.2.2.2.2.2.2.2.1, p.2.2.2.2.2.2.2.2.1, p.2.2.2.2.2.2.2.2.2.1, p.2.2.2.2.2.2.2.2.2.2.1, p.2.2.2.2.2.2.2.2.2.2.2.1, p.2.2.2.2.2.2.2.2.2.2.2.2, rfl, h⟩
theorem bd13_e {A1 A2 A3 A4 A5 A6 A7 A8 A9 A10 A11 A12 A13 α : Type} {k : A1 → A2 → A3 → A4 → A5 → A6 → A7 → A8 → A9 → A10 → A11 → A12 → A13 → Option α} (a1 : A1) (a2 : A2) (a3 : A3) (a4 : A4) (a5 : A5) (a6 : A6) (a7 : A7) (a8 : A8) (a9 : A9) (a10 : A10) (a11 : A11) (a12 : A12) (a13 : A13) : bd13 (some (a1, a2, a3, a4, a5, a6, a7, a8, a9, a10, a11, a12, a13)) k = k a1 a2 a3 a4 a5 a6 a7 a8 a9 a10 a11 a12 a13 := rfl
def bd14 {A1 A2 A3 A4 A5 A6 A7 A8 A9 A10 A11 A12 A13 A14 α : Type} (x : Option (A1 × A2 × A3 × A4 × A5 × A6 × A7 × A8 × A9 × A10 × A11 × A12 × A13 × A14)) (k : A1 → A2 → A3 → A4 → A5 → A6 → A7 → A8 → A9 → A10 → A11 → A12 → A13 → A14 → Option α) : Option α := x.bind fun x => k x.1 x.2.1 x.2.2.1 x.2.2.2.1 x.2.2.2.2.1 x.2.2.2.2.2.1 x.2.2.2.2.2.2.1 x.2.2.2.2.2.2.2.1 x.2.2.2.2.2.2.2.2.1 x.2.2.2.2.2.2.2.2.2.1 x.2.2.2.2.2.2.2.2.2.2.1 x.2.2.2.2.2.2.2.2.2.2.2.1 x.2.2.2.2.2.2.2.2.2.2.2.2.1 x.2.2.2.2.2.2.2.2.2.2.2.2.2
theorem bd14_some {A1 A2 A3 A4 A5 A6 A7 A8 A9 A10 A11 A12 A13 A14 α : Type} {x : Option (A1 × A2 × A3 × A4 × A5 × A6 × A7 × A8 × A9 × A10 × A11 × A12 × A13 × A14)} {k : A1 → A2 → A3 → A4 → A5 → A6 → A7 → A8 → A9 → A10 → A11 → A12 → A13 → A14 → Option α} {o : α} (h : bd14 x k = some o) : ∃ (a1 : A1) (a2 : A2) (a3 : A3) (a4 : A4) (a5 : A5) (a6 : A6) (a7 : A7) (a8 : A8) (a9 : A9) (a10 : A10) (a11 : A11) (a12 : A12) (a13 : A13) (a14 : A14), x = some (a1, a2, a3, a4, a5, a6, a7, a8, a9, a10, a11, a12, a13, a14) ∧ k a1 a2 a3 a4 a5 a6 a7 a8 a9 a10 a11 a12 a13 a14 = some o := by
  unfold bd14 at h
  cases x with
  | none => cases h
  | some p => exact ⟨p.1, p.2.1, p.2.2.1, p.2.2.2.1, p.2.2.2.2.1, p.2.2.2.2.2.1, p.2.2.2.2.2.2.1, p.2.2.2.2.2.2.2.1, p.2.2.2.2.2.2.2.2.1, p.2.2.2.2.2.2.2.2.2.1, p.2.2.2.2.2.2.2.2.2.2.1, p.2.2.2.2.2.2.2.2.2.2.2.1, p.2.2.2.2.2.2.2.2.2.2.2.2.1, p.2.2.2.2.2.2.2.2.2.2.2.2.2, rfl, h⟩
theorem bd14_e {A1 A2 A3 A4 A5 A6 A7 A8 A9 A10 A11 A12 A13 A14 α : Type} {k : A1 → A2 → A3 → A4 → A5 → A6 → A7 → A8 → A9 → A10 → A11 → A12 → A13 → A14 → Option α} (a1 : A1) (a2 : A2) (a3 : A3) (a4 : A4) (a5 : A5) (a6 : A6) (a7 : A7) (a8 : A8) (a9 : A9) (a10 : A10) (a11 : A11) (a12 : A12) (a13 : A13) (a14 : A14) : bd14 (some (a1, a2, a3, a4, a5, a6, a7, a8, a9, a10, a11, a12, a13, a14)) k = k a1 a2 a3 a4 a5 a6 a7 a8 a9 a10 a11 a12 a13 a14 := rfl
def bd15 {A1 A2 A3 A4 A5 A6 A7 A8 A9 A10 A11 A12 A13 A14 A15 α : Type} (x : Option (A1 × A2 × A3 × A4 × A5 × A6 × A7 × A8 × A9 × A10 × A11 × A12 × A13 × A14 × A15)) (k : A1 → A2 → A3 → A4 → A5 → A6 → A7 → A8 → A9 → A10 → A11 → A12 → A13 → A14 → A15 → Option α) : Option α := x.bind fun x => k x.1 x.2.1 x.2.2.1 x.2.2.2.1 x.2.2.2.2.1 x.2.2.2.2.2.1 x.2.2.2.2.2.2.1 x.2.2.2.2.2.2.2.1 x.2.2.2.2.2.2.2.2.1 x.2.2.2.2.2.2.2.2.2.1 x.2.2.2.2.2.2.2.2.2.2.1 x.2.2.2.2.2.2.2.2.2.2.2.1 x.2.2.2.2.2.2.2.2.2.2.2.2.1 x.2.2.2.2.2.2.2.2.2.2.2.2.2.1 x.2.2.2.2.2.2.2.2.2.2.2.2.2.2
theorem bd15_some {A1 A2 A3 A4 A5 A6 A7 A8 A9 A10 A11 A12 A13 A14 A15 α : Type} {x : Option (A1 × A2 × A3 × A4 × A5 × A6 × A7 × A8 × A9 × A10 × A11 × A12 × A13 × A14 × A15)} {k : A1 → A2 → A3 → A4 → A5 → A6 → A7 → A8 → A9 → A10 → A11 → A12 → A13 → A14 → A15 → Option α} {o : α} (h : bd15 x k = some o) : ∃ (a1 : A1) (a2 : A2) (a3 : A3) (a4 : A4) (a5 : A5) (a6 : A6) (a7 : A7) (a8 : A8) (a9 : A9) (a10 : A10) (a11 : A11) (a12 : A12) (a13 : A13) (a14 : A14) (a15 : A15), x = some (a1, a2, a3, a4, a5, a6, a7, a8, a9, a10, a11, a12, a13, a14, a15) ∧ k a1 a2 a3 a4 a5 a6 a7 a8 a9 a10 a11 a12 a13 a14 a15 = some o := by
  unfold bd15 at h
  cases x with
  | none => cases h
  | some p => exact ⟨p.1, p.2.1, p.2.2.1, p.2.2.2.1, p.2.2.2.2.1, p.2.2.2.2.2.1, p.2.2.2.2.2.2.1, p.2.2.2.2.2.2.2.1, p.2.2.2.2.2.2.2.2.1, p.2.2.2.2.2.2.2.2.2.1, p.2.2.2.2.2.2.2.2.2.2.1, p.2.2.2.2.2.2.2.2.2.2.2.1, p.2.2.2.2.2.2.2.2.2.2.2.2.1, p.2.2.2.2.2.2.2.2.2.2.2.2.2.1, p.2.2.2.2.2.2.2.2.2.2.2.2.2.2, rfl, h⟩
theorem bd15_e {A1 A2 A3 A4 A5 A6 A7 A8 A9 A10 A11 A12 A13 A14 A15 α : Type} {k : A1 → A2 → A3 → A4 → A5 → A6 → A7 → A8 → A9 → A10 → A11 → A12 → A13 → A14 → A15 → Option α} (a1 : A1) (a2 : A2) (a3 : A3) (a4 : A4) (a5 : A5) (a6 : A6) (a7 : A7) (a8 : A8) (a9 : A9) (a10 : A10) (a11 : A11) (a12 : A12) (a13 : A13) (a14 : A14) (a15 : A15) : bd15 (some (a1, a2, a3, a4, a5, a6, a7, a8, a9, a10, a11, a12, a13, a14, a15)) k = k a1 a2 a3 a4 a5 a6 a7 a8 a9 a10 a11 a12 a13 a14 a15 := rfl
def bd16 {A1 A2 A3 A4 A5 A6 A7 A8 A9 A10 A11 A12 A13 A14 A15 A16 α : Type} (x : Option (A1 × A2 × A3 × A4 × A5 × A6 × A7 × A8 × A9 × A10 × A11 × A12 × A13 × A14 × A15 × A16)) (k : A1 → A2 → A3 → A4 → A5 → A6 → A7 → A8 → A9 → A10 → A11 → A12 → A13 → A14 → A15 → A16 → Option α) : Option α := x.bind fun x => k x.1 x.2.1 x.2.2.1 x.2.2.2.1 x.2.2.2.2.1 x.2.2.2.2.2.1 x.2.2.2.2.2.2.1 x.2.2.2.2.2.2.2.1 x.2.2.2.2.2.2.2.2.1 x.2.2.2.2.2.2.2.2.2.1 x.2.2.2.2.2.2.2.2.2.2.1 x.2.2.2.2.2.2.2.2.2.2.2.1 x.2.2.2.2.2.2.2.2.2.2.2.2.1 x.2.2.2.2.2.2.2.2.2.2.2.2.2.1 x.2.2.2.2.2.2.2.2.2.2.2.2.2.2.1 x.2.2.2.2.2.2.2.2.2.2.2.2.2.2.2
theorem bd16_some {A1 A2 A3 A4 A5 A6 A7 A8 A9 A10 A11 A12 A13 A14 A15 A16 α : Type} {x : Option (A1 × A2 × A3 × A4 × A5 × A6 × A7 × A8 × A9 × A10 × A11 × A12 × A13 × A14 × A15 × A16)} {k : A1 → A2 → A3 → A4 → A5 → A6 → A7 → A8 → A9 → A10 → A11 → A12 → A13 → A14 → A15 → A16 → Option α} {o : α} (h : bd16 x k = some o) : ∃ (a1 : A1) (a2 : A2) (a3 : A3) (a4 : A4) (a5 : A5) (a6 : A6) (a7 : A7) (a8 : A8) (a9 : A9) (a10 : A10) (a11 : A11) (a12 : A12) (a13 : A13) (a14 : A14) (a15 : A15) (a16 : A16), x = some (a1, a2, a3, a4, a5, a6, a7, a8, a9, a10, a11, a12, a13, a14, a15, a16) ∧ k a1 a2 a3 a4 a5 a6 a7 a8 a9 a10 a11 a12 a13 a14 a15 a16 = some o := by
  unfold bd16 at h
  cases x with
  | none => cases h
  | some p => exact ⟨p.1, p.2.1, p.2.2.1, p.2.2.2.1, p.2.2.2.2.1, p.2.2.2.2.2.1, p.2.2.2.2.2.2.1, p.2.2.2.2.2.2.2.1, p.2.2.2.2.2.2.2.2.1, p.2.2.2.2.2.2.2.2.2.1, p.2.2.2.2.2.2.2.2.2.2.1, p.2.2.2.2.2.2.2.2.2.2.2.1, p.2.2.2.2.2.2.2.2.2.2.2.2.1, p.2.2.2.2.2.2.2.2.2.2.2.2.2.1, p.2.2.2.2.2.2.2.2.2.2.2.2.2.2.1, p.2.2.2.2.2.2.2.2.2.2.2.2.2.2.2, rfl, h⟩
theorem bd16_e {A1 A2 A3 A4 A5 A6 A7 A8 A9 A10 A11 A12 A13 A14 A15 A16 α : Type} {k : A1 → A2 → A3 → A4 → A5 → A6 → A7 → A8 → A9 → A10 → A11 → A12 → A13 → A14 → A15 → A16 → Option α} (a1 : A1) (a2 : A2) (a3 : A3) (a4 : A4) (a5 : A5) (a6 : A6) (a7 : A7) (a8 : A8) (a9 : A9) (a10 : A10) (a11 : A11) (a12 : A12) (a13 : A13) (a14 : A14) (a15 : A15) (a16 : A16) : bd16 (some (a1, a2, a3, a4, a5, a6, a7, a8, a9, a10, a11, a12, a13, a14, a15, a16)) k = k a1 a2 a3 a4 a5 a6 a7 a8 a9 a10 a11 a12 a13 a14 a15 a16 := rfl
/-- the loops' measure -/
def fu : Nat := 1000
