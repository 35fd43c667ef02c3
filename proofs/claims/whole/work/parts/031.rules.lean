/-! THE JUDGEMENT gJ: the machine at pc with these locals, this stack and a world of cells comes to Q. X: what stays the same through a method. -/
abbrev gX : Type := (Program × Launch × Env × Room × State × MethodId) × (Array Value × List Frame × Method × Code) × (va_G × (Nat → ClassId) × (Nat → Prop) × (State → Prop) × Nat)
def gJ (X : gX) (V : gV) (cells slots pc : Nat) (lv : List (Nat × Value)) (st : List Value) (I : gI) (J : gL) : Prop := match X with
  | ((p, l, e, R, s, m), (args, below, meth, c), (D, cy, A, Q, nL)) => ∀ (H : Heap) (locs : List Loc) (ls : Array Slot), va_P D vwCl (gW cy V I J) H → va_D A (gW cy V I J) → va_S A s.heap H locs → lv_has ls nL lv → W p l e R s m args below meth c H locs cells slots Q (F0 m pc ls st)
def gC (X : gX) (cc : ByteArray) (own : String) (ret : Option FieldType) (nL0 : Nat) (R0 : Room) : Prop := match X with
  | ((p, l, e, R, s, m), (args, below, meth, c), (D, cy, A, Q, nL)) => p.tables.exec = Jvm.exec ∧ c.code = cc ∧ c.maxLocals = nL ∧ s.vm.findClass own = some m.cls ∧ (∀ w ∈ gWd, w.before args s = true) ∧ meth.sig.returnType = ret ∧ meth.locks = false ∧ gK D cy s ∧ (∀ q : Nat, s.heap.size ≤ q → A q) ∧ nL = nL0 ∧ R = R0
section GJ
variable {X : gX} {V : gV} {cells slots pc : Nat} {lv lv' : List (Nat × Value)} {st : List Value} {I : gI} {J : gL} {cc : ByteArray} {own : String} {ret : Option FieldType} {nL0 : Nat} {R0 : Room}
theorem j_iadd (C : gC X cc own ret nL0 R0) {x y : Int32} (hd : decode cc pc = .ok (.iadd, 1))  (k : gJ X V cells slots (pc + 1) lv (.int (x + y) :: st) I J) : gJ X V cells slots pc lv (.int y :: .int x :: st) I J := by
  obtain ⟨⟨p, l, e, R, s, m⟩, ⟨args, below, meth, c⟩, ⟨D, cy, A, Q, nL⟩⟩ := X
  obtain ⟨hx, hb, hml, hown, hts, hr, hlk, hK, hA, hnL, hR0⟩ := C
  intro H locs ls hP hD hS hl
  exact lv_iadd hx hb hd (k H locs ls hP hD hS hl)
theorem j_isub (C : gC X cc own ret nL0 R0) {x y : Int32} (hd : decode cc pc = .ok (.isub, 1))  (k : gJ X V cells slots (pc + 1) lv (.int (x - y) :: st) I J) : gJ X V cells slots pc lv (.int y :: .int x :: st) I J := by
  obtain ⟨⟨p, l, e, R, s, m⟩, ⟨args, below, meth, c⟩, ⟨D, cy, A, Q, nL⟩⟩ := X
  obtain ⟨hx, hb, hml, hown, hts, hr, hlk, hK, hA, hnL, hR0⟩ := C
  intro H locs ls hP hD hS hl
  exact lv_isub hx hb hd (k H locs ls hP hD hS hl)
theorem j_imul (C : gC X cc own ret nL0 R0) {x y : Int32} (hd : decode cc pc = .ok (.imul, 1))  (k : gJ X V cells slots (pc + 1) lv (.int (x * y) :: st) I J) : gJ X V cells slots pc lv (.int y :: .int x :: st) I J := by
  obtain ⟨⟨p, l, e, R, s, m⟩, ⟨args, below, meth, c⟩, ⟨D, cy, A, Q, nL⟩⟩ := X
  obtain ⟨hx, hb, hml, hown, hts, hr, hlk, hK, hA, hnL, hR0⟩ := C
  intro H locs ls hP hD hS hl
  exact lv_imul hx hb hd (k H locs ls hP hD hS hl)
theorem j_iand (C : gC X cc own ret nL0 R0) {x y : Int32} (hd : decode cc pc = .ok (.iand, 1))  (k : gJ X V cells slots (pc + 1) lv (.int (x &&& y) :: st) I J) : gJ X V cells slots pc lv (.int y :: .int x :: st) I J := by
  obtain ⟨⟨p, l, e, R, s, m⟩, ⟨args, below, meth, c⟩, ⟨D, cy, A, Q, nL⟩⟩ := X
  obtain ⟨hx, hb, hml, hown, hts, hr, hlk, hK, hA, hnL, hR0⟩ := C
  intro H locs ls hP hD hS hl
  exact lv_iand hx hb hd (k H locs ls hP hD hS hl)
theorem j_ior (C : gC X cc own ret nL0 R0) {x y : Int32} (hd : decode cc pc = .ok (.ior, 1))  (k : gJ X V cells slots (pc + 1) lv (.int (x ||| y) :: st) I J) : gJ X V cells slots pc lv (.int y :: .int x :: st) I J := by
  obtain ⟨⟨p, l, e, R, s, m⟩, ⟨args, below, meth, c⟩, ⟨D, cy, A, Q, nL⟩⟩ := X
  obtain ⟨hx, hb, hml, hown, hts, hr, hlk, hK, hA, hnL, hR0⟩ := C
  intro H locs ls hP hD hS hl
  exact lv_ior hx hb hd (k H locs ls hP hD hS hl)
theorem j_ixor (C : gC X cc own ret nL0 R0) {x y : Int32} (hd : decode cc pc = .ok (.ixor, 1))  (k : gJ X V cells slots (pc + 1) lv (.int (x ^^^ y) :: st) I J) : gJ X V cells slots pc lv (.int y :: .int x :: st) I J := by
  obtain ⟨⟨p, l, e, R, s, m⟩, ⟨args, below, meth, c⟩, ⟨D, cy, A, Q, nL⟩⟩ := X
  obtain ⟨hx, hb, hml, hown, hts, hr, hlk, hK, hA, hnL, hR0⟩ := C
  intro H locs ls hP hD hS hl
  exact lv_ixor hx hb hd (k H locs ls hP hD hS hl)
theorem j_ishl (C : gC X cc own ret nL0 R0) {x y : Int32} (hd : decode cc pc = .ok (.ishl, 1))  (k : gJ X V cells slots (pc + 1) lv (.int (x <<< (y &&& 31)) :: st) I J) : gJ X V cells slots pc lv (.int y :: .int x :: st) I J := by
  obtain ⟨⟨p, l, e, R, s, m⟩, ⟨args, below, meth, c⟩, ⟨D, cy, A, Q, nL⟩⟩ := X
  obtain ⟨hx, hb, hml, hown, hts, hr, hlk, hK, hA, hnL, hR0⟩ := C
  intro H locs ls hP hD hS hl
  exact lv_ishl hx hb hd (k H locs ls hP hD hS hl)
theorem j_ishr (C : gC X cc own ret nL0 R0) {x y : Int32} (hd : decode cc pc = .ok (.ishr, 1))  (k : gJ X V cells slots (pc + 1) lv (.int (x >>> (y &&& 31)) :: st) I J) : gJ X V cells slots pc lv (.int y :: .int x :: st) I J := by
  obtain ⟨⟨p, l, e, R, s, m⟩, ⟨args, below, meth, c⟩, ⟨D, cy, A, Q, nL⟩⟩ := X
  obtain ⟨hx, hb, hml, hown, hts, hr, hlk, hK, hA, hnL, hR0⟩ := C
  intro H locs ls hP hD hS hl
  exact lv_ishr hx hb hd (k H locs ls hP hD hS hl)
theorem j_iushr (C : gC X cc own ret nL0 R0) {x y : Int32} (hd : decode cc pc = .ok (.iushr, 1))  (k : gJ X V cells slots (pc + 1) lv (.int ((x.toUInt32 >>> (y.toUInt32 &&& Int32.toUInt32 31)).toInt32) :: st) I J) : gJ X V cells slots pc lv (.int y :: .int x :: st) I J := by
  obtain ⟨⟨p, l, e, R, s, m⟩, ⟨args, below, meth, c⟩, ⟨D, cy, A, Q, nL⟩⟩ := X
  obtain ⟨hx, hb, hml, hown, hts, hr, hlk, hK, hA, hnL, hR0⟩ := C
  intro H locs ls hP hD hS hl
  exact lv_iushr hx hb hd rfl (k H locs ls hP hD hS hl)
theorem j_idiv (C : gC X cc own ret nL0 R0) {x y : Int32} (hd : decode cc pc = .ok (.idiv, 1)) (hne : ¬ y = 0) (k : gJ X V cells slots (pc + 1) lv (.int (x / y) :: st) I J) : gJ X V cells slots pc lv (.int y :: .int x :: st) I J := by
  obtain ⟨⟨p, l, e, R, s, m⟩, ⟨args, below, meth, c⟩, ⟨D, cy, A, Q, nL⟩⟩ := X
  obtain ⟨hx, hb, hml, hown, hts, hr, hlk, hK, hA, hnL, hR0⟩ := C
  intro H locs ls hP hD hS hl
  exact lv_idiv hx hb hd hne (k H locs ls hP hD hS hl)
theorem j_irem (C : gC X cc own ret nL0 R0) {x y : Int32} (hd : decode cc pc = .ok (.irem, 1)) (hne : ¬ y = 0) (k : gJ X V cells slots (pc + 1) lv (.int (x - x / y * y) :: st) I J) : gJ X V cells slots pc lv (.int y :: .int x :: st) I J := by
  obtain ⟨⟨p, l, e, R, s, m⟩, ⟨args, below, meth, c⟩, ⟨D, cy, A, Q, nL⟩⟩ := X
  obtain ⟨hx, hb, hml, hown, hts, hr, hlk, hK, hA, hnL, hR0⟩ := C
  intro H locs ls hP hD hS hl
  exact lv_irem hx hb hd hne (k H locs ls hP hD hS hl)
theorem j_ineg (C : gC X cc own ret nL0 R0) {x : Int32} (hd : decode cc pc = .ok (.ineg, 1))  (k : gJ X V cells slots (pc + 1) lv (.int (-x) :: st) I J) : gJ X V cells slots pc lv (.int x :: st) I J := by
  obtain ⟨⟨p, l, e, R, s, m⟩, ⟨args, below, meth, c⟩, ⟨D, cy, A, Q, nL⟩⟩ := X
  obtain ⟨hx, hb, hml, hown, hts, hr, hlk, hK, hA, hnL, hR0⟩ := C
  intro H locs ls hP hD hS hl
  exact lv_ineg hx hb hd (k H locs ls hP hD hS hl)
theorem j_ladd (C : gC X cc own ret nL0 R0) {x y : Int64} (hd : decode cc pc = .ok (.ladd, 1))  (k : gJ X V cells slots (pc + 1) lv (.long (x + y) :: st) I J) : gJ X V cells slots pc lv (.long y :: .long x :: st) I J := by
  obtain ⟨⟨p, l, e, R, s, m⟩, ⟨args, below, meth, c⟩, ⟨D, cy, A, Q, nL⟩⟩ := X
  obtain ⟨hx, hb, hml, hown, hts, hr, hlk, hK, hA, hnL, hR0⟩ := C
  intro H locs ls hP hD hS hl
  exact lv_ladd hx hb hd (k H locs ls hP hD hS hl)
theorem j_lsub (C : gC X cc own ret nL0 R0) {x y : Int64} (hd : decode cc pc = .ok (.lsub, 1))  (k : gJ X V cells slots (pc + 1) lv (.long (x - y) :: st) I J) : gJ X V cells slots pc lv (.long y :: .long x :: st) I J := by
  obtain ⟨⟨p, l, e, R, s, m⟩, ⟨args, below, meth, c⟩, ⟨D, cy, A, Q, nL⟩⟩ := X
  obtain ⟨hx, hb, hml, hown, hts, hr, hlk, hK, hA, hnL, hR0⟩ := C
  intro H locs ls hP hD hS hl
  exact lv_lsub hx hb hd (k H locs ls hP hD hS hl)
theorem j_lmul (C : gC X cc own ret nL0 R0) {x y : Int64} (hd : decode cc pc = .ok (.lmul, 1))  (k : gJ X V cells slots (pc + 1) lv (.long (x * y) :: st) I J) : gJ X V cells slots pc lv (.long y :: .long x :: st) I J := by
  obtain ⟨⟨p, l, e, R, s, m⟩, ⟨args, below, meth, c⟩, ⟨D, cy, A, Q, nL⟩⟩ := X
  obtain ⟨hx, hb, hml, hown, hts, hr, hlk, hK, hA, hnL, hR0⟩ := C
  intro H locs ls hP hD hS hl
  exact lv_lmul hx hb hd (k H locs ls hP hD hS hl)
theorem j_land (C : gC X cc own ret nL0 R0) {x y : Int64} (hd : decode cc pc = .ok (.land, 1))  (k : gJ X V cells slots (pc + 1) lv (.long (x &&& y) :: st) I J) : gJ X V cells slots pc lv (.long y :: .long x :: st) I J := by
  obtain ⟨⟨p, l, e, R, s, m⟩, ⟨args, below, meth, c⟩, ⟨D, cy, A, Q, nL⟩⟩ := X
  obtain ⟨hx, hb, hml, hown, hts, hr, hlk, hK, hA, hnL, hR0⟩ := C
  intro H locs ls hP hD hS hl
  exact lv_land hx hb hd (k H locs ls hP hD hS hl)
theorem j_lor (C : gC X cc own ret nL0 R0) {x y : Int64} (hd : decode cc pc = .ok (.lor, 1))  (k : gJ X V cells slots (pc + 1) lv (.long (x ||| y) :: st) I J) : gJ X V cells slots pc lv (.long y :: .long x :: st) I J := by
  obtain ⟨⟨p, l, e, R, s, m⟩, ⟨args, below, meth, c⟩, ⟨D, cy, A, Q, nL⟩⟩ := X
  obtain ⟨hx, hb, hml, hown, hts, hr, hlk, hK, hA, hnL, hR0⟩ := C
  intro H locs ls hP hD hS hl
  exact lv_lor hx hb hd (k H locs ls hP hD hS hl)
theorem j_lshl (C : gC X cc own ret nL0 R0) {x : Int64} {y : Int32} (hd : decode cc pc = .ok (.lshl, 1))  (k : gJ X V cells slots (pc + 1) lv (.long (x <<< (y.toInt64 &&& 63)) :: st) I J) : gJ X V cells slots pc lv (.int y :: .long x :: st) I J := by
  obtain ⟨⟨p, l, e, R, s, m⟩, ⟨args, below, meth, c⟩, ⟨D, cy, A, Q, nL⟩⟩ := X
  obtain ⟨hx, hb, hml, hown, hts, hr, hlk, hK, hA, hnL, hR0⟩ := C
  intro H locs ls hP hD hS hl
  exact lv_lshl hx hb hd rfl (k H locs ls hP hD hS hl)
theorem j_lshr (C : gC X cc own ret nL0 R0) {x : Int64} {y : Int32} (hd : decode cc pc = .ok (.lshr, 1))  (k : gJ X V cells slots (pc + 1) lv (.long (x >>> (y.toInt64 &&& 63)) :: st) I J) : gJ X V cells slots pc lv (.int y :: .long x :: st) I J := by
  obtain ⟨⟨p, l, e, R, s, m⟩, ⟨args, below, meth, c⟩, ⟨D, cy, A, Q, nL⟩⟩ := X
  obtain ⟨hx, hb, hml, hown, hts, hr, hlk, hK, hA, hnL, hR0⟩ := C
  intro H locs ls hP hD hS hl
  exact lv_lshr hx hb hd rfl (k H locs ls hP hD hS hl)
theorem j_lushr (C : gC X cc own ret nL0 R0) {x : Int64} {y : Int32} (hd : decode cc pc = .ok (.lushr, 1))  (k : gJ X V cells slots (pc + 1) lv (.long ((x.toUInt64 >>> (y.toInt64.toUInt64 &&& Int64.toUInt64 63)).toInt64) :: st) I J) : gJ X V cells slots pc lv (.int y :: .long x :: st) I J := by
  obtain ⟨⟨p, l, e, R, s, m⟩, ⟨args, below, meth, c⟩, ⟨D, cy, A, Q, nL⟩⟩ := X
  obtain ⟨hx, hb, hml, hown, hts, hr, hlk, hK, hA, hnL, hR0⟩ := C
  intro H locs ls hP hD hS hl
  exact lv_lushr hx hb hd rfl (k H locs ls hP hD hS hl)
theorem j_i2l (C : gC X cc own ret nL0 R0) {x : Int32} (hd : decode cc pc = .ok (.i2l, 1))  (k : gJ X V cells slots (pc + 1) lv (.long x.toInt64 :: st) I J) : gJ X V cells slots pc lv (.int x :: st) I J := by
  obtain ⟨⟨p, l, e, R, s, m⟩, ⟨args, below, meth, c⟩, ⟨D, cy, A, Q, nL⟩⟩ := X
  obtain ⟨hx, hb, hml, hown, hts, hr, hlk, hK, hA, hnL, hR0⟩ := C
  intro H locs ls hP hD hS hl
  exact lv_i2l hx hb hd rfl (k H locs ls hP hD hS hl)
theorem j_l2i (C : gC X cc own ret nL0 R0) {x : Int64} (hd : decode cc pc = .ok (.l2i, 1))  (k : gJ X V cells slots (pc + 1) lv (.int x.toInt32 :: st) I J) : gJ X V cells slots pc lv (.long x :: st) I J := by
  obtain ⟨⟨p, l, e, R, s, m⟩, ⟨args, below, meth, c⟩, ⟨D, cy, A, Q, nL⟩⟩ := X
  obtain ⟨hx, hb, hml, hown, hts, hr, hlk, hK, hA, hnL, hR0⟩ := C
  intro H locs ls hP hD hS hl
  exact lv_l2i hx hb hd rfl (k H locs ls hP hD hS hl)
theorem j_i2b (C : gC X cc own ret nL0 R0) {x : Int32} (hd : decode cc pc = .ok (.i2b, 1))  (k : gJ X V cells slots (pc + 1) lv (.int x.toInt8.toInt32 :: st) I J) : gJ X V cells slots pc lv (.int x :: st) I J := by
  obtain ⟨⟨p, l, e, R, s, m⟩, ⟨args, below, meth, c⟩, ⟨D, cy, A, Q, nL⟩⟩ := X
  obtain ⟨hx, hb, hml, hown, hts, hr, hlk, hK, hA, hnL, hR0⟩ := C
  intro H locs ls hP hD hS hl
  exact lv_i2b hx hb hd rfl (k H locs ls hP hD hS hl)
theorem j_lcmp (C : gC X cc own ret nL0 R0) {x y : Int64} (hd : decode cc pc = .ok (.lcmp, 1))  (k : gJ X V cells slots (pc + 1) lv (.int (lg_cmp x y) :: st) I J) : gJ X V cells slots pc lv (.long y :: .long x :: st) I J := by
  obtain ⟨⟨p, l, e, R, s, m⟩, ⟨args, below, meth, c⟩, ⟨D, cy, A, Q, nL⟩⟩ := X
  obtain ⟨hx, hb, hml, hown, hts, hr, hlk, hK, hA, hnL, hR0⟩ := C
  intro H locs ls hP hD hS hl
  exact W.lcmp hx hb hd (k H locs ls hP hD hS hl)
theorem j_iconst (C : gC X cc own ret nL0 R0) {n : Int} {v : Int32} (hd : decode cc pc = .ok (.iconst n, 1)) (hv : Int32.ofInt n = v) (k : gJ X V cells slots (pc + 1) lv (.int v :: st) I J) : gJ X V cells slots pc lv (st) I J := by
  obtain ⟨⟨p, l, e, R, s, m⟩, ⟨args, below, meth, c⟩, ⟨D, cy, A, Q, nL⟩⟩ := X
  obtain ⟨hx, hb, hml, hown, hts, hr, hlk, hK, hA, hnL, hR0⟩ := C
  intro H locs ls hP hD hS hl
  exact lv_iconst hx hb hd hv (k H locs ls hP hD hS hl)
theorem j_bipush (C : gC X cc own ret nL0 R0) {n : Int} {v : Int32} (hd : decode cc pc = .ok (.bipush n, 2)) (hv : (Int8.ofInt n).toInt32 = v) (k : gJ X V cells slots (pc + 2) lv (.int v :: st) I J) : gJ X V cells slots pc lv (st) I J := by
  obtain ⟨⟨p, l, e, R, s, m⟩, ⟨args, below, meth, c⟩, ⟨D, cy, A, Q, nL⟩⟩ := X
  obtain ⟨hx, hb, hml, hown, hts, hr, hlk, hK, hA, hnL, hR0⟩ := C
  intro H locs ls hP hD hS hl
  exact lv_bipush hx hb hd hv (k H locs ls hP hD hS hl)
theorem j_sipush (C : gC X cc own ret nL0 R0) {n : Int} {v : Int32} (hd : decode cc pc = .ok (.sipush n, 3)) (hv : (Int16.ofInt n).toInt32 = v) (k : gJ X V cells slots (pc + 3) lv (.int v :: st) I J) : gJ X V cells slots pc lv (st) I J := by
  obtain ⟨⟨p, l, e, R, s, m⟩, ⟨args, below, meth, c⟩, ⟨D, cy, A, Q, nL⟩⟩ := X
  obtain ⟨hx, hb, hml, hown, hts, hr, hlk, hK, hA, hnL, hR0⟩ := C
  intro H locs ls hP hD hS hl
  exact lv_sipush hx hb hd hv (k H locs ls hP hD hS hl)
theorem j_lconst (C : gC X cc own ret nL0 R0) {n : Fin 2} {v : Int64} (hd : decode cc pc = .ok (.lconst n, 1)) (hv : Int64.ofNat (n : Nat) = v) (k : gJ X V cells slots (pc + 1) lv (.long v :: st) I J) : gJ X V cells slots pc lv (st) I J := by
  obtain ⟨⟨p, l, e, R, s, m⟩, ⟨args, below, meth, c⟩, ⟨D, cy, A, Q, nL⟩⟩ := X
  obtain ⟨hx, hb, hml, hown, hts, hr, hlk, hK, hA, hnL, hR0⟩ := C
  intro H locs ls hP hD hS hl
  exact lv_lconst hx hb hd hv (k H locs ls hP hD hS hl)
theorem j_ldc (C : gC X cc own ret nL0 R0) {index : Nat} {v : Int32} (hd : decode cc pc = .ok (.ldc index, 2)) (hw : Cond.constant own index v ∈ gWd) (k : gJ X V cells slots (pc + 2) lv (.int v :: st) I J) : gJ X V cells slots pc lv (st) I J := by
  obtain ⟨⟨p, l, e, R, s, m⟩, ⟨args, below, meth, c⟩, ⟨D, cy, A, Q, nL⟩⟩ := X
  obtain ⟨hx, hb, hml, hown, hts, hr, hlk, hK, hA, hnL, hR0⟩ := C
  intro H locs ls hP hD hS hl
  exact lv_ldc hx hb hown (hts _ hw) hd (k H locs ls hP hD hS hl)
theorem j_ldcw (C : gC X cc own ret nL0 R0) {index : Nat} {v : Int32} (hd : decode cc pc = .ok (.ldc_w index, 3)) (hw : Cond.constant own index v ∈ gWd) (k : gJ X V cells slots (pc + 3) lv (.int v :: st) I J) : gJ X V cells slots pc lv (st) I J := by
  obtain ⟨⟨p, l, e, R, s, m⟩, ⟨args, below, meth, c⟩, ⟨D, cy, A, Q, nL⟩⟩ := X
  obtain ⟨hx, hb, hml, hown, hts, hr, hlk, hK, hA, hnL, hR0⟩ := C
  intro H locs ls hP hD hS hl
  exact lv_ldcw hx hb hown (hts _ hw) hd (k H locs ls hP hD hS hl)
theorem j_ldc2 (C : gC X cc own ret nL0 R0) {index : Nat} {v : Int64} (hd : decode cc pc = .ok (.ldc2_w index, 3)) (hw : Cond.constantLong own index v ∈ gWd) (k : gJ X V cells slots (pc + 3) lv (.long v :: st) I J) : gJ X V cells slots pc lv (st) I J := by
  obtain ⟨⟨p, l, e, R, s, m⟩, ⟨args, below, meth, c⟩, ⟨D, cy, A, Q, nL⟩⟩ := X
  obtain ⟨hx, hb, hml, hown, hts, hr, hlk, hK, hA, hnL, hR0⟩ := C
  intro H locs ls hP hD hS hl
  exact lv_ldc2 hx hb hown (hts _ hw) hd (k H locs ls hP hD hS hl)
theorem j_dup (C : gC X cc own ret nL0 R0) {va : Value} (hd : decode cc pc = .ok (.dup, 1)) (hva : va.category = 1) (k : gJ X V cells slots (pc + 1) lv (va :: va :: st) I J) : gJ X V cells slots pc lv (va :: st) I J := by
  obtain ⟨⟨p, l, e, R, s, m⟩, ⟨args, below, meth, c⟩, ⟨D, cy, A, Q, nL⟩⟩ := X
  obtain ⟨hx, hb, hml, hown, hts, hr, hlk, hK, hA, hnL, hR0⟩ := C
  intro H locs ls hP hD hS hl
  exact lv_dup hx hb hd hva (k H locs ls hP hD hS hl)
theorem j_pop (C : gC X cc own ret nL0 R0) {va : Value} (hd : decode cc pc = .ok (.pop, 1)) (hva : va.category = 1) (k : gJ X V cells slots (pc + 1) lv (st) I J) : gJ X V cells slots pc lv (va :: st) I J := by
  obtain ⟨⟨p, l, e, R, s, m⟩, ⟨args, below, meth, c⟩, ⟨D, cy, A, Q, nL⟩⟩ := X
  obtain ⟨hx, hb, hml, hown, hts, hr, hlk, hK, hA, hnL, hR0⟩ := C
  intro H locs ls hP hD hS hl
  exact lv_pop hx hb hd hva (k H locs ls hP hD hS hl)
theorem j_dup_x1 (C : gC X cc own ret nL0 R0) {va vb : Value} (hd : decode cc pc = .ok (.dup_x1, 1)) (hva : va.category = 1) (hvb : vb.category = 1) (k : gJ X V cells slots (pc + 1) lv (va :: vb :: va :: st) I J) : gJ X V cells slots pc lv (va :: vb :: st) I J := by
  obtain ⟨⟨p, l, e, R, s, m⟩, ⟨args, below, meth, c⟩, ⟨D, cy, A, Q, nL⟩⟩ := X
  obtain ⟨hx, hb, hml, hown, hts, hr, hlk, hK, hA, hnL, hR0⟩ := C
  intro H locs ls hP hD hS hl
  exact lv_dup_x1 hx hb hd hva hvb (k H locs ls hP hD hS hl)
theorem j_dup2_11 (C : gC X cc own ret nL0 R0) {va vb : Value} (hd : decode cc pc = .ok (.dup2, 1)) (hva : va.category = 1) (hvb : vb.category = 1) (k : gJ X V cells slots (pc + 1) lv (va :: vb :: va :: vb :: st) I J) : gJ X V cells slots pc lv (va :: vb :: st) I J := by
  obtain ⟨⟨p, l, e, R, s, m⟩, ⟨args, below, meth, c⟩, ⟨D, cy, A, Q, nL⟩⟩ := X
  obtain ⟨hx, hb, hml, hown, hts, hr, hlk, hK, hA, hnL, hR0⟩ := C
  intro H locs ls hP hD hS hl
  exact lv_dup2_11 hx hb hd hva hvb (k H locs ls hP hD hS hl)
theorem j_null (C : gC X cc own ret nL0 R0)  (hd : decode cc pc = .ok (.aconst_null, 1))  (k : gJ X V cells slots (pc + 1) lv (.null :: st) I J) : gJ X V cells slots pc lv (st) I J := by
  obtain ⟨⟨p, l, e, R, s, m⟩, ⟨args, below, meth, c⟩, ⟨D, cy, A, Q, nL⟩⟩ := X
  obtain ⟨hx, hb, hml, hown, hts, hr, hlk, hK, hA, hnL, hR0⟩ := C
  intro H locs ls hP hD hS hl
  exact lv_null hx hb hd (k H locs ls hP hD hS hl)
theorem j_iload (C : gC X cc own ret nL0 R0) {i : Nat} {x : Int32} (hd : decode cc pc = .ok (.iload i, 2)) (k0 : Nat) (hk : lv[k0]? = some (i, .int x)) (k : gJ X V cells slots (pc + 2) lv (.int x :: st) I J) : gJ X V cells slots pc lv (st) I J := by
  obtain ⟨⟨p, l, e, R, s, m⟩, ⟨args, below, meth, c⟩, ⟨D, cy, A, Q, nL⟩⟩ := X
  obtain ⟨hx, hb, hml, hown, hts, hr, hlk, hK, hA, hnL, hR0⟩ := C
  intro H locs ls hP hD hS hl
  exact lv_iload hx hb hd (lv_at hl k0 hk) (k H locs ls hP hD hS hl)
theorem j_iload_n (C : gC X cc own ret nL0 R0) {kk : Fin 4} {i : Nat} {x : Int32} (hd : decode cc pc = .ok (.iload_n kk, 1)) (hi : (kk : Nat) = i) (k0 : Nat) (hk : lv[k0]? = some (i, .int x)) (k : gJ X V cells slots (pc + 1) lv (.int x :: st) I J) : gJ X V cells slots pc lv (st) I J := by
  obtain ⟨⟨p, l, e, R, s, m⟩, ⟨args, below, meth, c⟩, ⟨D, cy, A, Q, nL⟩⟩ := X
  obtain ⟨hx, hb, hml, hown, hts, hr, hlk, hK, hA, hnL, hR0⟩ := C
  intro H locs ls hP hD hS hl
  exact lv_iload_n hx hb hd hi (lv_at hl k0 hk) (k H locs ls hP hD hS hl)
theorem j_lload (C : gC X cc own ret nL0 R0) {i : Nat} {x : Int64} (hd : decode cc pc = .ok (.lload i, 2)) (k0 : Nat) (hk : lv[k0]? = some (i, .long x)) (k : gJ X V cells slots (pc + 2) lv (.long x :: st) I J) : gJ X V cells slots pc lv (st) I J := by
  obtain ⟨⟨p, l, e, R, s, m⟩, ⟨args, below, meth, c⟩, ⟨D, cy, A, Q, nL⟩⟩ := X
  obtain ⟨hx, hb, hml, hown, hts, hr, hlk, hK, hA, hnL, hR0⟩ := C
  intro H locs ls hP hD hS hl
  exact lv_lload hx hb hd (lv_at hl k0 hk) (k H locs ls hP hD hS hl)
theorem j_lload_n (C : gC X cc own ret nL0 R0) {kk : Fin 4} {i : Nat} {x : Int64} (hd : decode cc pc = .ok (.lload_n kk, 1)) (hi : (kk : Nat) = i) (k0 : Nat) (hk : lv[k0]? = some (i, .long x)) (k : gJ X V cells slots (pc + 1) lv (.long x :: st) I J) : gJ X V cells slots pc lv (st) I J := by
  obtain ⟨⟨p, l, e, R, s, m⟩, ⟨args, below, meth, c⟩, ⟨D, cy, A, Q, nL⟩⟩ := X
  obtain ⟨hx, hb, hml, hown, hts, hr, hlk, hK, hA, hnL, hR0⟩ := C
  intro H locs ls hP hD hS hl
  exact lv_lload_n hx hb hd hi (lv_at hl k0 hk) (k H locs ls hP hD hS hl)
theorem j_aload (C : gC X cc own ret nL0 R0) {i : Nat} {x : Nat} (hd : decode cc pc = .ok (.aload i, 2)) (k0 : Nat) (hk : lv[k0]? = some (i, .ref x)) (k : gJ X V cells slots (pc + 2) lv (.ref x :: st) I J) : gJ X V cells slots pc lv (st) I J := by
  obtain ⟨⟨p, l, e, R, s, m⟩, ⟨args, below, meth, c⟩, ⟨D, cy, A, Q, nL⟩⟩ := X
  obtain ⟨hx, hb, hml, hown, hts, hr, hlk, hK, hA, hnL, hR0⟩ := C
  intro H locs ls hP hD hS hl
  exact lv_aload hx hb hd (lv_at hl k0 hk) (k H locs ls hP hD hS hl)
theorem j_aload_n (C : gC X cc own ret nL0 R0) {kk : Fin 4} {i : Nat} {x : Nat} (hd : decode cc pc = .ok (.aload_n kk, 1)) (hi : (kk : Nat) = i) (k0 : Nat) (hk : lv[k0]? = some (i, .ref x)) (k : gJ X V cells slots (pc + 1) lv (.ref x :: st) I J) : gJ X V cells slots pc lv (st) I J := by
  obtain ⟨⟨p, l, e, R, s, m⟩, ⟨args, below, meth, c⟩, ⟨D, cy, A, Q, nL⟩⟩ := X
  obtain ⟨hx, hb, hml, hown, hts, hr, hlk, hK, hA, hnL, hR0⟩ := C
  intro H locs ls hP hD hS hl
  exact lv_aload_n hx hb hd hi (lv_at hl k0 hk) (k H locs ls hP hD hS hl)
theorem j_istore (C : gC X cc own ret nL0 R0) {i : Nat} {x : Int32} (hd : decode cc pc = .ok (.istore i, 2)) (hn : i < nL0) (hl' : (i, Value.int x) :: lv.filter (fun q => !(q.1 == i) && !(q.1 + 1 == i && q.2.category == 2)) = lv') (k : gJ X V cells slots (pc + 2) lv' st I J) : gJ X V cells slots pc lv (.int x :: st) I J := by
  obtain ⟨⟨p, l, e, R, s, m⟩, ⟨args, below, meth, c⟩, ⟨D, cy, A, Q, nL⟩⟩ := X
  obtain ⟨hx, hb, hml, hown, hts, hr, hlk, hK, hA, hnL, hR0⟩ := C
  intro H locs ls hP hD hS hl
  subst hnL
  exact lv_istore hx hb hd hl hn hl' (fun ls' hl2 => k H locs ls' hP hD hS hl2)
theorem j_istore_n (C : gC X cc own ret nL0 R0) {kk : Fin 4} {i : Nat} {x : Int32} (hd : decode cc pc = .ok (.istore_n kk, 1)) (hi : (kk : Nat) = i) (hn : i < nL0) (hl' : (i, Value.int x) :: lv.filter (fun q => !(q.1 == i) && !(q.1 + 1 == i && q.2.category == 2)) = lv') (k : gJ X V cells slots (pc + 1) lv' st I J) : gJ X V cells slots pc lv (.int x :: st) I J := by
  obtain ⟨⟨p, l, e, R, s, m⟩, ⟨args, below, meth, c⟩, ⟨D, cy, A, Q, nL⟩⟩ := X
  obtain ⟨hx, hb, hml, hown, hts, hr, hlk, hK, hA, hnL, hR0⟩ := C
  intro H locs ls hP hD hS hl
  subst hnL
  exact lv_istore_n hx hb hd hi hl hn hl' (fun ls' hl2 => k H locs ls' hP hD hS hl2)
theorem j_lstore (C : gC X cc own ret nL0 R0) {i : Nat} {x : Int64} (hd : decode cc pc = .ok (.lstore i, 2)) (hn : i + 1 < nL0) (hl' : (i, Value.long x) :: lv.filter (fun q => !(q.1 == i) && (!(q.1 == i + 1) && !(q.1 + 1 == i && q.2.category == 2))) = lv') (k : gJ X V cells slots (pc + 2) lv' st I J) : gJ X V cells slots pc lv (.long x :: st) I J := by
  obtain ⟨⟨p, l, e, R, s, m⟩, ⟨args, below, meth, c⟩, ⟨D, cy, A, Q, nL⟩⟩ := X
  obtain ⟨hx, hb, hml, hown, hts, hr, hlk, hK, hA, hnL, hR0⟩ := C
  intro H locs ls hP hD hS hl
  subst hnL
  exact lv_lstore hx hb hd hl hn hl' (fun ls' hl2 => k H locs ls' hP hD hS hl2)
theorem j_lstore_n (C : gC X cc own ret nL0 R0) {kk : Fin 4} {i : Nat} {x : Int64} (hd : decode cc pc = .ok (.lstore_n kk, 1)) (hi : (kk : Nat) = i) (hn : i + 1 < nL0) (hl' : (i, Value.long x) :: lv.filter (fun q => !(q.1 == i) && (!(q.1 == i + 1) && !(q.1 + 1 == i && q.2.category == 2))) = lv') (k : gJ X V cells slots (pc + 1) lv' st I J) : gJ X V cells slots pc lv (.long x :: st) I J := by
  obtain ⟨⟨p, l, e, R, s, m⟩, ⟨args, below, meth, c⟩, ⟨D, cy, A, Q, nL⟩⟩ := X
  obtain ⟨hx, hb, hml, hown, hts, hr, hlk, hK, hA, hnL, hR0⟩ := C
  intro H locs ls hP hD hS hl
  subst hnL
  exact lv_lstore_n hx hb hd hi hl hn hl' (fun ls' hl2 => k H locs ls' hP hD hS hl2)
theorem j_astore (C : gC X cc own ret nL0 R0) {i : Nat} {x : Nat} (hd : decode cc pc = .ok (.astore i, 2)) (hn : i < nL0) (hl' : (i, Value.ref x) :: lv.filter (fun q => !(q.1 == i) && !(q.1 + 1 == i && q.2.category == 2)) = lv') (k : gJ X V cells slots (pc + 2) lv' st I J) : gJ X V cells slots pc lv (.ref x :: st) I J := by
  obtain ⟨⟨p, l, e, R, s, m⟩, ⟨args, below, meth, c⟩, ⟨D, cy, A, Q, nL⟩⟩ := X
  obtain ⟨hx, hb, hml, hown, hts, hr, hlk, hK, hA, hnL, hR0⟩ := C
  intro H locs ls hP hD hS hl
  subst hnL
  exact lv_astore hx hb hd hl hn hl' (fun ls' hl2 => k H locs ls' hP hD hS hl2)
theorem j_astore_n (C : gC X cc own ret nL0 R0) {kk : Fin 4} {i : Nat} {x : Nat} (hd : decode cc pc = .ok (.astore_n kk, 1)) (hi : (kk : Nat) = i) (hn : i < nL0) (hl' : (i, Value.ref x) :: lv.filter (fun q => !(q.1 == i) && !(q.1 + 1 == i && q.2.category == 2)) = lv') (k : gJ X V cells slots (pc + 1) lv' st I J) : gJ X V cells slots pc lv (.ref x :: st) I J := by
  obtain ⟨⟨p, l, e, R, s, m⟩, ⟨args, below, meth, c⟩, ⟨D, cy, A, Q, nL⟩⟩ := X
  obtain ⟨hx, hb, hml, hown, hts, hr, hlk, hK, hA, hnL, hR0⟩ := C
  intro H locs ls hP hD hS hl
  subst hnL
  exact lv_astore_n hx hb hd hi hl hn hl' (fun ls' hl2 => k H locs ls' hP hD hS hl2)
theorem j_iinc (C : gC X cc own ret nL0 R0) {i : Nat} {n : Int} {x v : Int32} (hd : decode cc pc = .ok (.iinc i n, 3)) (k0 : Nat) (hk : lv[k0]? = some (i, .int x)) (hv : x + Int32.ofInt n = v) (hn : i < nL0) (hl' : (i, Value.int v) :: lv.filter (fun q => !(q.1 == i) && !(q.1 + 1 == i && q.2.category == 2)) = lv') (k : gJ X V cells slots (pc + 3) lv' st I J) : gJ X V cells slots pc lv st I J := by
  obtain ⟨⟨p, l, e, R, s, m⟩, ⟨args, below, meth, c⟩, ⟨D, cy, A, Q, nL⟩⟩ := X
  obtain ⟨hx, hb, hml, hown, hts, hr, hlk, hK, hA, hnL, hR0⟩ := C
  intro H locs ls hP hD hS hl
  subst hnL
  exact lv_iinc hx hb hd hl hk hv hn hl' (fun ls' hl2 => k H locs ls' hP hD hS hl2)
theorem j_icmp_eq (C : gC X cc own ret nL0 R0) {x y : Int32} {off : Int} {tgt : Nat} (hd : decode cc pc = .ok (.if_icmp .eq off, 3)) (ht : (pc : Int) + off = (tgt : Int)) (kt : x = y → gJ X V cells slots tgt lv st I J) (kf : ¬ x = y → gJ X V cells slots (pc + 3) lv st I J) : gJ X V cells slots pc lv (.int y :: .int x :: st) I J := by
  obtain ⟨⟨p, l, e, R, s, m⟩, ⟨args, below, meth, c⟩, ⟨D, cy, A, Q, nL⟩⟩ := X
  obtain ⟨hx, hb, hml, hown, hts, hr, hlk, hK, hA, hnL, hR0⟩ := C
  intro H locs ls hP hD hS hl
  exact lv_icmp_eq hx hb hd ht (fun h => kt h H locs ls hP hD hS hl) (fun h => kf h H locs ls hP hD hS hl)
theorem j_if_eq (C : gC X cc own ret nL0 R0) {x : Int32} {off : Int} {tgt : Nat} (hd : decode cc pc = .ok (.ifCond .eq off, 3)) (ht : (pc : Int) + off = (tgt : Int)) (kt : x = 0 → gJ X V cells slots tgt lv st I J) (kf : ¬ x = 0 → gJ X V cells slots (pc + 3) lv st I J) : gJ X V cells slots pc lv (.int x :: st) I J := by
  obtain ⟨⟨p, l, e, R, s, m⟩, ⟨args, below, meth, c⟩, ⟨D, cy, A, Q, nL⟩⟩ := X
  obtain ⟨hx, hb, hml, hown, hts, hr, hlk, hK, hA, hnL, hR0⟩ := C
  intro H locs ls hP hD hS hl
  exact lv_if_eq hx hb hd ht (fun h => kt h H locs ls hP hD hS hl) (fun h => kf h H locs ls hP hD hS hl)
theorem j_icmp_ne (C : gC X cc own ret nL0 R0) {x y : Int32} {off : Int} {tgt : Nat} (hd : decode cc pc = .ok (.if_icmp .ne off, 3)) (ht : (pc : Int) + off = (tgt : Int)) (kt : ¬ x = y → gJ X V cells slots tgt lv st I J) (kf : x = y → gJ X V cells slots (pc + 3) lv st I J) : gJ X V cells slots pc lv (.int y :: .int x :: st) I J := by
  obtain ⟨⟨p, l, e, R, s, m⟩, ⟨args, below, meth, c⟩, ⟨D, cy, A, Q, nL⟩⟩ := X
  obtain ⟨hx, hb, hml, hown, hts, hr, hlk, hK, hA, hnL, hR0⟩ := C
  intro H locs ls hP hD hS hl
  exact lv_icmp_ne hx hb hd ht (fun h => kt h H locs ls hP hD hS hl) (fun h => kf h H locs ls hP hD hS hl)
theorem j_if_ne (C : gC X cc own ret nL0 R0) {x : Int32} {off : Int} {tgt : Nat} (hd : decode cc pc = .ok (.ifCond .ne off, 3)) (ht : (pc : Int) + off = (tgt : Int)) (kt : ¬ x = 0 → gJ X V cells slots tgt lv st I J) (kf : x = 0 → gJ X V cells slots (pc + 3) lv st I J) : gJ X V cells slots pc lv (.int x :: st) I J := by
  obtain ⟨⟨p, l, e, R, s, m⟩, ⟨args, below, meth, c⟩, ⟨D, cy, A, Q, nL⟩⟩ := X
  obtain ⟨hx, hb, hml, hown, hts, hr, hlk, hK, hA, hnL, hR0⟩ := C
  intro H locs ls hP hD hS hl
  exact lv_if_ne hx hb hd ht (fun h => kt h H locs ls hP hD hS hl) (fun h => kf h H locs ls hP hD hS hl)
theorem j_icmp_lt (C : gC X cc own ret nL0 R0) {x y : Int32} {off : Int} {tgt : Nat} (hd : decode cc pc = .ok (.if_icmp .lt off, 3)) (ht : (pc : Int) + off = (tgt : Int)) (kt : x < y → gJ X V cells slots tgt lv st I J) (kf : ¬ x < y → gJ X V cells slots (pc + 3) lv st I J) : gJ X V cells slots pc lv (.int y :: .int x :: st) I J := by
  obtain ⟨⟨p, l, e, R, s, m⟩, ⟨args, below, meth, c⟩, ⟨D, cy, A, Q, nL⟩⟩ := X
  obtain ⟨hx, hb, hml, hown, hts, hr, hlk, hK, hA, hnL, hR0⟩ := C
  intro H locs ls hP hD hS hl
  exact lv_icmp_lt hx hb hd ht (fun h => kt h H locs ls hP hD hS hl) (fun h => kf h H locs ls hP hD hS hl)
theorem j_if_lt (C : gC X cc own ret nL0 R0) {x : Int32} {off : Int} {tgt : Nat} (hd : decode cc pc = .ok (.ifCond .lt off, 3)) (ht : (pc : Int) + off = (tgt : Int)) (kt : x < 0 → gJ X V cells slots tgt lv st I J) (kf : ¬ x < 0 → gJ X V cells slots (pc + 3) lv st I J) : gJ X V cells slots pc lv (.int x :: st) I J := by
  obtain ⟨⟨p, l, e, R, s, m⟩, ⟨args, below, meth, c⟩, ⟨D, cy, A, Q, nL⟩⟩ := X
  obtain ⟨hx, hb, hml, hown, hts, hr, hlk, hK, hA, hnL, hR0⟩ := C
  intro H locs ls hP hD hS hl
  exact lv_if_lt hx hb hd ht (fun h => kt h H locs ls hP hD hS hl) (fun h => kf h H locs ls hP hD hS hl)
theorem j_icmp_ge (C : gC X cc own ret nL0 R0) {x y : Int32} {off : Int} {tgt : Nat} (hd : decode cc pc = .ok (.if_icmp .ge off, 3)) (ht : (pc : Int) + off = (tgt : Int)) (kt : y ≤ x → gJ X V cells slots tgt lv st I J) (kf : ¬ y ≤ x → gJ X V cells slots (pc + 3) lv st I J) : gJ X V cells slots pc lv (.int y :: .int x :: st) I J := by
  obtain ⟨⟨p, l, e, R, s, m⟩, ⟨args, below, meth, c⟩, ⟨D, cy, A, Q, nL⟩⟩ := X
  obtain ⟨hx, hb, hml, hown, hts, hr, hlk, hK, hA, hnL, hR0⟩ := C
  intro H locs ls hP hD hS hl
  exact lv_icmp_ge hx hb hd ht (fun h => kt h H locs ls hP hD hS hl) (fun h => kf h H locs ls hP hD hS hl)
theorem j_if_ge (C : gC X cc own ret nL0 R0) {x : Int32} {off : Int} {tgt : Nat} (hd : decode cc pc = .ok (.ifCond .ge off, 3)) (ht : (pc : Int) + off = (tgt : Int)) (kt : 0 ≤ x → gJ X V cells slots tgt lv st I J) (kf : ¬ 0 ≤ x → gJ X V cells slots (pc + 3) lv st I J) : gJ X V cells slots pc lv (.int x :: st) I J := by
  obtain ⟨⟨p, l, e, R, s, m⟩, ⟨args, below, meth, c⟩, ⟨D, cy, A, Q, nL⟩⟩ := X
  obtain ⟨hx, hb, hml, hown, hts, hr, hlk, hK, hA, hnL, hR0⟩ := C
  intro H locs ls hP hD hS hl
  exact lv_if_ge hx hb hd ht (fun h => kt h H locs ls hP hD hS hl) (fun h => kf h H locs ls hP hD hS hl)
theorem j_icmp_gt (C : gC X cc own ret nL0 R0) {x y : Int32} {off : Int} {tgt : Nat} (hd : decode cc pc = .ok (.if_icmp .gt off, 3)) (ht : (pc : Int) + off = (tgt : Int)) (kt : y < x → gJ X V cells slots tgt lv st I J) (kf : ¬ y < x → gJ X V cells slots (pc + 3) lv st I J) : gJ X V cells slots pc lv (.int y :: .int x :: st) I J := by
  obtain ⟨⟨p, l, e, R, s, m⟩, ⟨args, below, meth, c⟩, ⟨D, cy, A, Q, nL⟩⟩ := X
  obtain ⟨hx, hb, hml, hown, hts, hr, hlk, hK, hA, hnL, hR0⟩ := C
  intro H locs ls hP hD hS hl
  exact lv_icmp_gt hx hb hd ht (fun h => kt h H locs ls hP hD hS hl) (fun h => kf h H locs ls hP hD hS hl)
theorem j_if_gt (C : gC X cc own ret nL0 R0) {x : Int32} {off : Int} {tgt : Nat} (hd : decode cc pc = .ok (.ifCond .gt off, 3)) (ht : (pc : Int) + off = (tgt : Int)) (kt : 0 < x → gJ X V cells slots tgt lv st I J) (kf : ¬ 0 < x → gJ X V cells slots (pc + 3) lv st I J) : gJ X V cells slots pc lv (.int x :: st) I J := by
  obtain ⟨⟨p, l, e, R, s, m⟩, ⟨args, below, meth, c⟩, ⟨D, cy, A, Q, nL⟩⟩ := X
  obtain ⟨hx, hb, hml, hown, hts, hr, hlk, hK, hA, hnL, hR0⟩ := C
  intro H locs ls hP hD hS hl
  exact lv_if_gt hx hb hd ht (fun h => kt h H locs ls hP hD hS hl) (fun h => kf h H locs ls hP hD hS hl)
theorem j_icmp_le (C : gC X cc own ret nL0 R0) {x y : Int32} {off : Int} {tgt : Nat} (hd : decode cc pc = .ok (.if_icmp .le off, 3)) (ht : (pc : Int) + off = (tgt : Int)) (kt : x ≤ y → gJ X V cells slots tgt lv st I J) (kf : ¬ x ≤ y → gJ X V cells slots (pc + 3) lv st I J) : gJ X V cells slots pc lv (.int y :: .int x :: st) I J := by
  obtain ⟨⟨p, l, e, R, s, m⟩, ⟨args, below, meth, c⟩, ⟨D, cy, A, Q, nL⟩⟩ := X
  obtain ⟨hx, hb, hml, hown, hts, hr, hlk, hK, hA, hnL, hR0⟩ := C
  intro H locs ls hP hD hS hl
  exact lv_icmp_le hx hb hd ht (fun h => kt h H locs ls hP hD hS hl) (fun h => kf h H locs ls hP hD hS hl)
theorem j_if_le (C : gC X cc own ret nL0 R0) {x : Int32} {off : Int} {tgt : Nat} (hd : decode cc pc = .ok (.ifCond .le off, 3)) (ht : (pc : Int) + off = (tgt : Int)) (kt : x ≤ 0 → gJ X V cells slots tgt lv st I J) (kf : ¬ x ≤ 0 → gJ X V cells slots (pc + 3) lv st I J) : gJ X V cells slots pc lv (.int x :: st) I J := by
  obtain ⟨⟨p, l, e, R, s, m⟩, ⟨args, below, meth, c⟩, ⟨D, cy, A, Q, nL⟩⟩ := X
  obtain ⟨hx, hb, hml, hown, hts, hr, hlk, hK, hA, hnL, hR0⟩ := C
  intro H locs ls hP hD hS hl
  exact lv_if_le hx hb hd ht (fun h => kt h H locs ls hP hD hS hl) (fun h => kf h H locs ls hP hD hS hl)
theorem j_goto (C : gC X cc own ret nL0 R0) {off : Int} {tgt : Nat} (hd : decode cc pc = .ok (.goto off, 3)) (ht : (pc : Int) + off = (tgt : Int)) (k : gJ X V cells slots tgt lv st I J) : gJ X V cells slots pc lv st I J := by
  obtain ⟨⟨p, l, e, R, s, m⟩, ⟨args, below, meth, c⟩, ⟨D, cy, A, Q, nL⟩⟩ := X
  obtain ⟨hx, hb, hml, hown, hts, hr, hlk, hK, hA, hnL, hR0⟩ := C
  intro H locs ls hP hD hS hl
  exact lv_goto hx hb hd ht (k H locs ls hP hD hS hl)
theorem j_ifnonnull (C : gC X cc own ret nL0 R0) {a : Nat} {off : Int} {tgt : Nat} (hd : decode cc pc = .ok (.ifnonnull off, 3)) (ht : (pc : Int) + off = (tgt : Int)) (k : gJ X V cells slots tgt lv st I J) : gJ X V cells slots pc lv (.ref a :: st) I J := by
  obtain ⟨⟨p, l, e, R, s, m⟩, ⟨args, below, meth, c⟩, ⟨D, cy, A, Q, nL⟩⟩ := X
  obtain ⟨hx, hb, hml, hown, hts, hr, hlk, hK, hA, hnL, hR0⟩ := C
  intro H locs ls hP hD hS hl
  exact lv_ifnonnull hx hb hd ht (k H locs ls hP hD hS hl)
theorem j_ifnonnullN (C : gC X cc own ret nL0 R0) {off : Int} (hd : decode cc pc = .ok (.ifnonnull off, 3)) (k : gJ X V cells slots (pc + 3) lv st I J) : gJ X V cells slots pc lv (.null :: st) I J := by
  obtain ⟨⟨p, l, e, R, s, m⟩, ⟨args, below, meth, c⟩, ⟨D, cy, A, Q, nL⟩⟩ := X
  obtain ⟨hx, hb, hml, hown, hts, hr, hlk, hK, hA, hnL, hR0⟩ := C
  intro H locs ls hP hD hS hl
  exact lv_ifnonnullN hx hb hd (k H locs ls hP hD hS hl)
theorem j_ifnull (C : gC X cc own ret nL0 R0) {a : Nat} {off : Int} (hd : decode cc pc = .ok (.ifnull off, 3)) (k : gJ X V cells slots (pc + 3) lv st I J) : gJ X V cells slots pc lv (.ref a :: st) I J := by
  obtain ⟨⟨p, l, e, R, s, m⟩, ⟨args, below, meth, c⟩, ⟨D, cy, A, Q, nL⟩⟩ := X
  obtain ⟨hx, hb, hml, hown, hts, hr, hlk, hK, hA, hnL, hR0⟩ := C
  intro H locs ls hP hD hS hl
  exact lv_ifnull hx hb hd (k H locs ls hP hD hS hl)
theorem j_ifnullN (C : gC X cc own ret nL0 R0) {off : Int} {tgt : Nat} (hd : decode cc pc = .ok (.ifnull off, 3)) (ht : (pc : Int) + off = (tgt : Int)) (k : gJ X V cells slots tgt lv st I J) : gJ X V cells slots pc lv (.null :: st) I J := by
  obtain ⟨⟨p, l, e, R, s, m⟩, ⟨args, below, meth, c⟩, ⟨D, cy, A, Q, nL⟩⟩ := X
  obtain ⟨hx, hb, hml, hown, hts, hr, hlk, hK, hA, hnL, hR0⟩ := C
  intro H locs ls hP hD hS hl
  exact lv_ifnullN hx hb hd ht (k H locs ls hP hD hS hl)
theorem j_tableIn (C : gC X cc own ret nL0 R0) {dflt lo hi : Int} {offs : Array Int} {len : Nat} {x : Int32} {off : Int} {tgt : Nat} (hd : decode cc pc = .ok (.tableswitch dflt lo hi offs, len)) (h1 : ¬ x.toInt < lo) (h2 : ¬ hi < x.toInt) (ho : offs[(x.toInt - lo).toNat]? = some off) (ht : (pc : Int) + off = (tgt : Int)) (k : gJ X V cells slots tgt lv st I J) : gJ X V cells slots pc lv (.int x :: st) I J := by
  obtain ⟨⟨p, l, e, R, s, m⟩, ⟨args, below, meth, c⟩, ⟨D, cy, A, Q, nL⟩⟩ := X
  obtain ⟨hx, hb, hml, hown, hts, hr, hlk, hK, hA, hnL, hR0⟩ := C
  intro H locs ls hP hD hS hl
  exact lv_tableIn hx hb hd h1 h2 ho ht (k H locs ls hP hD hS hl)
theorem j_tableOut (C : gC X cc own ret nL0 R0) {dflt lo hi : Int} {offs : Array Int} {len : Nat} {x : Int32} {tgt : Nat} (hd : decode cc pc = .ok (.tableswitch dflt lo hi offs, len)) (h : x.toInt < lo ∨ hi < x.toInt) (ht : (pc : Int) + dflt = (tgt : Int)) (k : gJ X V cells slots tgt lv st I J) : gJ X V cells slots pc lv (.int x :: st) I J := by
  obtain ⟨⟨p, l, e, R, s, m⟩, ⟨args, below, meth, c⟩, ⟨D, cy, A, Q, nL⟩⟩ := X
  obtain ⟨hx, hb, hml, hown, hts, hr, hlk, hK, hA, hnL, hR0⟩ := C
  intro H locs ls hP hD hS hl
  exact lv_tableOut hx hb hd h ht (k H locs ls hP hD hS hl)
theorem j_lookup (C : gC X cc own ret nL0 R0) {dflt : Int} {ps : Array (Int × Int)} {len : Nat} {x : Int32} {off : Int} {tgt : Nat} (hd : decode cc pc = .ok (.lookupswitch dflt ps, len)) (hp : (ps.toList.zip (ps.toList.drop 1)).all (fun (a, next) => a.1 < next.1) = true) (ho : Op.lookupswitch.offset ps.toList dflt x.toInt = off) (ht : (pc : Int) + off = (tgt : Int)) (k : gJ X V cells slots tgt lv st I J) : gJ X V cells slots pc lv (.int x :: st) I J := by
  obtain ⟨⟨p, l, e, R, s, m⟩, ⟨args, below, meth, c⟩, ⟨D, cy, A, Q, nL⟩⟩ := X
  obtain ⟨hx, hb, hml, hown, hts, hr, hlk, hK, hA, hnL, hR0⟩ := C
  intro H locs ls hP hD hS hl
  exact lv_lookup hx hb hd hp ho ht (k H locs ls hP hD hS hl)
theorem gJ.sub (ks : List Nat) (h : lv_pick lv ks = lv') (k : gJ X V cells slots pc lv' st I J) : gJ X V cells slots pc lv st I J := by
  obtain ⟨⟨p, l, e, R, s, m⟩, ⟨args, below, meth, c⟩, ⟨D, cy, A, Q, nL⟩⟩ := X
  intro H locs ls hP hD hS hl
  exact k H locs ls hP hD hS (lv_sub hl ks h)
theorem gJ.wide {c2 s2 : Nat} (h1 : cells ≤ c2) (h2 : slots ≤ s2) (k : gJ X V c2 s2 pc lv st I J) : gJ X V cells slots pc lv st I J := by
  obtain ⟨⟨p, l, e, R, s, m⟩, ⟨args, below, meth, c⟩, ⟨D, cy, A, Q, nL⟩⟩ := X
  intro H locs ls hP hD hS hl
  exact W.widen h1 h2 (k H locs ls hP hD hS hl)
theorem j_getI (C : gC X cc own ret nL0 R0) {Cn : String} {T : u_T} {N ci index : Nat} {sl : List (Nat ⊕ Option Nat)} (k n : Nat) (hk : k ∈ V.1) (hde : V.2.2 k = .inl (ci, sl)) (hn : sl[n]? = some (.inl 0)) (hc : vwCl[ci]? = some (Cn, T, N)) (hN : n < N) (hin : ∀ w ∈ u_ws Cn T N, w ∈ gWd) (hlink : Cond.fieldLink own index (T n).1 (T n).2.1 (T n).2.2.1 ∈ gWd) (hd : decode cc pc = .ok (.getfield index, 3)) (kk : gJ X V cells slots (pc + 3) lv (.int (I k n) :: st) I J) : gJ X V cells slots pc lv (.ref (V.2.1 k) :: st) I J := by
  obtain ⟨⟨p, l, e, R, s, m⟩, ⟨args, below, meth, c⟩, ⟨D, cy, A, Q, nL⟩⟩ := X
  obtain ⟨hx, hb, hml, hown, hts, hr, hlk, hK, hA, hnL, hR0⟩ := C
  intro H locs ls hP hD hS hl
  obtain ⟨q0, h0, h1⟩ := gW_at (cy := cy) (I := I) (J := J) hk
  rw [hde] at h1
  exact va_get (D := D) hx hb hts hin hown hK.1 hP q0 h1 hc n hN (hts _ hlink) (fun _ h => h) (by rw [gSl_get, hn]; simp only [Option.map_some, gSv, Nat.zero_add]) hd (kk H locs ls hP hD hS hl)
theorem j_getL (C : gC X cc own ret nL0 R0) {Cn : String} {T : u_T} {N ci index : Nat} {sl : List (Nat ⊕ Option Nat)} (k n : Nat) (hk : k ∈ V.1) (hde : V.2.2 k = .inl (ci, sl)) (hn : sl[n]? = some (.inl 1)) (hc : vwCl[ci]? = some (Cn, T, N)) (hN : n < N) (hin : ∀ w ∈ u_ws Cn T N, w ∈ gWd) (hlink : Cond.fieldLink own index (T n).1 (T n).2.1 (T n).2.2.1 ∈ gWd) (hd : decode cc pc = .ok (.getfield index, 3)) (kk : gJ X V cells slots (pc + 3) lv (.long (J k n) :: st) I J) : gJ X V cells slots pc lv (.ref (V.2.1 k) :: st) I J := by
  obtain ⟨⟨p, l, e, R, s, m⟩, ⟨args, below, meth, c⟩, ⟨D, cy, A, Q, nL⟩⟩ := X
  obtain ⟨hx, hb, hml, hown, hts, hr, hlk, hK, hA, hnL, hR0⟩ := C
  intro H locs ls hP hD hS hl
  obtain ⟨q0, h0, h1⟩ := gW_at (cy := cy) (I := I) (J := J) hk
  rw [hde] at h1
  exact va_get (D := D) hx hb hts hin hown hK.1 hP q0 h1 hc n hN (hts _ hlink) (fun _ h => h) (by rw [gSl_get, hn]; simp only [Option.map_some, gSv, Nat.zero_add]) hd (kk H locs ls hP hD hS hl)
theorem j_getR (C : gC X cc own ret nL0 R0) {Cn : String} {T : u_T} {N ci index : Nat} {sl : List (Nat ⊕ Option Nat)} (k n r : Nat) (hk : k ∈ V.1) (hde : V.2.2 k = .inl (ci, sl)) (hn : sl[n]? = some (.inr (some (V.2.1 r)))) (hc : vwCl[ci]? = some (Cn, T, N)) (hN : n < N) (hin : ∀ w ∈ u_ws Cn T N, w ∈ gWd) (hlink : Cond.fieldLink own index (T n).1 (T n).2.1 (T n).2.2.1 ∈ gWd) (hd : decode cc pc = .ok (.getfield index, 3)) (kk : gJ X V cells slots (pc + 3) lv (.ref (V.2.1 r) :: st) I J) : gJ X V cells slots pc lv (.ref (V.2.1 k) :: st) I J := by
  obtain ⟨⟨p, l, e, R, s, m⟩, ⟨args, below, meth, c⟩, ⟨D, cy, A, Q, nL⟩⟩ := X
  obtain ⟨hx, hb, hml, hown, hts, hr, hlk, hK, hA, hnL, hR0⟩ := C
  intro H locs ls hP hD hS hl
  obtain ⟨q0, h0, h1⟩ := gW_at (cy := cy) (I := I) (J := J) hk
  rw [hde] at h1
  exact va_get (D := D) hx hb hts hin hown hK.1 hP q0 h1 hc n hN (hts _ hlink) (fun _ h => h) (by rw [gSl_get, hn]; simp only [Option.map_some, gSv, va_rf]) hd (kk H locs ls hP hD hS hl)
theorem j_getN (C : gC X cc own ret nL0 R0) {Cn : String} {T : u_T} {N ci index : Nat} {sl : List (Nat ⊕ Option Nat)} (k n : Nat) (hk : k ∈ V.1) (hde : V.2.2 k = .inl (ci, sl)) (hn : sl[n]? = some (.inr none)) (hc : vwCl[ci]? = some (Cn, T, N)) (hN : n < N) (hin : ∀ w ∈ u_ws Cn T N, w ∈ gWd) (hlink : Cond.fieldLink own index (T n).1 (T n).2.1 (T n).2.2.1 ∈ gWd) (hd : decode cc pc = .ok (.getfield index, 3)) (kk : gJ X V cells slots (pc + 3) lv (.null :: st) I J) : gJ X V cells slots pc lv (.ref (V.2.1 k) :: st) I J := by
  obtain ⟨⟨p, l, e, R, s, m⟩, ⟨args, below, meth, c⟩, ⟨D, cy, A, Q, nL⟩⟩ := X
  obtain ⟨hx, hb, hml, hown, hts, hr, hlk, hK, hA, hnL, hR0⟩ := C
  intro H locs ls hP hD hS hl
  obtain ⟨q0, h0, h1⟩ := gW_at (cy := cy) (I := I) (J := J) hk
  rw [hde] at h1
  exact va_get (D := D) hx hb hts hin hown hK.1 hP q0 h1 hc n hN (hts _ hlink) (fun _ h => h) (by rw [gSl_get, hn]; simp only [Option.map_some, gSv, va_rf]) hd (kk H locs ls hP hD hS hl)
theorem j_putI (C : gC X cc own ret nL0 R0) {Cn : String} {T : u_T} {N ci index : Nat} {sl : List (Nat ⊕ Option Nat)} {x : Int32} {ft : FieldType} (ty0 : Nat → FieldType) (hty : ∀ k, k < N → parseFieldDescriptor (T k).2.2.1 = some (ty0 k)) (hnm : ∀ a, a < N → ∀ b, b < N → a ≠ b → (T a).2.1 ≠ (T b).2.1) (k n : Nat) (hk : k ∈ V.1) (hde : V.2.2 k = .inl (ci, sl)) (hn : sl[n]? = some (.inl 0)) (hc : vwCl[ci]? = some (Cn, T, N)) (hN : n < N) (hin : ∀ w ∈ u_ws Cn T N, w ∈ gWd) (hlink : Cond.fieldLink own index (T n).1 (T n).2.1 (T n).2.2.1 ∈ gWd) (hfin : (T n).2.2.2 = false) (hft : parseFieldDescriptor (T n).2.2.1 = some ft) (hnar : narrow ft (.int x) = .int x) (hfit : fits ft (.int x) = true) (hd : decode cc pc = .ok (.putfield index, 3)) (kk : gJ X V cells slots (pc + 3) lv st (gup I k n x) J) : gJ X V cells slots pc lv (.int x :: .ref (V.2.1 k) :: st) I J := by
  obtain ⟨⟨p, l, e, R, s, m⟩, ⟨args, below, meth, c⟩, ⟨D, cy, A, Q, nL⟩⟩ := X
  obtain ⟨hx, hb, hml, hown, hts, hr, hlk, hK, hA, hnL, hR0⟩ := C
  intro H locs ls hP hD hS hl
  obtain ⟨ks, ad, de⟩ := V
  obtain ⟨q0, h0, h1⟩ := gW_at (cy := cy) (I := I) (J := J) hk
  rw [hde] at h1
  have hlen : n < (gSl (I k) (J k) 0 sl).length := by rw [gSl_len]; exact (List.getElem?_eq_some_iff.mp hn).1
  refine va_put (D := D) hx hb hts hin ty0 hty hnm hown hK.1 hP hD hS q0 h1 hc n hN (hts _ hlink) (fun _ h => h) hfin hft hnar hfit hlen hd (fun H1 locs1 hP1 hD1 hS1 => ?_)
  have hset : (gW cy (ks, ad, de) I J).set q0 (ad k, .inr (ci, (gSl (I k) (J k) 0 sl).set n (.int x))) = gW cy (ks, ad, de) (gup I k n x) J := by
    refine gW_set hD h0 ?_ (fun k' hk' => gE_I (gup_o hk') rfl)
    show gE cy (gup I k n x) J k (de k) = _
    rw [show de k = .inl (ci, sl) from hde]
    unfold gE
    simp only [gup_s]
    rw [gSl_setI _ _ _ _ _ hn]
  exact kk H1 locs1 ls (by rw [← hset]; exact hP1) (by rw [← hset]; exact hD1) hS1 hl
theorem j_putL (C : gC X cc own ret nL0 R0) {Cn : String} {T : u_T} {N ci index : Nat} {sl : List (Nat ⊕ Option Nat)} {x : Int64} {ft : FieldType} (ty0 : Nat → FieldType) (hty : ∀ k, k < N → parseFieldDescriptor (T k).2.2.1 = some (ty0 k)) (hnm : ∀ a, a < N → ∀ b, b < N → a ≠ b → (T a).2.1 ≠ (T b).2.1) (k n : Nat) (hk : k ∈ V.1) (hde : V.2.2 k = .inl (ci, sl)) (hn : sl[n]? = some (.inl 1)) (hc : vwCl[ci]? = some (Cn, T, N)) (hN : n < N) (hin : ∀ w ∈ u_ws Cn T N, w ∈ gWd) (hlink : Cond.fieldLink own index (T n).1 (T n).2.1 (T n).2.2.1 ∈ gWd) (hfin : (T n).2.2.2 = false) (hft : parseFieldDescriptor (T n).2.2.1 = some ft) (hnar : narrow ft (.long x) = .long x) (hfit : fits ft (.long x) = true) (hd : decode cc pc = .ok (.putfield index, 3)) (kk : gJ X V cells slots (pc + 3) lv st I (gup J k n x)) : gJ X V cells slots pc lv (.long x :: .ref (V.2.1 k) :: st) I J := by
  obtain ⟨⟨p, l, e, R, s, m⟩, ⟨args, below, meth, c⟩, ⟨D, cy, A, Q, nL⟩⟩ := X
  obtain ⟨hx, hb, hml, hown, hts, hr, hlk, hK, hA, hnL, hR0⟩ := C
  intro H locs ls hP hD hS hl
  obtain ⟨ks, ad, de⟩ := V
  obtain ⟨q0, h0, h1⟩ := gW_at (cy := cy) (I := I) (J := J) hk
  rw [hde] at h1
  have hlen : n < (gSl (I k) (J k) 0 sl).length := by rw [gSl_len]; exact (List.getElem?_eq_some_iff.mp hn).1
  refine va_put (D := D) hx hb hts hin ty0 hty hnm hown hK.1 hP hD hS q0 h1 hc n hN (hts _ hlink) (fun _ h => h) hfin hft hnar hfit hlen hd (fun H1 locs1 hP1 hD1 hS1 => ?_)
  have hset : (gW cy (ks, ad, de) I J).set q0 (ad k, .inr (ci, (gSl (I k) (J k) 0 sl).set n (.long x))) = gW cy (ks, ad, de) I (gup J k n x) := by
    refine gW_set hD h0 ?_ (fun k' hk' => gE_I rfl (gup_o hk'))
    show gE cy I (gup J k n x) k (de k) = _
    rw [show de k = .inl (ci, sl) from hde]
    unfold gE
    simp only [gup_s]
    rw [gSl_setL _ _ _ _ _ hn]
  exact kk H1 locs1 ls (by rw [← hset]; exact hP1) (by rw [← hset]; exact hD1) hS1 hl
theorem j_iald (C : gC X cc own ret nL0 R0) {i : Int32} {len : Nat} {rf : Nat → Option Nat} (k : Nat) (hk : k ∈ V.1) (hde : V.2.2 k = .inr (0, len, rf)) (hin : vp_in i len) (hd : decode cc pc = .ok (.iaload, 1)) (kk : gJ X V cells slots (pc + 1) lv (.int (I k i.toNatClampNeg) :: st) I J) : gJ X V cells slots pc lv (.int i :: .ref (V.2.1 k) :: st) I J := by
  obtain ⟨⟨p, l, e, R, s, m⟩, ⟨args, below, meth, c⟩, ⟨D, cy, A, Q, nL⟩⟩ := X
  obtain ⟨hx, hb, hml, hown, hts, hr, hlk, hK, hA, hnL, hR0⟩ := C
  intro H locs ls hP hD hS hl
  obtain ⟨q0, h0, h1⟩ := gW_at (cy := cy) (I := I) (J := J) hk
  rw [hde] at h1
  exact va_iald (D := D) hx hb hK.1 hP q0 0 (cA := cy 0) (n := len) (f := I k) h1 rfl hin hd (kk H locs ls hP hD hS hl)
theorem j_bald (C : gC X cc own ret nL0 R0) {i : Int32} {len : Nat} {rf : Nat → Option Nat} (k : Nat) (hk : k ∈ V.1) (hde : V.2.2 k = .inr (2, len, rf)) (hin : vp_in i len) (hd : decode cc pc = .ok (.baload, 1)) (kk : gJ X V cells slots (pc + 1) lv (.int (I k i.toNatClampNeg) :: st) I J) : gJ X V cells slots pc lv (.int i :: .ref (V.2.1 k) :: st) I J := by
  obtain ⟨⟨p, l, e, R, s, m⟩, ⟨args, below, meth, c⟩, ⟨D, cy, A, Q, nL⟩⟩ := X
  obtain ⟨hx, hb, hml, hown, hts, hr, hlk, hK, hA, hnL, hR0⟩ := C
  intro H locs ls hP hD hS hl
  obtain ⟨q0, h0, h1⟩ := gW_at (cy := cy) (I := I) (J := J) hk
  rw [hde] at h1
  exact va_bald (D := D) hx hb hK.1 hP q0 2 (cA := cy 2) (n := len) (f := I k) h1 rfl hin hd (kk H locs ls hP hD hS hl)
theorem j_zald (C : gC X cc own ret nL0 R0) {i : Int32} {len : Nat} {rf : Nat → Option Nat} (k : Nat) (hk : k ∈ V.1) (hde : V.2.2 k = .inr (3, len, rf)) (hin : vp_in i len) (hd : decode cc pc = .ok (.baload, 1)) (kk : gJ X V cells slots (pc + 1) lv (.int (I k i.toNatClampNeg) :: st) I J) : gJ X V cells slots pc lv (.int i :: .ref (V.2.1 k) :: st) I J := by
  obtain ⟨⟨p, l, e, R, s, m⟩, ⟨args, below, meth, c⟩, ⟨D, cy, A, Q, nL⟩⟩ := X
  obtain ⟨hx, hb, hml, hown, hts, hr, hlk, hK, hA, hnL, hR0⟩ := C
  intro H locs ls hP hD hS hl
  obtain ⟨q0, h0, h1⟩ := gW_at (cy := cy) (I := I) (J := J) hk
  rw [hde] at h1
  exact va_zald (D := D) hx hb hK.1 hP q0 3 (cA := cy 3) (n := len) (f := I k) h1 rfl hin hd (kk H locs ls hP hD hS hl)
theorem j_lald (C : gC X cc own ret nL0 R0) {i : Int32} {len : Nat} {rf : Nat → Option Nat} (k : Nat) (hk : k ∈ V.1) (hde : V.2.2 k = .inr (1, len, rf)) (hin : vp_in i len) (hd : decode cc pc = .ok (.laload, 1)) (kk : gJ X V cells slots (pc + 1) lv (.long (J k i.toNatClampNeg) :: st) I J) : gJ X V cells slots pc lv (.int i :: .ref (V.2.1 k) :: st) I J := by
  obtain ⟨⟨p, l, e, R, s, m⟩, ⟨args, below, meth, c⟩, ⟨D, cy, A, Q, nL⟩⟩ := X
  obtain ⟨hx, hb, hml, hown, hts, hr, hlk, hK, hA, hnL, hR0⟩ := C
  intro H locs ls hP hD hS hl
  obtain ⟨q0, h0, h1⟩ := gW_at (cy := cy) (I := I) (J := J) hk
  rw [hde] at h1
  exact va_lald (D := D) hx hb hK.1 hP q0 1 (cA := cy 1) (n := len) (f := J k) h1 rfl hin hd (kk H locs ls hP hD hS hl)
theorem j_iast (C : gC X cc own ret nL0 R0) {i : Int32} {x : Int32} {len : Nat} {rf : Nat → Option Nat} (k : Nat) (hk : k ∈ V.1) (hde : V.2.2 k = .inr (0, len, rf)) (hin : vp_in i len) (hd : decode cc pc = .ok (.iastore, 1)) (kk : gJ X V cells slots (pc + 1) lv st (gup I k i.toNatClampNeg x) J) : gJ X V cells slots pc lv (.int x :: .int i :: .ref (V.2.1 k) :: st) I J := by
  obtain ⟨⟨p, l, e, R, s, m⟩, ⟨args, below, meth, c⟩, ⟨D, cy, A, Q, nL⟩⟩ := X
  obtain ⟨hx, hb, hml, hown, hts, hr, hlk, hK, hA, hnL, hR0⟩ := C
  intro H locs ls hP hD hS hl
  obtain ⟨ks, ad, de⟩ := V
  obtain ⟨q0, h0, h1⟩ := gW_at (cy := cy) (I := I) (J := J) hk
  rw [hde] at h1
  refine va_iast (D := D) hx hb hK.1 hP hD hS q0 0 (cA := cy 0) (n := len) (f := I k) h1 rfl hin hd (fun H1 locs1 hP1 hD1 hS1 => ?_)
  have hset : (gW cy (ks, ad, de) I J).set q0 (ad k, .inl (cy 0, len, .inl (upd (I k) i.toNatClampNeg x))) = gW cy (ks, ad, de) (gup I k i.toNatClampNeg x) J := by
    refine gW_set hD h0 ?_ (fun k' hk' => gE_I (gup_o hk') rfl)
    show gE cy (gup I k i.toNatClampNeg x) J k (de k) = _
    rw [show de k = .inr (0, len, rf) from hde]
    unfold gE
    simp only [gup_s]
    rfl
  exact kk H1 locs1 ls (by rw [← hset]; exact hP1) (by rw [← hset]; exact hD1) hS1 hl
theorem j_bast (C : gC X cc own ret nL0 R0) {i : Int32} {x : Int32} {len : Nat} {rf : Nat → Option Nat} (k : Nat) (hk : k ∈ V.1) (hde : V.2.2 k = .inr (2, len, rf)) (hin : vp_in i len) (hd : decode cc pc = .ok (.bastore, 1)) (kk : gJ X V cells slots (pc + 1) lv st (gup I k i.toNatClampNeg (vp_nar .byte x)) J) : gJ X V cells slots pc lv (.int x :: .int i :: .ref (V.2.1 k) :: st) I J := by
  obtain ⟨⟨p, l, e, R, s, m⟩, ⟨args, below, meth, c⟩, ⟨D, cy, A, Q, nL⟩⟩ := X
  obtain ⟨hx, hb, hml, hown, hts, hr, hlk, hK, hA, hnL, hR0⟩ := C
  intro H locs ls hP hD hS hl
  obtain ⟨ks, ad, de⟩ := V
  obtain ⟨q0, h0, h1⟩ := gW_at (cy := cy) (I := I) (J := J) hk
  rw [hde] at h1
  refine va_bast (D := D) hx hb hK.1 hP hD hS q0 2 (cA := cy 2) (n := len) (f := I k) h1 rfl hin hd (fun H1 locs1 hP1 hD1 hS1 => ?_)
  have hset : (gW cy (ks, ad, de) I J).set q0 (ad k, .inl (cy 2, len, .inl (upd (I k) i.toNatClampNeg (vp_nar .byte x)))) = gW cy (ks, ad, de) (gup I k i.toNatClampNeg (vp_nar .byte x)) J := by
    refine gW_set hD h0 ?_ (fun k' hk' => gE_I (gup_o hk') rfl)
    show gE cy (gup I k i.toNatClampNeg (vp_nar .byte x)) J k (de k) = _
    rw [show de k = .inr (2, len, rf) from hde]
    unfold gE
    simp only [gup_s]
    rfl
  exact kk H1 locs1 ls (by rw [← hset]; exact hP1) (by rw [← hset]; exact hD1) hS1 hl
theorem j_zast (C : gC X cc own ret nL0 R0) {i : Int32} {x : Int32} {len : Nat} {rf : Nat → Option Nat} (k : Nat) (hk : k ∈ V.1) (hde : V.2.2 k = .inr (3, len, rf)) (hin : vp_in i len) (hd : decode cc pc = .ok (.bastore, 1)) (kk : gJ X V cells slots (pc + 1) lv st (gup I k i.toNatClampNeg (vp_nar .boolean x)) J) : gJ X V cells slots pc lv (.int x :: .int i :: .ref (V.2.1 k) :: st) I J := by
  obtain ⟨⟨p, l, e, R, s, m⟩, ⟨args, below, meth, c⟩, ⟨D, cy, A, Q, nL⟩⟩ := X
  obtain ⟨hx, hb, hml, hown, hts, hr, hlk, hK, hA, hnL, hR0⟩ := C
  intro H locs ls hP hD hS hl
  obtain ⟨ks, ad, de⟩ := V
  obtain ⟨q0, h0, h1⟩ := gW_at (cy := cy) (I := I) (J := J) hk
  rw [hde] at h1
  refine va_zast (D := D) hx hb hK.1 hP hD hS q0 3 (cA := cy 3) (n := len) (f := I k) h1 rfl hin hd (fun H1 locs1 hP1 hD1 hS1 => ?_)
  have hset : (gW cy (ks, ad, de) I J).set q0 (ad k, .inl (cy 3, len, .inl (upd (I k) i.toNatClampNeg (vp_nar .boolean x)))) = gW cy (ks, ad, de) (gup I k i.toNatClampNeg (vp_nar .boolean x)) J := by
    refine gW_set hD h0 ?_ (fun k' hk' => gE_I (gup_o hk') rfl)
    show gE cy (gup I k i.toNatClampNeg (vp_nar .boolean x)) J k (de k) = _
    rw [show de k = .inr (3, len, rf) from hde]
    unfold gE
    simp only [gup_s]
    rfl
  exact kk H1 locs1 ls (by rw [← hset]; exact hP1) (by rw [← hset]; exact hD1) hS1 hl
theorem j_last (C : gC X cc own ret nL0 R0) {i : Int32} {x : Int64} {len : Nat} {rf : Nat → Option Nat} (k : Nat) (hk : k ∈ V.1) (hde : V.2.2 k = .inr (1, len, rf)) (hin : vp_in i len) (hd : decode cc pc = .ok (.lastore, 1)) (kk : gJ X V cells slots (pc + 1) lv st I (gup J k i.toNatClampNeg x)) : gJ X V cells slots pc lv (.long x :: .int i :: .ref (V.2.1 k) :: st) I J := by
  obtain ⟨⟨p, l, e, R, s, m⟩, ⟨args, below, meth, c⟩, ⟨D, cy, A, Q, nL⟩⟩ := X
  obtain ⟨hx, hb, hml, hown, hts, hr, hlk, hK, hA, hnL, hR0⟩ := C
  intro H locs ls hP hD hS hl
  obtain ⟨ks, ad, de⟩ := V
  obtain ⟨q0, h0, h1⟩ := gW_at (cy := cy) (I := I) (J := J) hk
  rw [hde] at h1
  refine va_last (D := D) hx hb hK.1 hP hD hS q0 1 (cA := cy 1) (n := len) (f := J k) h1 rfl hin hd (fun H1 locs1 hP1 hD1 hS1 => ?_)
  have hset : (gW cy (ks, ad, de) I J).set q0 (ad k, .inl (cy 1, len, .inr (.inl (vp_updL (J k) i.toNatClampNeg x)))) = gW cy (ks, ad, de) I (gup J k i.toNatClampNeg x) := by
    refine gW_set hD h0 ?_ (fun k' hk' => gE_I rfl (gup_o hk'))
    show gE cy I (gup J k i.toNatClampNeg x) k (de k) = _
    rw [show de k = .inr (1, len, rf) from hde]
    unfold gE
    simp only [gup_s]
    rfl
  exact kk H1 locs1 ls (by rw [← hset]; exact hP1) (by rw [← hset]; exact hD1) hS1 hl
theorem j_aald (C : gC X cc own ret nL0 R0) {i : Int32} {len : Nat} {rf : Nat → Option Nat} (k r : Nat) (hk : k ∈ V.1) (hde : V.2.2 k = .inr (4, len, rf)) (hin : vp_in i len) (hr : rf i.toNatClampNeg = some (V.2.1 r)) (hd : decode cc pc = .ok (.aaload, 1)) (kk : gJ X V cells slots (pc + 1) lv (.ref (V.2.1 r) :: st) I J) : gJ X V cells slots pc lv (.int i :: .ref (V.2.1 k) :: st) I J := by
  obtain ⟨⟨p, l, e, R, s, m⟩, ⟨args, below, meth, c⟩, ⟨D, cy, A, Q, nL⟩⟩ := X
  obtain ⟨hx, hb, hml, hown, hts, hret, hlk, hK, hA, hnL, hR0⟩ := C
  intro H locs ls hP hD hS hl
  obtain ⟨q0, h0, h1⟩ := gW_at (cy := cy) (I := I) (J := J) hk
  rw [hde] at h1
  have hlt : i.toNatClampNeg < len := Nat.not_le.mp fun q => hin (Or.inr q)
  refine W.aald (v := .ref (V.2.1 r)) (ty := .array .int) hx hb (hP q0 _ h1) ((hK.1.2 4 _ rfl).1 len (fun j => va_rf (rf j))) rfl (fun q => by cases q) (by show ¬ (i < 0 ∨ (arrV _ _ _).slots.size ≤ _); rw [arrV_size]; exact hin) (by show (arrV _ _ _).slots[_]? = _; rw [arrV_read _ _ hlt]; show some (va_rf (rf i.toNatClampNeg)) = _; rw [hr]; rfl) rfl rfl hd (kk H locs ls hP hD hS hl)
theorem j_qald (C : gC X cc own ret nL0 R0) {i : Int32} {len : Nat} {rf : Nat → Option Nat} (k r : Nat) (hk : k ∈ V.1) (hde : V.2.2 k = .inr (5, len, rf)) (hin : vp_in i len) (hr : rf i.toNatClampNeg = some (V.2.1 r)) (hd : decode cc pc = .ok (.aaload, 1)) (kk : gJ X V cells slots (pc + 1) lv (.ref (V.2.1 r) :: st) I J) : gJ X V cells slots pc lv (.int i :: .ref (V.2.1 k) :: st) I J := by
  obtain ⟨⟨p, l, e, R, s, m⟩, ⟨args, below, meth, c⟩, ⟨D, cy, A, Q, nL⟩⟩ := X
  obtain ⟨hx, hb, hml, hown, hts, hret, hlk, hK, hA, hnL, hR0⟩ := C
  intro H locs ls hP hD hS hl
  obtain ⟨q0, h0, h1⟩ := gW_at (cy := cy) (I := I) (J := J) hk
  rw [hde] at h1
  have hlt : i.toNatClampNeg < len := Nat.not_le.mp fun q => hin (Or.inr q)
  refine W.aald (v := .ref (V.2.1 r)) (ty := .object "TileRules$Tally") hx hb (hP q0 _ h1) ((hK.1.2 5 _ rfl).1 len (fun j => va_rf (rf j))) rfl (fun q => by cases q) (by show ¬ (i < 0 ∨ (arrV _ _ _).slots.size ≤ _); rw [arrV_size]; exact hin) (by show (arrV _ _ _).slots[_]? = _; rw [arrV_read _ _ hlt]; show some (va_rf (rf i.toNatClampNeg)) = _; rw [hr]; rfl) rfl rfl hd (kk H locs ls hP hD hS hl)
theorem j_alen (C : gC X cc own ret nL0 R0) {len tc : Nat} {rf : Nat → Option Nat} {v : Int32} (k : Nat) (hk : k ∈ V.1) (hde : V.2.2 k = .inr (tc, len, rf)) (htc : tc < 6) (hv : Int32.ofNat len = v) (hd : decode cc pc = .ok (.arraylength, 1)) (kk : gJ X V cells slots (pc + 1) lv (.int v :: st) I J) : gJ X V cells slots pc lv (.ref (V.2.1 k) :: st) I J := by
  obtain ⟨⟨p, l, e, R, s, m⟩, ⟨args, below, meth, c⟩, ⟨D, cy, A, Q, nL⟩⟩ := X
  obtain ⟨hx, hb, hml, hown, hts, hr, hlk, hK, hA, hnL, hR0⟩ := C
  intro H locs ls hP hD hS hl
  obtain ⟨q0, h0, h1⟩ := gW_at (cy := cy) (I := I) (J := J) hk
  rw [hde] at h1
  have ht : ∃ ty, (gT cy)[tc]? = some (cy tc, ty) := by
    rcases (show tc = 0 ∨ tc = 1 ∨ tc = 2 ∨ tc = 3 ∨ tc = 4 ∨ tc = 5 by omega) with rfl | rfl | rfl | rfl | rfl | rfl <;> exact ⟨_, rfl⟩
  obtain ⟨ty, ht⟩ := ht
  exact va_alen (D := D) hx hb hK.1 hP q0 tc h1 ht hv hd (kk H locs ls hP hD hS hl)
theorem j_mmax (C : gC X cc own ret nL0 R0) {index : Nat} {x y : Int32} (hlink : Cond.methodLink own index Lib.Math.max.name ∈ gWd) (hstat : Cond.static Lib.Math.max.name ∈ gWd) (hini : Cond.initialized "java/lang/Math" ∈ gWd) (hcode : Cond.code Lib.Math.max.name Lib.Math.max.code 2 (some .int) ∈ gWd) (hf : 1 ≤ R0.frames) (hlo : (st.map fun v => v.category).sum + 13 ≤ R0.locals) (hc : cells ≤ R0.cells) (hs : slots ≤ R0.slots) (hd : decode cc pc = .ok (.invokestatic index, 3)) (k : gJ X V cells slots (pc + 3) lv (.int (if x < y then y else x) :: st) I J) : gJ X V cells slots pc lv (.int y :: .int x :: st) I J := by
  obtain ⟨⟨p, l, e, R, s, m⟩, ⟨args, below, meth, c⟩, ⟨D, cy, A, Q, nL⟩⟩ := X
  obtain ⟨hx, hb, hml, hown, hts, hr, hlk, hK, hA, hnL, hR0⟩ := C
  intro H locs ls hP hD hS hl
  subst hR0
  exact va_mmax hx hb (hml.trans hl.1.symm) hown (hts _ hlink) (hts _ hstat) (hts _ hini) (hts _ hcode) hf hlo hc hs hd (k H locs ls hP hD hS hl)
theorem j_mmin (C : gC X cc own ret nL0 R0) {index : Nat} {x y : Int32} (hlink : Cond.methodLink own index Lib.Math.min.name ∈ gWd) (hstat : Cond.static Lib.Math.min.name ∈ gWd) (hini : Cond.initialized "java/lang/Math" ∈ gWd) (hcode : Cond.code Lib.Math.min.name Lib.Math.min.code 2 (some .int) ∈ gWd) (hf : 1 ≤ R0.frames) (hlo : (st.map fun v => v.category).sum + 13 ≤ R0.locals) (hc : cells ≤ R0.cells) (hs : slots ≤ R0.slots) (hd : decode cc pc = .ok (.invokestatic index, 3)) (k : gJ X V cells slots (pc + 3) lv (.int (if y < x then y else x) :: st) I J) : gJ X V cells slots pc lv (.int y :: .int x :: st) I J := by
  obtain ⟨⟨p, l, e, R, s, m⟩, ⟨args, below, meth, c⟩, ⟨D, cy, A, Q, nL⟩⟩ := X
  obtain ⟨hx, hb, hml, hown, hts, hr, hlk, hK, hA, hnL, hR0⟩ := C
  intro H locs ls hP hD hS hl
  subst hR0
  exact va_mmin hx hb (hml.trans hl.1.symm) hown (hts _ hlink) (hts _ hstat) (hts _ hini) (hts _ hcode) hf hlo hc hs hd (k H locs ls hP hD hS hl)
theorem j_cpyI (C : gC X cc own ret nL0 R0) {index len0 len N : Nat} {n : Int32} {rf0 rf : Nat → Option Nat} (k0 k1 : Nat) (hk0 : k0 ∈ V.1) (hde0 : V.2.2 k0 = .inr (0, len0, rf0)) (hk1 : k1 ∈ V.1) (hde1 : V.2.2 k1 = .inr (0, len, rf)) (hlink : Cond.methodLink own index arraycopyName ∈ gWd) (hnat : Cond.native arraycopyName ∈ gWd) (hstat : Cond.static arraycopyName ∈ gWd) (hini : Cond.initialized "java/lang/System" ∈ gWd) (hn0 : ¬ n < 0) (hN : n.toNatClampNeg = N) (h4 : N ≤ len0) (h5 : N ≤ len) (hf : 1 ≤ R0.frames) (hlo : (st.map fun v => v.category).sum + (nativeFrameWords "java/lang/System" "arraycopy" 5 + 11) ≤ R0.locals) (hd : decode cc pc = .ok (.invokestatic index, 3)) (kk : gJ X V cells slots (pc + 3) lv st (guc I k1 (va_cpy (I k0) (I k1) 0 0 N)) J) : gJ X V cells slots pc lv (.int n :: .int 0 :: .ref (V.2.1 k1) :: .int 0 :: .ref (V.2.1 k0) :: st) I J := by
  obtain ⟨⟨p, l, e, R, s, m⟩, ⟨args, below, meth, c⟩, ⟨D, cy, A, Q, nL⟩⟩ := X
  obtain ⟨hx, hb, hml, hown, hts, hr, hlk, hK, hA, hnL, hR0⟩ := C
  intro H locs ls hP hD hS hl
  subst hR0
  obtain ⟨ks, ad, de⟩ := V
  obtain ⟨q0, h00, h0⟩ := gW_at (cy := cy) (I := I) (J := J) hk0
  obtain ⟨q1, h10, h1⟩ := gW_at (cy := cy) (I := I) (J := J) hk1
  rw [hde0] at h0
  rw [hde1] at h1
  refine va_copyi (D := D) hx hb (hml.trans hl.1.symm) hown (hts _ hlink) (hts _ hnat) (hts _ hstat) (hts _ hini) hK.1 hP hD hS q0 q1 0 0 (c0 := cy 0) (c1 := cy 0) (n0 := len0) (n1 := len) (f := I k0) (g := I k1) (ty := .int) (sp := 0) (dp := 0) (n := n) h0 h1 rfl rfl rfl (by decide) (by decide) hn0 (by rw [hN]; show 0 + N ≤ _; omega) (by rw [hN]; show 0 + N ≤ _; omega) (fun i _ => rfl) hf hlo hd (fun H1 locs1 hP1 hD1 hS1 => ?_)
  have hset : (gW cy (ks, ad, de) I J).set q1 (ad k1, .inl (cy 0, len, .inl (va_cpy (I k0) (I k1) 0 0 n.toNatClampNeg))) = gW cy (ks, ad, de) (guc I k1 (va_cpy (I k0) (I k1) 0 0 N)) J := by
    refine gW_set hD h10 ?_ (fun k' hk' => gE_I (guc_o hk') rfl)
    show gE cy (guc I k1 (va_cpy (I k0) (I k1) 0 0 N)) J k1 (de k1) = _
    rw [show de k1 = .inr (0, len, rf) from hde1]
    unfold gE
    simp only [guc_s]
    rw [hN]
    rfl
  exact kk H1 locs1 ls (by rw [← hset]; exact hP1) (by rw [← hset]; exact hD1) hS1 hl
theorem j_cpyL (C : gC X cc own ret nL0 R0) {index len0 len N : Nat} {n : Int32} {rf0 rf : Nat → Option Nat} (k0 k1 : Nat) (hk0 : k0 ∈ V.1) (hde0 : V.2.2 k0 = .inr (1, len0, rf0)) (hk1 : k1 ∈ V.1) (hde1 : V.2.2 k1 = .inr (1, len, rf)) (hlink : Cond.methodLink own index arraycopyName ∈ gWd) (hnat : Cond.native arraycopyName ∈ gWd) (hstat : Cond.static arraycopyName ∈ gWd) (hini : Cond.initialized "java/lang/System" ∈ gWd) (hn0 : ¬ n < 0) (hN : n.toNatClampNeg = N) (h4 : N ≤ len0) (h5 : N ≤ len) (hf : 1 ≤ R0.frames) (hlo : (st.map fun v => v.category).sum + (nativeFrameWords "java/lang/System" "arraycopy" 5 + 11) ≤ R0.locals) (hd : decode cc pc = .ok (.invokestatic index, 3)) (kk : gJ X V cells slots (pc + 3) lv st I (guc J k1 (va_cpy (J k0) (J k1) 0 0 N))) : gJ X V cells slots pc lv (.int n :: .int 0 :: .ref (V.2.1 k1) :: .int 0 :: .ref (V.2.1 k0) :: st) I J := by
  obtain ⟨⟨p, l, e, R, s, m⟩, ⟨args, below, meth, c⟩, ⟨D, cy, A, Q, nL⟩⟩ := X
  obtain ⟨hx, hb, hml, hown, hts, hr, hlk, hK, hA, hnL, hR0⟩ := C
  intro H locs ls hP hD hS hl
  subst hR0
  obtain ⟨ks, ad, de⟩ := V
  obtain ⟨q0, h00, h0⟩ := gW_at (cy := cy) (I := I) (J := J) hk0
  obtain ⟨q1, h10, h1⟩ := gW_at (cy := cy) (I := I) (J := J) hk1
  rw [hde0] at h0
  rw [hde1] at h1
  refine va_copyl (D := D) hx hb (hml.trans hl.1.symm) hown (hts _ hlink) (hts _ hnat) (hts _ hstat) (hts _ hini) hK.1 hP hD hS q0 q1 1 1 (c0 := cy 1) (c1 := cy 1) (n0 := len0) (n1 := len) (f := J k0) (g := J k1) (ty := .long) (sp := 0) (dp := 0) (n := n) h0 h1 rfl rfl rfl (by decide) (by decide) hn0 (by rw [hN]; show 0 + N ≤ _; omega) (by rw [hN]; show 0 + N ≤ _; omega) (fun i _ => rfl) hf hlo hd (fun H1 locs1 hP1 hD1 hS1 => ?_)
  have hset : (gW cy (ks, ad, de) I J).set q1 (ad k1, .inl (cy 1, len, .inr (.inl (va_cpy (J k0) (J k1) 0 0 n.toNatClampNeg)))) = gW cy (ks, ad, de) I (guc J k1 (va_cpy (J k0) (J k1) 0 0 N)) := by
    refine gW_set hD h10 ?_ (fun k' hk' => gE_I rfl (guc_o hk'))
    show gE cy I (guc J k1 (va_cpy (J k0) (J k1) 0 0 N)) k1 (de k1) = _
    rw [show de k1 = .inr (1, len, rf) from hde1]
    unfold gE
    simp only [guc_s]
    rw [hN]
    rfl
  exact kk H1 locs1 ls (by rw [← hset]; exact hP1) (by rw [← hset]; exact hD1) hS1 hl
theorem j_look2 (C : gC X cc own ret nL0 R0) {dflt k1 o1 k2 o2 : Int} {len : Nat} {x : Int32} {t0 t1 t2 : Nat} (hd : decode cc pc = .ok (.lookupswitch dflt #[(k1, o1), (k2, o2)], len)) (hk : k1 < k2) (h0 : (pc : Int) + dflt = (t0 : Int)) (h1 : (pc : Int) + o1 = (t1 : Int)) (h2 : (pc : Int) + o2 = (t2 : Int)) (a1 : x.toInt = k1 → gJ X V cells slots t1 lv st I J) (a2 : x.toInt = k2 → gJ X V cells slots t2 lv st I J) (a0 : ¬ x.toInt = k1 → ¬ x.toInt = k2 → gJ X V cells slots t0 lv st I J) : gJ X V cells slots pc lv (.int x :: st) I J := by
  have hp : ((#[(k1, o1), (k2, o2)] : Array (Int × Int)).toList.zip ((#[(k1, o1), (k2, o2)] : Array (Int × Int)).toList.drop 1)).all (fun (a, next) => a.1 < next.1) = true := by simp [hk]
  by_cases c1 : x.toInt = k1
  · exact j_lookup C hd hp (off := o1) (by simp [Op.lookupswitch.offset, c1]) h1 (a1 c1)
  · by_cases c2 : x.toInt = k2
    · exact j_lookup C hd hp (off := o2) (by simp [Op.lookupswitch.offset, c2, Ne.symm (Int.ne_of_lt hk), (Int.ne_of_lt hk)]) h2 (a2 c2)
    · exact j_lookup C hd hp (off := dflt) (by simp [Op.lookupswitch.offset, Ne.symm c1, Ne.symm c2, c1, c2]) h0 (a0 c1 c2)
end GJ
