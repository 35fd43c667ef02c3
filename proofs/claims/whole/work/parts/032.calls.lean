/-! CONTRACTS: gMet; a method's start; returns; calls. -/
abbrev gPo : Type := Option Value → gV → gI → gL → Prop
def gB (D : va_G) (cy : Nat → ClassId) (V : gV) (I : gI) (J : gL) (sz : Nat) (T : State) : Prop := T.heap.size = sz ∧ va_P D vwCl (gW cy V I J) T.heap ∧ gK D cy T ∧ va_D (fun _ => True) (gW cy V I J)
def gA (V : gV) (sz : Nat) : Nat → Prop := fun q => (∃ k ∈ V.1, q = V.2.1 k) ∨ sz ≤ q
def gQc (D : va_G) (cy : Nat → ClassId) (A : Nat → Prop) (Po : gPo) : Array Value → State → Outcome → State → Prop := fun _ st oc t => ∃ (r : Option Value) (V : gV) (I : gI) (J : gL), oc = .returned r ∧ Po r V I J ∧ va_P D vwCl (gW cy V I J) t.heap ∧ va_D A (gW cy V I J) ∧ va_F A st t
def gMet (l : Launch) (D : va_G) (cy : Nat → ClassId) (y : MethodName) (cc : ByteArray) (nL : Nat) (ret : Option FieldType) (rm : Room) (V : gV) (av : List Value) (I : gI) (J : gL) (Po : gPo) : Prop := ∀ sz : Nat, Met l y (.code y cc nL ret :: gWd) rm (va_Pc av (gB D cy V I J sz)) (gQc D cy (gA V sz) Po) rm.cells rm.slots (gA V sz)
def gR (X : gX) (Po : gPo) : Prop := match X with
  | ((_, _, _, R, s, _), (args, below, _, _), (D, cy, A, Q, _)) => Q = MQ below (gQc D cy A Po) args s R.cells R.slots A
def gIs (X : gX) (l : Launch) (D : va_G) (cy : Nat → ClassId) (nm : String) : Prop := match X with
  | ((_, l', _, _, _, _), (_, _, meth, _), (D', cy', _, _, _)) => l' = l ∧ D' = D ∧ cy' = cy ∧ meth.name = nm
theorem gW_A {cy : Nat → ClassId} {V : gV} {I : gI} {J : gL} {A : Nat → Prop} (h : va_D A (gW cy V I J)) {k : Nat} (hk : k ∈ V.1) : A (V.2.1 k) := by
  obtain ⟨q0, -, h1⟩ := gW_at (cy := cy) (I := I) (J := J) hk
  exact h.2 q0 _ h1
theorem gW_self {cy : Nat → ClassId} {V : gV} {I : gI} {J : gL} {A : Nat → Prop} {sz : Nat} (h : va_D A (gW cy V I J)) : va_D (gA V sz) (gW cy V I J) := by
  refine ⟨h.1, fun n p hp => Or.inl ?_⟩
  simp only [gW, List.getElem?_map] at hp
  cases hk : V.1[n]? with
  | none => rw [hk] at hp; cases hp
  | some k => rw [hk] at hp; cases hp; exact ⟨k, List.mem_of_getElem? hk, rfl⟩
theorem gMet.of {l : Launch} {D : va_G} {cy : Nat → ClassId} {y : MethodName} {cc : ByteArray} {nL : Nat} {ret : Option FieldType} {rm : Room} {V : gV} {av : List Value} {I : gI} {J : gL} {Po : gPo} (hy : plainName y.cls = true) (hav : (lg_sl av).length ≤ nL)
    (body : ∀ X : gX, gIs X l D cy y.name → gC X cc y.cls ret nL rm → gR X Po → gJ X V 0 0 0 (lv_args 0 av) [] I J) : gMet l D cy y cc nL ret rm V av I J Po := by
  intro sz
  refine Met.ofW (cc := cc) (maxL := nL) (ret := ret) hy rfl ?_
  intro p e s m args below meth c s₁ B hml hv
  obtain ⟨rfl, hsz, hP, hK, hD0⟩ := hv
  have hts := atoms_spec (ws := .code y cc nL ret :: gWd) B.pre
  have hown : s.vm.findClass y.cls = some m.cls := findClass_of_methodNamed B.named
  subst hsz
  rw [lg_entry_eq]
  refine body ((p, l, e, rm, s, m), (av.toArray, below, meth, c), (D, cy, gA V s.heap.size, MQ below (gQc D cy (gA V s.heap.size) Po) av.toArray s rm.cells rm.slots (gA V s.heap.size), nL)) ⟨rfl, rfl, rfl, (name_of_methodNamed B.named B.method).1⟩ ⟨B.exec, B.bytes, hml, hown, fun w hw => hts w (List.mem_cons_of_mem _ hw), B.returns, B.notSynchronized, hK, fun q hq => Or.inr hq, rfl, rfl⟩ rfl s.heap [] _ hP (gW_self hD0) va_S.rf (lv_entry av hav)
section GR
variable {X : gX} {V : gV} {cells slots pc : Nat} {lv : List (Nat × Value)} {I : gI} {J : gL} {cc : ByteArray} {own : String} {ret : Option FieldType} {nL0 : Nat} {R0 : Room} {Po : gPo}
theorem j_iret (C : gC X cc own (some .int) nL0 R0) (hR : gR X Po) {x : Int32} (hc : cells ≤ R0.cells) (hs : slots ≤ R0.slots) (hd : decode cc pc = .ok (.ireturn, 1)) (h : Po (some (.int x)) V I J) : gJ X V cells slots pc lv [.int x] I J := by
  obtain ⟨⟨p, l, e, R, s, m⟩, ⟨args, below, meth, c⟩, ⟨D, cy, A, Q, nL⟩⟩ := X
  obtain ⟨hx, hb, hml, hown, hts, hr, hlk, hK, hA, hnL, hR0⟩ := C
  intro H locs ls hP hD hS hl
  subst hR0
  obtain rfl : Q = _ := hR
  refine W.widen hc hs ?_
  exact W.iret hx hb hr (fun t ht hW => ⟨_, V, I, J, rfl, h, by rw [ht]; exact hP, hD, hS.F ht⟩) hS.2.2 hd hlk
theorem j_zret (C : gC X cc own (some .boolean) nL0 R0) (hR : gR X Po) {x : Int32} (hx01 : x = 0 ∨ x = 1) (hc : cells ≤ R0.cells) (hs : slots ≤ R0.slots) (hd : decode cc pc = .ok (.ireturn, 1)) (h : Po (some (.int x)) V I J) : gJ X V cells slots pc lv [.int x] I J := by
  obtain ⟨⟨p, l, e, R, s, m⟩, ⟨args, below, meth, c⟩, ⟨D, cy, A, Q, nL⟩⟩ := X
  obtain ⟨hx, hb, hml, hown, hts, hr, hlk, hK, hA, hnL, hR0⟩ := C
  intro H locs ls hP hD hS hl
  subst hR0
  obtain rfl : Q = _ := hR
  refine W.widen hc hs ?_
  exact W.zret hx hb hr (by rcases hx01 with rfl | rfl <;> rfl) (fun t ht hW => ⟨_, V, I, J, rfl, h, by rw [ht]; exact hP, hD, hS.F ht⟩) hS.2.2 hd hlk
theorem j_lret (C : gC X cc own (some .long) nL0 R0) (hR : gR X Po) {x : Int64} (hc : cells ≤ R0.cells) (hs : slots ≤ R0.slots) (hd : decode cc pc = .ok (.lreturn, 1)) (h : Po (some (.long x)) V I J) : gJ X V cells slots pc lv [.long x] I J := by
  obtain ⟨⟨p, l, e, R, s, m⟩, ⟨args, below, meth, c⟩, ⟨D, cy, A, Q, nL⟩⟩ := X
  obtain ⟨hx, hb, hml, hown, hts, hr, hlk, hK, hA, hnL, hR0⟩ := C
  intro H locs ls hP hD hS hl
  subst hR0
  obtain rfl : Q = _ := hR
  refine W.widen hc hs ?_
  exact W.lret hx hb hr (fun t ht hW => ⟨_, V, I, J, rfl, h, by rw [ht]; exact hP, hD, hS.F ht⟩) hS.2.2 hd hlk
theorem j_vret (C : gC X cc own none nL0 R0) (hR : gR X Po) (hc : cells ≤ R0.cells) (hs : slots ≤ R0.slots) (hd : decode cc pc = .ok (.return_, 1)) (h : Po none V I J) : gJ X V cells slots pc lv [] I J := by
  obtain ⟨⟨p, l, e, R, s, m⟩, ⟨args, below, meth, c⟩, ⟨D, cy, A, Q, nL⟩⟩ := X
  obtain ⟨hx, hb, hml, hown, hts, hr, hlk, hK, hA, hnL, hR0⟩ := C
  intro H locs ls hP hD hS hl
  subst hR0
  obtain rfl : Q = _ := hR
  refine W.widen hc hs ?_
  exact W.vret hx hb hr (fun t ht hW => ⟨_, V, I, J, rfl, h, by rw [ht]; exact hP, hD, hS.F ht⟩) hS.2.2 hd hlk
theorem j_aret {n : String} (C : gC X cc own (some (.object n)) nL0 R0) (hR : gR X Po) {a : Nat} (hc : cells ≤ R0.cells) (hs : slots ≤ R0.slots) (hd : decode cc pc = .ok (.areturn, 1)) (h : Po (some (.ref a)) V I J) : gJ X V cells slots pc lv [.ref a] I J := by
  obtain ⟨⟨p, l, e, R, s, m⟩, ⟨args, below, meth, c⟩, ⟨D, cy, A, Q, nL⟩⟩ := X
  obtain ⟨hx, hb, hml, hown, hts, hr, hlk, hK, hA, hnL, hR0⟩ := C
  intro H locs ls hP hD hS hl
  subst hR0
  obtain rfl : Q = _ := hR
  refine W.widen hc hs ?_
  exact W.aret hx hb hr (Or.inl ⟨n, rfl⟩) (Or.inr ⟨a, rfl⟩) (fun t ht hW => ⟨_, V, I, J, rfl, h, by rw [ht]; exact hP, hD, hS.F ht⟩) hS.2.2 hd hlk
end GR
/-- what the tables say of a method that is called -/
def gOk (y : MethodName) (bytes : ByteArray) (maxL : Nat) (ret : Option FieldType) (n : Nat) : Prop := Cond.code y bytes maxL ret ∈ gWd ∧ Cond.initialized y.cls ∈ gWd ∧ (y.cls ≠ "java/lang/invoke/MethodHandle" ∧ y.cls ≠ "java/lang/invoke/VarHandle" ∧ (parseMethodDescriptor y.desc).map (fun d => d.parameters.length) = some n)
section GC
variable {p : Program} {l : Launch} {e : Env} {R : Room} {s : State} {m : MethodId} {args : Array Value} {below : List Frame} {meth : Method} {c : Code} {D : va_G} {cy : Nat → ClassId} {A : Nat → Prop} {Q : State → Prop} {nL : Nat} {V : gV} {cells slots pc : Nat} {lv : List (Nat × Value)} {I : gI} {J : gL}
/-- behind a call -/
theorem gRun_go {st stk : List Value} {mc ms : Nat} {Po : gPo} {H : Heap} {locs : List Loc} {ls : Array Slot} {a : Array Value} (hr : va_Run p l e R s m args below meth c H locs cells slots mc ms (F0 m pc ls stk) st (gQc D cy (gA V H.size) Po a) (gA V H.size)) (hD : va_D A (gW cy V I J)) (hS : va_S A s.heap H locs) (hA : ∀ q : Nat, s.heap.size ≤ q → A q) (hl : lv_has ls nL lv)
    (k : ∀ (r : Option Value) (V' : gV) (I' : gI) (J' : gL), Po r V' I' J' → gJ ((p, l, e, R, s, m), (args, below, meth, c), (D, cy, A, Q, nL)) V' (cells + mc) (slots + ms) (pc + 3) lv (r.toList ++ st) I' J') : W p l e R s m args below meth c H locs cells slots Q (F0 m pc ls stk) := by
  intro T hT Xs
  obtain ⟨v, st₀, t, T', L, h0, X', hL, e1, e2, ⟨r, V', I', J', hv, hp, hP', hD', hF⟩, go⟩ := hr T hT Xs
  cases hv
  have hfree : ∀ q, gA V H.size q → A q := by
    intro q hq
    rcases hq with ⟨k, hk, rfl⟩ | hq
    · exact gW_A hD hk
    · exact hA q (Nat.le_trans hS.1 hq)
  obtain ⟨hz, hk2⟩ := hF
  rw [h0] at hz hk2
  obtain ⟨t2, a1, b1⟩ := k v V' I' J' hp T'.heap (locs ++ L) ls (by rw [e1]; exact hP') (hD'.weaken (fun _ q _ h => hfree _ h))
    ⟨Nat.le_trans hS.1 (by rw [e1]; exact hz), fun q h1 h2 => by rw [e1, hk2 q (Nat.lt_of_lt_of_le h1 hS.1) (fun z => h2 (hfree q z))]; exact hS.2.1 q h1 h2, fun q hq => by
      rcases List.mem_append.mp hq with h | h
      · exact hS.2.2 q h
      · exact hfree _ (hL q h)⟩ hl T' rfl X'
  exact ⟨t2, go t2 a1, b1⟩
theorem gPre {H : Heap} {av : List Value} (hK : gK D cy s) (hP : va_P D vwCl (gW cy V I J) H) (hD : va_D A (gW cy V I J)) : PreS s H (va_Pc av (gB D cy V I J H.size)) av :=
  ⟨fun a U g mk q => by
      obtain ⟨q0, q1, qP, qK, qD⟩ := q
      exact ⟨q0, q1, qP, ⟨va_K.moved (u := U) (U := U.calling g mk a) (Vm.Alike.refl U.vm) qK.1, gNw_same rfl qK.2⟩, qD⟩,
    fun U hU hW => ⟨rfl, by rw [hU], by rw [hU]; exact hP, gK_warm hW hK, hD.weaken (fun _ _ _ _ => trivial)⟩⟩
end GC
section GK
variable {X : gX} {V : gV} {cells slots pc : Nat} {lv : List (Nat × Value)} {I : gI} {J : gL} {cc : ByteArray} {own : String} {ret : Option FieldType} {nL0 : Nat} {R0 : Room}
theorem j_callV (C : gC X cc own ret nL0 R0) {l : Launch} {D : va_G} {cy : Nat → ClassId} {nm : String} (hX : gIs X l D cy nm) {y : MethodName} {bytes : ByteArray} {maxL n index ci : Nat} {rt : Option FieldType} {rm : Room} {As st stk : List Value} {Po : gPo} {Cn : String} {T : u_T} {N : Nat} {sl : List (Nat ⊕ Option Nat)} (k : Nat) (hM : gMet l D cy y bytes maxL rt rm V (.ref (V.2.1 k) :: As) I J Po)
    (hk : k ∈ V.1) (hde : V.2.2 k = .inl (ci, sl)) (hc : vwCl[ci]? = some (Cn, T, N)) (hok : gOk y bytes maxL rt n) (hlink : Cond.methodLink own index y ∈ gWd) (hinst : Cond.instanceMethod y ∈ gWd) (hsel : Cond.selects Cn y y ∈ gWd) (hR : rm.frames + 1 ≤ R0.frames ∧ 8 + (maxL + 11) + rm.locals ≤ R0.locals) (hn : As.length = n) (hstk : stk = As.reverse ++ .ref (V.2.1 k) :: st) (hst : (st.map fun v => v.category).sum ≤ 8) (hf : cells + rm.cells ≤ R0.cells ∧ slots + rm.slots ≤ R0.slots) (hd : decode cc pc = .ok (.invokevirtual index, 3))
    (kk : ∀ (r : Option Value) (V' : gV) (I' : gI) (J' : gL), Po r V' I' J' → gJ X V' (cells + rm.cells) (slots + rm.slots) (pc + 3) lv (r.toList ++ st) I' J') : gJ X V cells slots pc lv stk I J := by
  obtain ⟨⟨p, l', e, R, s, m⟩, ⟨args, below, meth, c⟩, ⟨D', cy', A, Q, nL⟩⟩ := X
  obtain ⟨hx, hb, hml, hown, hts, hr, hlk, hK, hA, hnL, hR0⟩ := C
  obtain ⟨rfl, rfl, rfl, -⟩ := hX
  intro H locs ls hP hD hS hl
  subst hstk
  subst hR0
  obtain ⟨q0, h0, h1⟩ := gW_at (cy := cy') (I := I) (J := J) hk
  rw [hde] at h1
  have hpre := gPre (av := .ref (V.2.1 k) :: As) hK hP hD
  refine gRun_go (va_runV (cc := cc) (nL := nL) (C := Cn) (b := V.2.1 k) (As := As) (rest := st) (g := F0 m pc ls (As.reverse ++ .ref (V.2.1 k) :: st)) ⟨hx, hb, hml, hown, fun w hw => hts w hw⟩ (hM H.size) ⟨callB_of n (Ts := gWd) hts (fun w hw => ?_) rfl rfl rfl (hts _ hok.2.1) (hts _ hlink) hok.2.2 hR, hts _ hinst, hts _ hsel⟩ ⟨hpre.1, va_recv hK.1 hP hc h1, hpre.2⟩ rfl hn hl.1 rfl (lv_room hst) hd hf) hD hS hA hl kk
  have hw' : w ∈ gWd := by
    rcases List.mem_cons.mp hw with h | h
    · rw [h]; exact hok.1
    · exact h
  exact ⟨hw', good_of_word (List.mem_filter.mp hw').2⟩
theorem j_callS (C : gC X cc own ret nL0 R0) {l : Launch} {D : va_G} {cy : Nat → ClassId} {nm : String} (hX : gIs X l D cy nm) {y : MethodName} {bytes : ByteArray} {maxL n index : Nat} {rt : Option FieldType} {rm : Room} {As st stk : List Value} {Po : gPo} (hM : gMet l D cy y bytes maxL rt rm V As I J Po)
    (hok : gOk y bytes maxL rt n) (hlink : Cond.methodLink own index y ∈ gWd) (hstat : Cond.static y ∈ gWd) (hR : rm.frames + 1 ≤ R0.frames ∧ 8 + (maxL + 11) + rm.locals ≤ R0.locals) (hn : As.length = n) (hstk : stk = As.reverse ++ st) (hst : (st.map fun v => v.category).sum ≤ 8) (hf : cells + rm.cells ≤ R0.cells ∧ slots + rm.slots ≤ R0.slots) (hd : decode cc pc = .ok (.invokestatic index, 3))
    (kk : ∀ (r : Option Value) (V' : gV) (I' : gI) (J' : gL), Po r V' I' J' → gJ X V' (cells + rm.cells) (slots + rm.slots) (pc + 3) lv (r.toList ++ st) I' J') : gJ X V cells slots pc lv stk I J := by
  obtain ⟨⟨p, l', e, R, s, m⟩, ⟨args, below, meth, c⟩, ⟨D', cy', A, Q, nL⟩⟩ := X
  obtain ⟨hx, hb, hml, hown, hts, hr, hlk, hK, hA, hnL, hR0⟩ := C
  obtain ⟨rfl, rfl, rfl, -⟩ := hX
  intro H locs ls hP hD hS hl
  subst hstk
  subst hR0
  have hpre := gPre (av := As) hK hP hD
  refine gRun_go (va_runS (cc := cc) (nL := nL) (As := As) (rest := st) (g := F0 m pc ls (As.reverse ++ st)) ⟨hx, hb, hml, hown, fun w hw => hts w hw⟩ (hM H.size) ⟨callB_of n (Ts := gWd) hts (fun w hw => ?_) rfl rfl rfl (hts _ hok.2.1) (hts _ hlink) hok.2.2 hR, hts _ hstat⟩ hpre rfl hn hl.1 rfl (lv_room hst) hd hf) hD hS hA hl kk
  have hw' : w ∈ gWd := by
    rcases List.mem_cons.mp hw with h | h
    · rw [h]; exact hok.1
    · exact h
  exact ⟨hw', good_of_word (List.mem_filter.mp hw').2⟩
theorem j_callI (C : gC X cc own ret nL0 R0) {l : Launch} {D : va_G} {cy : Nat → ClassId} {nm : String} (hX : gIs X l D cy nm) {y : MethodName} {bytes : ByteArray} {maxL n index b : Nat} {rm : Room} {As st stk : List Value} {Po : gPo} (hM : gMet l D cy y bytes maxL none rm V (.ref b :: As) I J Po)
    (hok : gOk y bytes maxL none n) (hlink : Cond.methodLink own index y ∈ gWd) (hinst : Cond.instanceMethod y ∈ gWd) (hy : y.name = "<init>") (hR : rm.frames + 1 ≤ R0.frames ∧ 8 + (maxL + 11) + rm.locals ≤ R0.locals) (hn : As.length = n) (hstk : stk = As.reverse ++ .ref b :: st) (hst : (st.map fun v => v.category).sum ≤ 8) (hf : cells + rm.cells ≤ R0.cells ∧ slots + rm.slots ≤ R0.slots) (hd : decode cc pc = .ok (.invokespecial index, 3))
    (kk : ∀ (r : Option Value) (V' : gV) (I' : gI) (J' : gL), Po r V' I' J' → gJ X V' (cells + rm.cells) (slots + rm.slots) (pc + 3) lv (r.toList ++ st) I' J') : gJ X V cells slots pc lv stk I J := by
  obtain ⟨⟨p, l', e, R, s, m⟩, ⟨args, below, meth, c⟩, ⟨D', cy', A, Q, nL⟩⟩ := X
  obtain ⟨hx, hb, hml, hown, hts, hr, hlk, hK, hA, hnL, hR0⟩ := C
  obtain ⟨rfl, rfl, rfl, -⟩ := hX
  intro H locs ls hP hD hS hl
  subst hstk
  subst hR0
  have hpre := gPre (av := .ref b :: As) hK hP hD
  refine gRun_go (va_runI (cc := cc) (nL := nL) (b := b) (As := As) (rest := st) (g := F0 m pc ls (As.reverse ++ .ref b :: st)) ⟨hx, hb, hml, hown, fun w hw => hts w hw⟩ (hM H.size) ⟨callB_of n (Ts := gWd) hts (fun w hw => ?_) rfl rfl rfl (hts _ hok.2.1) (hts _ hlink) hok.2.2 hR, hy, hts _ hinst⟩ hpre rfl hn hl.1 rfl (lv_room hst) hd hf) hD hS hA hl kk
  have hw' : w ∈ gWd := by
    rcases List.mem_cons.mp hw with h | h
    · rw [h]; exact hok.1
    · exact h
  exact ⟨hw', good_of_word (List.mem_filter.mp hw').2⟩
theorem j_callSN (C : gC X cc own ret nL0 R0) {l : Launch} {D : va_G} {cy : Nat → ClassId} {nm : String} (hX : gIs X l D cy nm) {y : MethodName} {bytes : ByteArray} {maxL n index : Nat} {host : String} {rt : Option FieldType} {rm : Room} {As st stk : List Value} {Po : gPo} (hM : gMet l D cy y bytes maxL rt rm V As I J Po)
    (hok : gOk y bytes maxL rt n) (hlink : ∀ U : State, gNw U → va_Nw (.methodLinkNest own index y host) U) (hstat : Cond.static y ∈ gWd) (hR : rm.frames + 1 ≤ R0.frames ∧ 8 + (maxL + 11) + rm.locals ≤ R0.locals) (hn : As.length = n) (hstk : stk = As.reverse ++ st) (hst : (st.map fun v => v.category).sum ≤ 8) (hf : cells + rm.cells ≤ R0.cells ∧ slots + rm.slots ≤ R0.slots) (hd : decode cc pc = .ok (.invokestatic index, 3))
    (kk : ∀ (r : Option Value) (V' : gV) (I' : gI) (J' : gL), Po r V' I' J' → gJ X V' (cells + rm.cells) (slots + rm.slots) (pc + 3) lv (r.toList ++ st) I' J') : gJ X V cells slots pc lv stk I J := by
  obtain ⟨⟨p, l', e, R, s, m⟩, ⟨args, below, meth, c⟩, ⟨D', cy', A, Q, nL⟩⟩ := X
  obtain ⟨hx, hb, hml, hown, hts, hr, hlk, hK, hA, hnL, hR0⟩ := C
  obtain ⟨rfl, rfl, rfl, -⟩ := hX
  intro H locs ls hP hD hS hl
  subst hstk
  subst hR0
  have hpre := gPre (av := As) hK hP hD
  refine gRun_go (va_runSN (cc := cc) (nL := nL) (As := As) (rest := st) (host := host) (g := F0 m pc ls (As.reverse ++ st)) ⟨hx, hb, hml, hown, fun w hw => hts w hw⟩ (hM H.size) ⟨va_cnB n (Ts := gWd) hts (fun w hw => ?_) rfl rfl rfl (hlink _ hK.2) (hts _ hok.2.1) hok.2.2 hR, hts _ hstat, trivial⟩ hpre rfl hn hl.1 rfl (lv_room hst) hd hf) hD hS hA hl kk
  have hw' : w ∈ gWd := by
    rcases List.mem_cons.mp hw with h | h
    · rw [h]; exact hok.1
    · exact h
  exact ⟨hw', good_of_word (List.mem_filter.mp hw').2⟩
theorem j_callIN (C : gC X cc own ret nL0 R0) {l : Launch} {D : va_G} {cy : Nat → ClassId} {nm : String} (hX : gIs X l D cy nm) {y : MethodName} {bytes : ByteArray} {maxL n index b : Nat} {host : String} {rm : Room} {As st stk : List Value} {Po : gPo} (hM : gMet l D cy y bytes maxL none rm V (.ref b :: As) I J Po)
    (hok : gOk y bytes maxL none n) (hlink : ∀ U : State, gNw U → va_Nw (.methodLinkNest own index y host) U) (hinst : Cond.instanceMethod y ∈ gWd) (hy : y.name = "<init>") (hR : rm.frames + 1 ≤ R0.frames ∧ 8 + (maxL + 11) + rm.locals ≤ R0.locals) (hn : As.length = n) (hstk : stk = As.reverse ++ .ref b :: st) (hst : (st.map fun v => v.category).sum ≤ 8) (hf : cells + rm.cells ≤ R0.cells ∧ slots + rm.slots ≤ R0.slots) (hd : decode cc pc = .ok (.invokespecial index, 3))
    (kk : ∀ (r : Option Value) (V' : gV) (I' : gI) (J' : gL), Po r V' I' J' → gJ X V' (cells + rm.cells) (slots + rm.slots) (pc + 3) lv (r.toList ++ st) I' J') : gJ X V cells slots pc lv stk I J := by
  obtain ⟨⟨p, l', e, R, s, m⟩, ⟨args, below, meth, c⟩, ⟨D', cy', A, Q, nL⟩⟩ := X
  obtain ⟨hx, hb, hml, hown, hts, hr, hlk, hK, hA, hnL, hR0⟩ := C
  obtain ⟨rfl, rfl, rfl, -⟩ := hX
  intro H locs ls hP hD hS hl
  subst hstk
  subst hR0
  have hpre := gPre (av := .ref b :: As) hK hP hD
  refine gRun_go (va_runIN (cc := cc) (nL := nL) (b := b) (As := As) (rest := st) (host := host) (g := F0 m pc ls (As.reverse ++ .ref b :: st)) ⟨hx, hb, hml, hown, fun w hw => hts w hw⟩ (hM H.size) ⟨va_cnB n (Ts := gWd) hts (fun w hw => ?_) rfl rfl rfl (hlink _ hK.2) (hts _ hok.2.1) hok.2.2 hR, hy, hts _ hinst⟩ hpre rfl hn hl.1 rfl (lv_room hst) hd hf) hD hS hA hl kk
  have hw' : w ∈ gWd := by
    rcases List.mem_cons.mp hw with h | h
    · rw [h]; exact hok.1
    · exact h
  exact ⟨hw', good_of_word (List.mem_filter.mp hw').2⟩
end GK
