/-! THE CLAIM OUT OF ONE WALK OF THE LAW'S BODY. Your part is whole_start (and what it stands on); all else here is the same for every law, but numbers. -/
def R_law : String := "TileRulesLaw"
def lw_P (b : Addr) (xs : List Int32) (args : Array Value) (s : State) : Prop := args = #[.ref b] ∧ s.IntsAt b xs ∧ xs.length ≤ 3072 ∧ (Jvm.Cond.and given_1 narrow_1).before args s = true
def lw_Q (_ : Array Value) (s : State) (o : Outcome) (t : State) : Prop := o = .returned (some (.int 1)) ∧ Framed s o t [] 600000 7302250
def lw_Z (below : List Frame) (a : Array Value) (s : State) : State → Prop := fun t => ∃ o, t.status = .running ∧ Ended t below o ∧ lw_Q a s o t
/-- the law's own end, with 1 on the stack, nothing written that was there before, its room as the claim has it -/
theorem lw_ret {p : Program} {l : Launch} {e : Env} {s : State} {m : MethodId} {below : List Frame} {meth : Method} {c : Code} {b : Nat} (hx : p.tables.exec = Jvm.exec) (hb : c.code = code) (hr : meth.sig.returnType = ret) (hlocks : meth.locks = false) {pc : Nat} {H : Heap} {ls : Array Slot} (hdg : decode code pc = .ok (.ireturn, 1)) : W p l e room_1 s m #[Value.ref b] below meth c H [] 600000 7302250 (lw_Z below #[Value.ref b] s) (F0 m pc ls [.int 1]) := by
  intro T hT X
  obtain ⟨fs, hret, hrun, hended, hW, hframe⟩ := X.leave (v := some (.int 1)) (hlocks := hlocks) (fun h => by rw [hr] at h; cases h)
  have hmeth' : T.vm.method? m = some meth := X.method'
  refine ⟨T.setFrames fs, ?_, .returned (some (.int 1)), hrun, hended, rfl, ⟨_, rfl⟩, hW, hframe⟩
  jvm_step X.here [X.here.top, hx, hb, hdg, hmeth', hr, ret, narrow_b1]
  (try refine ⟨rfl, ?_⟩); (try refine ⟨rfl, ?_⟩)
  first | (intro acts; rw [hret _ acts rfl rfl rfl]) | rw [hret _ _ rfl rfl rfl]
  exact Steps.refl _
/-- what holds at the law's entry: the machine, the code, the tables' words (any of lw_tbl by 'hts w (by decide +kernel)'), the script of L ints xs at the cell b, what the Statement gives of the start (any of its parts by flat_of_before) -/
def lw_At (p : Program) (s : State) (m : MethodId) (meth : Method) (c : Code) (b L : Nat) (xs : Nat → Int32) : Prop :=
  p.tables.exec = Jvm.exec ∧ c.code = code ∧ meth.sig.returnType = ret ∧ c.maxLocals = 4 ∧ s.vm.findClass R_law = some m.cls ∧ (∀ w ∈ lw_tbl, w.before #[Value.ref b] s = true) ∧ va_X b L xs s s.heap ∧ b < s.heap.size ∧ meth.locks = false ∧ (Jvm.Cond.and given_1 narrow_1).before #[Value.ref b] s = true

/-! the law's own: the script, its end -/
def gLw (X : gX) (b L : Nat) (xs : Nat → Int32) : Prop := match X with
  | ((_, _, _, R, s, _), (args, below, _, _), (_, _, A, Q, _)) => args = #[Value.ref b] ∧ va_X b L xs s s.heap ∧ b < s.heap.size ∧ A = (fun q : Nat => s.heap.size ≤ q) ∧ Q = lw_Z below #[Value.ref b] s ∧ R = room_1
section GLW
variable {X : gX} {V : gV} {cells slots pc : Nat} {lv : List (Nat × Value)} {st : List Value} {I : gI} {J : gL} {cc : ByteArray} {own : String} {rt : Option FieldType} {nL0 : Nat} {R0 : Room} {b L : Nat} {xs : Nat → Int32}
theorem j_sld (C : gC X cc own rt nL0 R0) (hS0 : gLw X b L xs) {i : Int32} (hin : vp_in i L) (hd : decode cc pc = .ok (.iaload, 1)) (k : gJ X V cells slots (pc + 1) lv (.int (xs i.toNatClampNeg) :: st) I J) : gJ X V cells slots pc lv (.int i :: .ref b :: st) I J := by
  obtain ⟨⟨p, l, e, R, s, m⟩, ⟨args, below, meth, c⟩, ⟨D, cy, A, Q, nL⟩⟩ := X
  obtain ⟨hx, hb, hml, hown, hts, hr, hlk, hK, hA, hnL, hR0⟩ := C
  obtain ⟨-, hX, hbl, rfl, -, -⟩ := hS0
  intro H locs ls hP hD hS hl
  exact va_sld hx hb hX hbl (Nat.not_le.mpr hbl) hS hin hd (k H locs ls hP hD hS hl)
theorem j_slen (C : gC X cc own rt nL0 R0) (hS0 : gLw X b L xs) (hd : decode cc pc = .ok (.arraylength, 1)) (k : gJ X V cells slots (pc + 1) lv (.int (Int32.ofNat L) :: st) I J) : gJ X V cells slots pc lv (.ref b :: st) I J := by
  obtain ⟨⟨p, l, e, R, s, m⟩, ⟨args, below, meth, c⟩, ⟨D, cy, A, Q, nL⟩⟩ := X
  obtain ⟨hx, hb, hml, hown, hts, hr, hlk, hK, hA, hnL, hR0⟩ := C
  obtain ⟨-, hX, hbl, rfl, -, -⟩ := hS0
  intro H locs ls hP hD hS hl
  exact va_slen hx hb hX hbl (Nat.not_le.mpr hbl) hS hd (k H locs ls hP hD hS hl)
theorem j_lawret (C : gC X code own ret nL0 R0) (hS0 : gLw X b L xs) (hc : cells ≤ 600000) (hs : slots ≤ 7302250) (hd : decode code pc = .ok (.ireturn, 1)) : gJ X V cells slots pc lv [.int 1] I J := by
  obtain ⟨⟨p, l, e, R, s, m⟩, ⟨args, below, meth, c⟩, ⟨D, cy, A, Q, nL⟩⟩ := X
  obtain ⟨hx, hb, hml, hown, hts, hr, hlk, hK, hA, hnL, hR0⟩ := C
  obtain ⟨rfl, hX, hbl, rfl, rfl, rfl⟩ := hS0
  intro H locs ls hP hD hS hl
  refine va_forget (fun q hq => hS.2.2 q hq) ?_
  refine W.widen hc hs ?_
  exact lw_ret hx hb hr hlk hd
end GLW
def wA_L_law_1128 (L : Nat) (xs : Nat → Int32) (Po : Unit) (K18 : Int32 → gV → Nat → Nat → gI → gL → Prop) (v1 : Nat) (v2 : Nat) (v3 : Int32) (V : gV) (c s : Nat) (I : gI) (J : gL) : Prop :=
  ∀ n32 : Int32, n32 = v3 + 6 → K18 n32 V c s I J
def wA_L_law_160 (L : Nat) (xs : Nat → Int32) (Po : Unit) (K18 : Int32 → gV → Nat → Nat → gI → gL → Prop) (v1 : Nat) (v2 : Nat) (v3 : Int32) (V : gV) (c s : Nat) (I : gI) (J : gL) : Prop :=
  vp_in (v3 + (1 : Int32)) L ∧ vp_in (v3 + (2 : Int32)) L ∧ vp_in (v3 + (3 : Int32)) L ∧ vp_in (v3 + (4 : Int32)) L ∧ ∃ (pr pc pg : Option Nat), gModT pr pc pg V ∧ gModTS V ∧ V.2.1 0 = v1 ∧ wp_X9_tile (xs ((v3 + (1 : Int32))).toNatClampNeg) (xs ((v3 + (2 : Int32))).toNatClampNeg) (xs ((v3 + (3 : Int32))).toNatClampNeg) (xs ((v3 + (4 : Int32))).toNatClampNeg) I (fun r37 I38 => vp_in (v3 + (1 : Int32)) L ∧ vp_in (v3 + (2 : Int32)) L ∧ vp_in (v3 + (3 : Int32)) L ∧ vp_in (v3 + (4 : Int32)) L ∧ gModM V ∧ V.2.1 200 = v2 ∧ wp_X10_tile (xs ((v3 + (1 : Int32))).toNatClampNeg) (xs ((v3 + (2 : Int32))).toNatClampNeg) (xs ((v3 + (3 : Int32))).toNatClampNeg) (xs ((v3 + (4 : Int32))).toNatClampNeg) I38 (fun r44 I45 => (r37 = r44 → wA_L_law_1128 L xs Po K18 v1 v2 v3 V c s I45 J) ∧ (¬ r37 = r44 → False)))
def wA_L_law_213 (L : Nat) (xs : Nat → Int32) (Po : Unit) (K18 : Int32 → gV → Nat → Nat → gI → gL → Prop) (v1 : Nat) (v2 : Nat) (v3 : Int32) (V : gV) (c s : Nat) (I : gI) (J : gL) : Prop :=
  ∃ (pr pc pg : Option Nat), gModT pr pc pg V ∧ gModTS V ∧ V.2.1 0 = v1 ∧ wp_X9_untile I (fun r48 I49 => gModM V ∧ V.2.1 200 = v2 ∧ wp_X10_untile I49 (fun r51 I52 => (r48 = r51 → wA_L_law_1128 L xs Po K18 v1 v2 v3 V c s I52 J) ∧ (¬ r48 = r51 → False)))
def wA_L_law_277 (L : Nat) (xs : Nat → Int32) (Po : Unit) (K18 : Int32 → gV → Nat → Nat → gI → gL → Prop) (v1 : Nat) (v2 : Nat) (v3 : Int32) (s0 : Int32) (s1 : Int32) (s2 : Int32) (s3 : Nat) (s4 : Int64) (V : gV) (c s : Nat) (I : gI) (J : gL) : Prop :=
  gModM V ∧ V.2.1 200 = s3 ∧ wp_X10_fillings s2 s1 s0 I J (fun r75 I76 J77 => ((lg_cmp s4 r75) = 0 → wA_L_law_1128 L xs Po K18 v1 v2 v3 V c s I76 J77) ∧ (¬ (lg_cmp s4 r75) = 0 → False))
def wA_L_law_250 (L : Nat) (xs : Nat → Int32) (Po : Unit) (K18 : Int32 → gV → Nat → Nat → gI → gL → Prop) (v1 : Nat) (v2 : Nat) (v3 : Int32) (s0 : Int32) (s1 : Int32) (s2 : Int32) (s3 : Nat) (V : gV) (c s : Nat) (I : gI) (J : gL) : Prop :=
  ∃ (sl70 : List (Nat ⊕ Option Nat)) (m60 m61 : Nat), 0 ∈ V.1 ∧ V.2.1 0 = s3 ∧ V.2.2 0 = .inl (9, sl70) ∧ c + m60 ≤ 600000 ∧ s + m61 ≤ 7302250 ∧ wA_X9_fillings m60 m61  s3 s2 s1 s0 V I J (fun r59 V64 I65 J66 => vp_in (v3 + (1 : Int32)) L ∧ vp_in (v3 + (2 : Int32)) L ∧ vp_in (v3 + (3 : Int32)) L ∧ ((xs ((v3 + (3 : Int32))).toNatClampNeg) = 0 → wA_L_law_277 L xs Po K18 v1 v2 v3 (0 : Int32) (xs ((v3 + (2 : Int32))).toNatClampNeg) (xs ((v3 + (1 : Int32))).toNatClampNeg) v2 r59 V64 (c + m60) (s + m61) I65 J66) ∧ (¬ (xs ((v3 + (3 : Int32))).toNatClampNeg) = 0 → wA_L_law_277 L xs Po K18 v1 v2 v3 (1 : Int32) (xs ((v3 + (2 : Int32))).toNatClampNeg) (xs ((v3 + (1 : Int32))).toNatClampNeg) v2 r59 V64 (c + m60) (s + m61) I65 J66))
def wA_L_law_226 (L : Nat) (xs : Nat → Int32) (Po : Unit) (K18 : Int32 → gV → Nat → Nat → gI → gL → Prop) (v1 : Nat) (v2 : Nat) (v3 : Int32) (V : gV) (c s : Nat) (I : gI) (J : gL) : Prop :=
  vp_in (v3 + (1 : Int32)) L ∧ vp_in (v3 + (2 : Int32)) L ∧ vp_in (v3 + (3 : Int32)) L ∧ ((xs ((v3 + (3 : Int32))).toNatClampNeg) = 0 → wA_L_law_250 L xs Po K18 v1 v2 v3 (0 : Int32) (xs ((v3 + (2 : Int32))).toNatClampNeg) (xs ((v3 + (1 : Int32))).toNatClampNeg) v1 V c s I J) ∧ (¬ (xs ((v3 + (3 : Int32))).toNatClampNeg) = 0 → wA_L_law_250 L xs Po K18 v1 v2 v3 (1 : Int32) (xs ((v3 + (2 : Int32))).toNatClampNeg) (xs ((v3 + (1 : Int32))).toNatClampNeg) v1 V c s I J)
def wA_L_law_347 (L : Nat) (xs : Nat → Int32) (Po : Unit) (K18 : Int32 → gV → Nat → Nat → gI → gL → Prop) (v1 : Nat) (v2 : Nat) (v3 : Int32) (s0 : Int32) (s1 : Int32) (s2 : Int32) (s3 : Nat) (s4 : Int32) (V : gV) (c s : Nat) (I : gI) (J : gL) : Prop :=
  vp_in (v3 + (4 : Int32)) L ∧ vp_in (v3 + (5 : Int32)) L ∧ gModM V ∧ V.2.1 200 = s3 ∧ wp_X10_laid s2 s1 s0 (xs ((v3 + (4 : Int32))).toNatClampNeg) (xs ((v3 + (5 : Int32))).toNatClampNeg) I J (fun r104 I105 J106 => (s4 = r104 → wA_L_law_1128 L xs Po K18 v1 v2 v3 V c s I105 J106) ∧ (¬ s4 = r104 → False))
def wA_L_law_310 (L : Nat) (xs : Nat → Int32) (Po : Unit) (K18 : Int32 → gV → Nat → Nat → gI → gL → Prop) (v1 : Nat) (v2 : Nat) (v3 : Int32) (s0 : Int32) (s1 : Int32) (s2 : Int32) (s3 : Nat) (V : gV) (c s : Nat) (I : gI) (J : gL) : Prop :=
  vp_in (v3 + (4 : Int32)) L ∧ vp_in (v3 + (5 : Int32)) L ∧ ∃ (sl97 : List (Nat ⊕ Option Nat)) (m87 m88 : Nat), 0 ∈ V.1 ∧ V.2.1 0 = s3 ∧ V.2.2 0 = .inl (9, sl97) ∧ c + m87 ≤ 600000 ∧ s + m88 ≤ 7302250 ∧ wA_X9_laid m87 m88  s3 s2 s1 s0 (xs ((v3 + (4 : Int32))).toNatClampNeg) (xs ((v3 + (5 : Int32))).toNatClampNeg) V I J (fun r86 V91 I92 J93 => vp_in (v3 + (1 : Int32)) L ∧ vp_in (v3 + (2 : Int32)) L ∧ vp_in (v3 + (3 : Int32)) L ∧ ((xs ((v3 + (3 : Int32))).toNatClampNeg) = 0 → wA_L_law_347 L xs Po K18 v1 v2 v3 (0 : Int32) (xs ((v3 + (2 : Int32))).toNatClampNeg) (xs ((v3 + (1 : Int32))).toNatClampNeg) v2 r86 V91 (c + m87) (s + m88) I92 J93) ∧ (¬ (xs ((v3 + (3 : Int32))).toNatClampNeg) = 0 → wA_L_law_347 L xs Po K18 v1 v2 v3 (1 : Int32) (xs ((v3 + (2 : Int32))).toNatClampNeg) (xs ((v3 + (1 : Int32))).toNatClampNeg) v2 r86 V91 (c + m87) (s + m88) I92 J93))
def wA_L_law_286 (L : Nat) (xs : Nat → Int32) (Po : Unit) (K18 : Int32 → gV → Nat → Nat → gI → gL → Prop) (v1 : Nat) (v2 : Nat) (v3 : Int32) (V : gV) (c s : Nat) (I : gI) (J : gL) : Prop :=
  vp_in (v3 + (1 : Int32)) L ∧ vp_in (v3 + (2 : Int32)) L ∧ vp_in (v3 + (3 : Int32)) L ∧ ((xs ((v3 + (3 : Int32))).toNatClampNeg) = 0 → wA_L_law_310 L xs Po K18 v1 v2 v3 (0 : Int32) (xs ((v3 + (2 : Int32))).toNatClampNeg) (xs ((v3 + (1 : Int32))).toNatClampNeg) v1 V c s I J) ∧ (¬ (xs ((v3 + (3 : Int32))).toNatClampNeg) = 0 → wA_L_law_310 L xs Po K18 v1 v2 v3 (1 : Int32) (xs ((v3 + (2 : Int32))).toNatClampNeg) (xs ((v3 + (1 : Int32))).toNatClampNeg) v1 V c s I J)
def wA_L_law_365 (L : Nat) (xs : Nat → Int32) (Po : Unit) (K18 : Int32 → gV → Nat → Nat → gI → gL → Prop) (v1 : Nat) (v2 : Nat) (v3 : Int32) (V : gV) (c s : Nat) (I : gI) (J : gL) : Prop :=
  ∃ (sl120 : List (Nat ⊕ Option Nat)) (m110 m111 : Nat), 0 ∈ V.1 ∧ V.2.1 0 = v1 ∧ V.2.2 0 = .inl (9, sl120) ∧ c + m110 ≤ 600000 ∧ s + m111 ≤ 7302250 ∧ wA_X9_repeats m110 m111  v1 V I J (fun r109 V114 I115 J116 => gModM V114 ∧ V114.2.1 200 = v2 ∧ wp_X10_repeats I115 J116 (fun r121 I122 J123 => (r109 = r121 → wA_L_law_1128 L xs Po K18 v1 v2 v3 V114 (c + m110) (s + m111) I122 J123) ∧ (¬ r109 = r121 → False)))
def wA_L_law_378 (L : Nat) (xs : Nat → Int32) (Po : Unit) (K18 : Int32 → gV → Nat → Nat → gI → gL → Prop) (v1 : Nat) (v2 : Nat) (v3 : Int32) (V : gV) (c s : Nat) (I : gI) (J : gL) : Prop :=
  ∃ (sl137 : List (Nat ⊕ Option Nat)) (m127 m128 : Nat), 0 ∈ V.1 ∧ V.2.1 0 = v1 ∧ V.2.2 0 = .inl (9, sl137) ∧ c + m127 ≤ 600000 ∧ s + m128 ≤ 7302250 ∧ wA_X9_radius m127 m128  v1 V I J (fun r126 V131 I132 J133 => gModM V131 ∧ V131.2.1 200 = v2 ∧ wp_X10_radius I132 J133 (fun r138 I139 J140 => (r126 = r138 → wA_L_law_1128 L xs Po K18 v1 v2 v3 V131 (c + m127) (s + m128) I139 J140) ∧ (¬ r126 = r138 → False)))
def wA_L_law_391 (L : Nat) (xs : Nat → Int32) (Po : Unit) (K18 : Int32 → gV → Nat → Nat → gI → gL → Prop) (v1 : Nat) (v2 : Nat) (v3 : Int32) (V : gV) (c s : Nat) (I : gI) (J : gL) : Prop :=
  vp_in (v3 + (1 : Int32)) L ∧ ∃ (sl155 : List (Nat ⊕ Option Nat)) (m145 m146 : Nat), 0 ∈ V.1 ∧ V.2.1 0 = v1 ∧ V.2.2 0 = .inl (9, sl155) ∧ c + m145 ≤ 600000 ∧ s + m146 ≤ 7302250 ∧ wA_X9_middle m145 m146  v1 (xs ((v3 + (1 : Int32))).toNatClampNeg) V I J (fun r144 V149 I150 J151 => vp_in (v3 + (1 : Int32)) L ∧ gModM V149 ∧ V149.2.1 200 = v2 ∧ wp_X10_middle (xs ((v3 + (1 : Int32))).toNatClampNeg) I150 J151 (fun r157 I158 J159 => ((lg_cmp r144 r157) = 0 → wA_L_law_1128 L xs Po K18 v1 v2 v3 V149 (c + m145) (s + m146) I158 J159) ∧ (¬ (lg_cmp r144 r157) = 0 → False)))
def wA_L_law_415 (L : Nat) (xs : Nat → Int32) (Po : Unit) (K18 : Int32 → gV → Nat → Nat → gI → gL → Prop) (v1 : Nat) (v2 : Nat) (v3 : Int32) (V : gV) (c s : Nat) (I : gI) (J : gL) : Prop :=
  vp_in (v3 + (1 : Int32)) L ∧ ∃ (pr pc pg : Option Nat), gModT pr pc pg V ∧ gModJG V ∧ V.2.1 0 = v1 ∧ wp_X9_piece (xs ((v3 + (1 : Int32))).toNatClampNeg) I (fun r163 I164 => vp_in (v3 + (1 : Int32)) L ∧ gModM V ∧ V.2.1 200 = v2 ∧ wp_X10_piece (xs ((v3 + (1 : Int32))).toNatClampNeg) I164 (fun r167 I168 => (r163 = r167 → wA_L_law_1128 L xs Po K18 v1 v2 v3 V c s I168 J) ∧ (¬ r163 = r167 → False)))
def wA_L_law_438 (L : Nat) (xs : Nat → Int32) (Po : Unit) (K18 : Int32 → gV → Nat → Nat → gI → gL → Prop) (v1 : Nat) (v2 : Nat) (v3 : Int32) (V : gV) (c s : Nat) (I : gI) (J : gL) : Prop :=
  ∃ (pr pc pg : Option Nat), gModT pr pc pg V ∧ gModJG V ∧ V.2.1 0 = v1 ∧ wp_X9_unpiece I (fun r171 I172 => gModM V ∧ V.2.1 200 = v2 ∧ wp_X10_unpiece I172 (fun r174 I175 => (r171 = r174 → wA_L_law_1128 L xs Po K18 v1 v2 v3 V c s I175 J) ∧ (¬ r171 = r174 → False)))
def wA_L_law_451 (L : Nat) (xs : Nat → Int32) (Po : Unit) (K18 : Int32 → gV → Nat → Nat → gI → gL → Prop) (v1 : Nat) (v2 : Nat) (v3 : Int32) (V : gV) (c s : Nat) (I : gI) (J : gL) : Prop :=
  vp_in (v3 + (1 : Int32)) L ∧ vp_in (v3 + (2 : Int32)) L ∧ vp_in (v3 + (3 : Int32)) L ∧ ∃ (pr pc pg : Option Nat), gModT pr pc pg V ∧ gModJG V ∧ V.2.1 0 = v1 ∧ wp_X9_board (xs ((v3 + (1 : Int32))).toNatClampNeg) (xs ((v3 + (2 : Int32))).toNatClampNeg) (xs ((v3 + (3 : Int32))).toNatClampNeg) I (fun r181 I182 => vp_in (v3 + (1 : Int32)) L ∧ vp_in (v3 + (2 : Int32)) L ∧ vp_in (v3 + (3 : Int32)) L ∧ gModM V ∧ V.2.1 200 = v2 ∧ wp_X10_board (xs ((v3 + (1 : Int32))).toNatClampNeg) (xs ((v3 + (2 : Int32))).toNatClampNeg) (xs ((v3 + (3 : Int32))).toNatClampNeg) I182 (fun r187 I188 => (r181 = r187 → wA_L_law_1128 L xs Po K18 v1 v2 v3 V c s I188 J) ∧ (¬ r181 = r187 → False)))
def wA_L_law_535 (L : Nat) (xs : Nat → Int32) (Po : Unit) (K18 : Int32 → gV → Nat → Nat → gI → gL → Prop) (v1 : Nat) (v2 : Nat) (v3 : Int32) (s0 : Int32) (s1 : Int32) (s2 : Nat) (s3 : Int32) (V : gV) (c s : Nat) (I : gI) (J : gL) : Prop :=
  gModM V ∧ V.2.1 200 = s2 ∧ wp_X10_may s1 s0 I (fun r200 I201 => (s3 = r200 → wA_L_law_1128 L xs Po K18 v1 v2 v3 V c s I201 J) ∧ (¬ s3 = r200 → False))
def wA_L_law_513 (L : Nat) (xs : Nat → Int32) (Po : Unit) (K18 : Int32 → gV → Nat → Nat → gI → gL → Prop) (v1 : Nat) (v2 : Nat) (v3 : Int32) (s0 : Int32) (s1 : Int32) (s2 : Nat) (V : gV) (c s : Nat) (I : gI) (J : gL) : Prop :=
  ∃ (pr pc pg : Option Nat), gModT pr pc pg V ∧ gModJG V ∧ V.2.1 0 = s2 ∧ wp_X9_may s1 s0 I (fun r194 I195 => vp_in (v3 + (1 : Int32)) L ∧ vp_in (v3 + (2 : Int32)) L ∧ ((xs ((v3 + (2 : Int32))).toNatClampNeg) = 0 → wA_L_law_535 L xs Po K18 v1 v2 v3 (0 : Int32) (xs ((v3 + (1 : Int32))).toNatClampNeg) v2 r194 V c s I195 J) ∧ (¬ (xs ((v3 + (2 : Int32))).toNatClampNeg) = 0 → wA_L_law_535 L xs Po K18 v1 v2 v3 (1 : Int32) (xs ((v3 + (1 : Int32))).toNatClampNeg) v2 r194 V c s I195 J))
def wA_L_law_494 (L : Nat) (xs : Nat → Int32) (Po : Unit) (K18 : Int32 → gV → Nat → Nat → gI → gL → Prop) (v1 : Nat) (v2 : Nat) (v3 : Int32) (V : gV) (c s : Nat) (I : gI) (J : gL) : Prop :=
  vp_in (v3 + (1 : Int32)) L ∧ vp_in (v3 + (2 : Int32)) L ∧ ((xs ((v3 + (2 : Int32))).toNatClampNeg) = 0 → wA_L_law_513 L xs Po K18 v1 v2 v3 (0 : Int32) (xs ((v3 + (1 : Int32))).toNatClampNeg) v1 V c s I J) ∧ (¬ (xs ((v3 + (2 : Int32))).toNatClampNeg) = 0 → wA_L_law_513 L xs Po K18 v1 v2 v3 (1 : Int32) (xs ((v3 + (1 : Int32))).toNatClampNeg) v1 V c s I J)
def wA_L_law_543 (L : Nat) (xs : Nat → Int32) (Po : Unit) (K18 : Int32 → gV → Nat → Nat → gI → gL → Prop) (v1 : Nat) (v2 : Nat) (v3 : Int32) (V : gV) (c s : Nat) (I : gI) (J : gL) : Prop :=
  vp_in (v3 + (1 : Int32)) L ∧ ∃ (pr pc pg : Option Nat), gModT pr pc pg V ∧ gModJG V ∧ V.2.1 0 = v1 ∧ wp_X9_placements (xs ((v3 + (1 : Int32))).toNatClampNeg) I (fun r205 I206 => vp_in (v3 + (1 : Int32)) L ∧ gModM V ∧ V.2.1 200 = v2 ∧ wp_X10_placements (xs ((v3 + (1 : Int32))).toNatClampNeg) I206 (fun r209 I210 => (r205 = r209 → wA_L_law_1128 L xs Po K18 v1 v2 v3 V c s I210 J) ∧ (¬ r205 = r209 → False)))
def wA_L_law_566 (L : Nat) (xs : Nat → Int32) (Po : Unit) (K18 : Int32 → gV → Nat → Nat → gI → gL → Prop) (v1 : Nat) (v2 : Nat) (v3 : Int32) (V : gV) (c s : Nat) (I : gI) (J : gL) : Prop :=
  vp_in (v3 + (1 : Int32)) L ∧ ∃ (sl225 : List (Nat ⊕ Option Nat)) (m215 m216 : Nat), 0 ∈ V.1 ∧ V.2.1 0 = v1 ∧ V.2.2 0 = .inl (9, sl225) ∧ c + m215 ≤ 600000 ∧ s + m216 ≤ 7302250 ∧ wA_X9_covers m215 m216  v1 (xs ((v3 + (1 : Int32))).toNatClampNeg) V I J (fun r214 V219 I220 J221 => vp_in (v3 + (1 : Int32)) L ∧ gModM V219 ∧ V219.2.1 200 = v2 ∧ wp_X10_covers (xs ((v3 + (1 : Int32))).toNatClampNeg) I220 J221 (fun r227 I228 J229 => ((lg_cmp r214 r227) = 0 → wA_L_law_1128 L xs Po K18 v1 v2 v3 V219 (c + m215) (s + m216) I228 J229) ∧ (¬ (lg_cmp r214 r227) = 0 → False)))
def wA_L_law_590 (L : Nat) (xs : Nat → Int32) (Po : Unit) (K18 : Int32 → gV → Nat → Nat → gI → gL → Prop) (v1 : Nat) (v2 : Nat) (v3 : Int32) (V : gV) (c s : Nat) (I : gI) (J : gL) : Prop :=
  vp_in (v3 + (1 : Int32)) L ∧ vp_in (v3 + (2 : Int32)) L ∧ vp_in (v3 + (3 : Int32)) L ∧ vp_in (v3 + (4 : Int32)) L ∧ ∃ (sl247 : List (Nat ⊕ Option Nat)) (m237 m238 : Nat), 0 ∈ V.1 ∧ V.2.1 0 = v1 ∧ V.2.2 0 = .inl (9, sl247) ∧ c + m237 ≤ 600000 ∧ s + m238 ≤ 7302250 ∧ wA_X9_cover m237 m238  v1 (xs ((v3 + (1 : Int32))).toNatClampNeg) (xs ((v3 + (2 : Int32))).toNatClampNeg) (xs ((v3 + (3 : Int32))).toNatClampNeg) (xs ((v3 + (4 : Int32))).toNatClampNeg) V I J (fun r236 V241 I242 J243 => vp_in (v3 + (1 : Int32)) L ∧ vp_in (v3 + (2 : Int32)) L ∧ vp_in (v3 + (3 : Int32)) L ∧ vp_in (v3 + (4 : Int32)) L ∧ gModM V241 ∧ V241.2.1 200 = v2 ∧ wp_X10_cover (xs ((v3 + (1 : Int32))).toNatClampNeg) (xs ((v3 + (2 : Int32))).toNatClampNeg) (xs ((v3 + (3 : Int32))).toNatClampNeg) (xs ((v3 + (4 : Int32))).toNatClampNeg) I242 J243 (fun r252 I253 J254 => (r236 = r252 → wA_L_law_1128 L xs Po K18 v1 v2 v3 V241 (c + m237) (s + m238) I253 J254) ∧ (¬ r236 = r252 → False)))
def wA_L_law_643 (L : Nat) (xs : Nat → Int32) (Po : Unit) (K18 : Int32 → gV → Nat → Nat → gI → gL → Prop) (v1 : Nat) (v2 : Nat) (v3 : Int32) (V : gV) (c s : Nat) (I : gI) (J : gL) : Prop :=
  vp_in (v3 + (1 : Int32)) L ∧ ∃ (sl269 : List (Nat ⊕ Option Nat)) (m259 m260 : Nat), 0 ∈ V.1 ∧ V.2.1 0 = v1 ∧ V.2.2 0 = .inl (9, sl269) ∧ c + m259 ≤ 600000 ∧ s + m260 ≤ 7302250 ∧ wA_X9_fewest m259 m260  v1 (xs ((v3 + (1 : Int32))).toNatClampNeg) V I J (fun r258 V263 I264 J265 => vp_in (v3 + (1 : Int32)) L ∧ gModM V263 ∧ V263.2.1 200 = v2 ∧ wp_X10_fewest (xs ((v3 + (1 : Int32))).toNatClampNeg) I264 J265 (fun r271 I272 J273 => (r258 = r271 → wA_L_law_1128 L xs Po K18 v1 v2 v3 V263 (c + m259) (s + m260) I272 J273) ∧ (¬ r258 = r271 → False)))
def wA_L_law_666 (L : Nat) (xs : Nat → Int32) (Po : Unit) (K18 : Int32 → gV → Nat → Nat → gI → gL → Prop) (v1 : Nat) (v2 : Nat) (v3 : Int32) (V : gV) (c s : Nat) (I : gI) (J : gL) : Prop :=
  vp_in (v3 + (1 : Int32)) L ∧ vp_in (v3 + (2 : Int32)) L ∧ ∃ (pr pc pg : Option Nat), gModT pr pc pg V ∧ gModBL V ∧ V.2.1 0 = v1 ∧ wp_X9_letters (xs ((v3 + (1 : Int32))).toNatClampNeg) (xs ((v3 + (2 : Int32))).toNatClampNeg) I (fun r278 I279 => vp_in (v3 + (1 : Int32)) L ∧ vp_in (v3 + (2 : Int32)) L ∧ gModM V ∧ V.2.1 200 = v2 ∧ wp_X10_letters (xs ((v3 + (1 : Int32))).toNatClampNeg) (xs ((v3 + (2 : Int32))).toNatClampNeg) I279 (fun r283 I284 => (r278 = r283 → wA_L_law_1128 L xs Po K18 v1 v2 v3 V c s I284 J) ∧ (¬ r278 = r283 → False)))
def wA_L_law_699 (L : Nat) (xs : Nat → Int32) (Po : Unit) (K18 : Int32 → gV → Nat → Nat → gI → gL → Prop) (v1 : Nat) (v2 : Nat) (v3 : Int32) (V : gV) (c s : Nat) (I : gI) (J : gL) : Prop :=
  vp_in (v3 + (1 : Int32)) L ∧ vp_in (v3 + (2 : Int32)) L ∧ vp_in (v3 + (3 : Int32)) L ∧ vp_in (v3 + (4 : Int32)) L ∧ ∃ (pr pc pg : Option Nat), gModT pr pc pg V ∧ gModBL V ∧ V.2.1 0 = v1 ∧ wp_X9_block (xs ((v3 + (1 : Int32))).toNatClampNeg) (xs ((v3 + (2 : Int32))).toNatClampNeg) (xs ((v3 + (3 : Int32))).toNatClampNeg) (xs ((v3 + (4 : Int32))).toNatClampNeg) I (fun r291 I292 => vp_in (v3 + (1 : Int32)) L ∧ vp_in (v3 + (2 : Int32)) L ∧ vp_in (v3 + (3 : Int32)) L ∧ vp_in (v3 + (4 : Int32)) L ∧ gModM V ∧ V.2.1 200 = v2 ∧ wp_X10_block (xs ((v3 + (1 : Int32))).toNatClampNeg) (xs ((v3 + (2 : Int32))).toNatClampNeg) (xs ((v3 + (3 : Int32))).toNatClampNeg) (xs ((v3 + (4 : Int32))).toNatClampNeg) I292 (fun r298 I299 => (r291 = r298 → wA_L_law_1128 L xs Po K18 v1 v2 v3 V c s I299 J) ∧ (¬ r291 = r298 → False)))
def wA_L_law_752 (L : Nat) (xs : Nat → Int32) (Po : Unit) (K18 : Int32 → gV → Nat → Nat → gI → gL → Prop) (v1 : Nat) (v2 : Nat) (v3 : Int32) (V : gV) (c s : Nat) (I : gI) (J : gL) : Prop :=
  vp_in (v3 + (1 : Int32)) L ∧ vp_in (v3 + (2 : Int32)) L ∧ vp_in (v3 + (3 : Int32)) L ∧ vp_in (v3 + (4 : Int32)) L ∧ ∃ (pr pc pg : Option Nat), gModT pr pc pg V ∧ gModBL V ∧ V.2.1 0 = v1 ∧ wp_X9_letter (xs ((v3 + (1 : Int32))).toNatClampNeg) (xs ((v3 + (2 : Int32))).toNatClampNeg) (xs ((v3 + (3 : Int32))).toNatClampNeg) (xs ((v3 + (4 : Int32))).toNatClampNeg) I (fun r306 => vp_in (v3 + (1 : Int32)) L ∧ vp_in (v3 + (2 : Int32)) L ∧ vp_in (v3 + (3 : Int32)) L ∧ vp_in (v3 + (4 : Int32)) L ∧ gModM V ∧ V.2.1 200 = v2 ∧ wp_X10_letter (xs ((v3 + (1 : Int32))).toNatClampNeg) (xs ((v3 + (2 : Int32))).toNatClampNeg) (xs ((v3 + (3 : Int32))).toNatClampNeg) (xs ((v3 + (4 : Int32))).toNatClampNeg) I (fun r312 => (r306 = r312 → wA_L_law_1128 L xs Po K18 v1 v2 v3 V c s I J) ∧ (¬ r306 = r312 → False)))
def wA_L_law_805 (L : Nat) (xs : Nat → Int32) (Po : Unit) (K18 : Int32 → gV → Nat → Nat → gI → gL → Prop) (v1 : Nat) (v2 : Nat) (v3 : Int32) (V : gV) (c s : Nat) (I : gI) (J : gL) : Prop :=
  vp_in (v3 + (1 : Int32)) L ∧ vp_in (v3 + (2 : Int32)) L ∧ vp_in (v3 + (3 : Int32)) L ∧ ∃ (pr pc pg : Option Nat), gModT pr pc pg V ∧ gModBL V ∧ V.2.1 0 = v1 ∧ wp_X9_many (xs ((v3 + (1 : Int32))).toNatClampNeg) (xs ((v3 + (2 : Int32))).toNatClampNeg) (xs ((v3 + (3 : Int32))).toNatClampNeg) I J (fun r318 J319 => vp_in (v3 + (1 : Int32)) L ∧ vp_in (v3 + (2 : Int32)) L ∧ vp_in (v3 + (3 : Int32)) L ∧ gModM V ∧ V.2.1 200 = v2 ∧ wp_X10_many (xs ((v3 + (1 : Int32))).toNatClampNeg) (xs ((v3 + (2 : Int32))).toNatClampNeg) (xs ((v3 + (3 : Int32))).toNatClampNeg) I J319 (fun r324 J325 => ((lg_cmp r318 r324) = 0 → wA_L_law_1128 L xs Po K18 v1 v2 v3 V c s I J325) ∧ (¬ (lg_cmp r318 r324) = 0 → False)))
def wA_L_law_849 (L : Nat) (xs : Nat → Int32) (Po : Unit) (K18 : Int32 → gV → Nat → Nat → gI → gL → Prop) (v1 : Nat) (v2 : Nat) (v3 : Int32) (V : gV) (c s : Nat) (I : gI) (J : gL) : Prop :=
  vp_in (v3 + (1 : Int32)) L ∧ vp_in (v3 + (2 : Int32)) L ∧ vp_in (v3 + (3 : Int32)) L ∧ vp_in (v3 + (4 : Int32)) L ∧ ∃ (sl343 : List (Nat ⊕ Option Nat)) (m333 m334 : Nat), 0 ∈ V.1 ∧ V.2.1 0 = v1 ∧ V.2.2 0 = .inl (9, sl343) ∧ c + m333 ≤ 600000 ∧ s + m334 ≤ 7302250 ∧ wA_X9_beside m333 m334  v1 (xs ((v3 + (1 : Int32))).toNatClampNeg) (xs ((v3 + (2 : Int32))).toNatClampNeg) (xs ((v3 + (3 : Int32))).toNatClampNeg) (xs ((v3 + (4 : Int32))).toNatClampNeg) V I J (fun r332 V337 I338 J339 => vp_in (v3 + (1 : Int32)) L ∧ vp_in (v3 + (2 : Int32)) L ∧ vp_in (v3 + (3 : Int32)) L ∧ vp_in (v3 + (4 : Int32)) L ∧ gModM V337 ∧ V337.2.1 200 = v2 ∧ wp_X10_beside (xs ((v3 + (1 : Int32))).toNatClampNeg) (xs ((v3 + (2 : Int32))).toNatClampNeg) (xs ((v3 + (3 : Int32))).toNatClampNeg) (xs ((v3 + (4 : Int32))).toNatClampNeg) I338 (fun r348 I349 => (r332 = r348 → wA_L_law_1128 L xs Po K18 v1 v2 v3 V337 (c + m333) (s + m334) I349 J339) ∧ (¬ r332 = r348 → False)))
def wA_L_law_902 (L : Nat) (xs : Nat → Int32) (Po : Unit) (K18 : Int32 → gV → Nat → Nat → gI → gL → Prop) (v1 : Nat) (v2 : Nat) (v3 : Int32) (V : gV) (c s : Nat) (I : gI) (J : gL) : Prop :=
  ∃ (pr pc pg : Option Nat), gModT pr pc pg V ∧ gModBL V ∧ V.2.1 0 = v1 ∧ wp_X9_mixes I (fun r352 I353 => gModM V ∧ V.2.1 200 = v2 ∧ wp_X10_mixes I353 (fun r355 I356 => (r352 = r355 → wA_L_law_1128 L xs Po K18 v1 v2 v3 V c s I356 J) ∧ (¬ r352 = r355 → False)))
def wA_L_law_915 (L : Nat) (xs : Nat → Int32) (Po : Unit) (K18 : Int32 → gV → Nat → Nat → gI → gL → Prop) (v1 : Nat) (v2 : Nat) (v3 : Int32) (V : gV) (c s : Nat) (I : gI) (J : gL) : Prop :=
  vp_in (v3 + (1 : Int32)) L ∧ vp_in (v3 + (2 : Int32)) L ∧ ∃ (sl372 : List (Nat ⊕ Option Nat)) (m362 m363 : Nat), 0 ∈ V.1 ∧ V.2.1 0 = v1 ∧ V.2.2 0 = .inl (9, sl372) ∧ c + m362 ≤ 600000 ∧ s + m363 ≤ 7302250 ∧ wA_X9_squares m362 m363  v1 (xs ((v3 + (1 : Int32))).toNatClampNeg) (xs ((v3 + (2 : Int32))).toNatClampNeg) V I J (fun r361 V366 I367 J368 => vp_in (v3 + (1 : Int32)) L ∧ vp_in (v3 + (2 : Int32)) L ∧ gModM V366 ∧ V366.2.1 200 = v2 ∧ wp_X10_squares (xs ((v3 + (1 : Int32))).toNatClampNeg) (xs ((v3 + (2 : Int32))).toNatClampNeg) I367 (fun r375 I376 => (r361 = r375 → wA_L_law_1128 L xs Po K18 v1 v2 v3 V366 (c + m362) (s + m363) I376 J368) ∧ (¬ r361 = r375 → False)))
def wA_L_law_948 (L : Nat) (xs : Nat → Int32) (Po : Unit) (K18 : Int32 → gV → Nat → Nat → gI → gL → Prop) (v1 : Nat) (v2 : Nat) (v3 : Int32) (V : gV) (c s : Nat) (I : gI) (J : gL) : Prop :=
  vp_in (v3 + (1 : Int32)) L ∧ ∃ (pr pc pg : Option Nat), gModT pr pc pg V ∧ gModCO V ∧ V.2.1 0 = v1 ∧ wp_X9_turn (xs ((v3 + (1 : Int32))).toNatClampNeg) I (fun r380 I381 => vp_in (v3 + (1 : Int32)) L ∧ gModM V ∧ V.2.1 200 = v2 ∧ wp_X10_turn (xs ((v3 + (1 : Int32))).toNatClampNeg) I381 (fun r384 I385 => (r380 = r384 → wA_L_law_1128 L xs Po K18 v1 v2 v3 V c s I385 J) ∧ (¬ r380 = r384 → False)))
def wA_L_law_971 (L : Nat) (xs : Nat → Int32) (Po : Unit) (K18 : Int32 → gV → Nat → Nat → gI → gL → Prop) (v1 : Nat) (v2 : Nat) (v3 : Int32) (V : gV) (c s : Nat) (I : gI) (J : gL) : Prop :=
  vp_in (v3 + (1 : Int32)) L ∧ ∃ (pr pc pg : Option Nat), gModT pr pc pg V ∧ gModCO V ∧ V.2.1 0 = v1 ∧ wp_X9_corner (xs ((v3 + (1 : Int32))).toNatClampNeg) I (fun r389 I390 => vp_in (v3 + (1 : Int32)) L ∧ gModM V ∧ V.2.1 200 = v2 ∧ wp_X10_corner (xs ((v3 + (1 : Int32))).toNatClampNeg) I390 (fun r393 I394 => (r389 = r393 → wA_L_law_1128 L xs Po K18 v1 v2 v3 V c s I394 J) ∧ (¬ r389 = r393 → False)))
def wA_L_law_994 (L : Nat) (xs : Nat → Int32) (Po : Unit) (K18 : Int32 → gV → Nat → Nat → gI → gL → Prop) (v1 : Nat) (v2 : Nat) (v3 : Int32) (V : gV) (c s : Nat) (I : gI) (J : gL) : Prop :=
  ∃ (pr pc pg : Option Nat), gModT pr pc pg V ∧ gModCO V ∧ V.2.1 0 = v1 ∧ wp_X9_uncorner I (fun r397 I398 => gModM V ∧ V.2.1 200 = v2 ∧ wp_X10_uncorner I398 (fun r400 I401 => (r397 = r400 → wA_L_law_1128 L xs Po K18 v1 v2 v3 V c s I401 J) ∧ (¬ r397 = r400 → False)))
def wA_L_law_1038 (L : Nat) (xs : Nat → Int32) (Po : Unit) (K18 : Int32 → gV → Nat → Nat → gI → gL → Prop) (v1 : Nat) (v2 : Nat) (v3 : Int32) (s0 : Int32) (s1 : Nat) (s2 : Int32) (V : gV) (c s : Nat) (I : gI) (J : gL) : Prop :=
  gModM V ∧ V.2.1 200 = s1 ∧ wp_X10_rounds s0 I (fun r411 I412 => (s2 = r411 → wA_L_law_1128 L xs Po K18 v1 v2 v3 V c s I412 J) ∧ (¬ s2 = r411 → False))
def wA_L_law_1021 (L : Nat) (xs : Nat → Int32) (Po : Unit) (K18 : Int32 → gV → Nat → Nat → gI → gL → Prop) (v1 : Nat) (v2 : Nat) (v3 : Int32) (s0 : Int32) (s1 : Nat) (V : gV) (c s : Nat) (I : gI) (J : gL) : Prop :=
  ∃ (pr pc pg : Option Nat), gModT pr pc pg V ∧ gModCO V ∧ V.2.1 0 = s1 ∧ wp_X9_rounds s0 I (fun r406 I407 => vp_in (v3 + (1 : Int32)) L ∧ ((xs ((v3 + (1 : Int32))).toNatClampNeg) = 0 → wA_L_law_1038 L xs Po K18 v1 v2 v3 (0 : Int32) v2 r406 V c s I407 J) ∧ (¬ (xs ((v3 + (1 : Int32))).toNatClampNeg) = 0 → wA_L_law_1038 L xs Po K18 v1 v2 v3 (1 : Int32) v2 r406 V c s I407 J))
def wA_L_law_1007 (L : Nat) (xs : Nat → Int32) (Po : Unit) (K18 : Int32 → gV → Nat → Nat → gI → gL → Prop) (v1 : Nat) (v2 : Nat) (v3 : Int32) (V : gV) (c s : Nat) (I : gI) (J : gL) : Prop :=
  vp_in (v3 + (1 : Int32)) L ∧ ((xs ((v3 + (1 : Int32))).toNatClampNeg) = 0 → wA_L_law_1021 L xs Po K18 v1 v2 v3 (0 : Int32) v1 V c s I J) ∧ (¬ (xs ((v3 + (1 : Int32))).toNatClampNeg) = 0 → wA_L_law_1021 L xs Po K18 v1 v2 v3 (1 : Int32) v1 V c s I J)
def wA_L_law_1087 (L : Nat) (xs : Nat → Int32) (Po : Unit) (K18 : Int32 → gV → Nat → Nat → gI → gL → Prop) (v1 : Nat) (v2 : Nat) (v3 : Int32) (s0 : Int32) (s1 : Nat) (s2 : Int32) (V : gV) (c s : Nat) (I : gI) (J : gL) : Prop :=
  vp_in (v3 + (2 : Int32)) L ∧ vp_in (v3 + (3 : Int32)) L ∧ gModM V ∧ V.2.1 200 = s1 ∧ wp_X10_round s0 (xs ((v3 + (2 : Int32))).toNatClampNeg) (xs ((v3 + (3 : Int32))).toNatClampNeg) I (fun r426 I427 => (s2 = r426 → wA_L_law_1128 L xs Po K18 v1 v2 v3 V c s I427 J) ∧ (¬ s2 = r426 → False))
def wA_L_law_1060 (L : Nat) (xs : Nat → Int32) (Po : Unit) (K18 : Int32 → gV → Nat → Nat → gI → gL → Prop) (v1 : Nat) (v2 : Nat) (v3 : Int32) (s0 : Int32) (s1 : Nat) (V : gV) (c s : Nat) (I : gI) (J : gL) : Prop :=
  vp_in (v3 + (2 : Int32)) L ∧ vp_in (v3 + (3 : Int32)) L ∧ ∃ (pr pc pg : Option Nat), gModT pr pc pg V ∧ gModCO V ∧ V.2.1 0 = s1 ∧ wp_X9_round s0 (xs ((v3 + (2 : Int32))).toNatClampNeg) (xs ((v3 + (3 : Int32))).toNatClampNeg) I (fun r419 I420 => vp_in (v3 + (1 : Int32)) L ∧ ((xs ((v3 + (1 : Int32))).toNatClampNeg) = 0 → wA_L_law_1087 L xs Po K18 v1 v2 v3 (0 : Int32) v2 r419 V c s I420 J) ∧ (¬ (xs ((v3 + (1 : Int32))).toNatClampNeg) = 0 → wA_L_law_1087 L xs Po K18 v1 v2 v3 (1 : Int32) v2 r419 V c s I420 J))
def wA_L_law_1046 (L : Nat) (xs : Nat → Int32) (Po : Unit) (K18 : Int32 → gV → Nat → Nat → gI → gL → Prop) (v1 : Nat) (v2 : Nat) (v3 : Int32) (V : gV) (c s : Nat) (I : gI) (J : gL) : Prop :=
  vp_in (v3 + (1 : Int32)) L ∧ ((xs ((v3 + (1 : Int32))).toNatClampNeg) = 0 → wA_L_law_1060 L xs Po K18 v1 v2 v3 (0 : Int32) v1 V c s I J) ∧ (¬ (xs ((v3 + (1 : Int32))).toNatClampNeg) = 0 → wA_L_law_1060 L xs Po K18 v1 v2 v3 (1 : Int32) v1 V c s I J)
def wA_L_law_1105 (L : Nat) (xs : Nat → Int32) (Po : Unit) (K18 : Int32 → gV → Nat → Nat → gI → gL → Prop) (v1 : Nat) (v2 : Nat) (v3 : Int32) (V : gV) (c s : Nat) (I : gI) (J : gL) : Prop :=
  vp_in (v3 + (1 : Int32)) L ∧ ∃ (pr pc pg : Option Nat), gModT pr pc pg V ∧ gModTS V ∧ gModJG V ∧ gModBL V ∧ gModCO V ∧ V.2.1 0 = v1 ∧ wp_X9_count (xs ((v3 + (1 : Int32))).toNatClampNeg) I (fun r431 => vp_in (v3 + (1 : Int32)) L ∧ gModM V ∧ V.2.1 200 = v2 ∧ wp_X10_count (xs ((v3 + (1 : Int32))).toNatClampNeg) I (fun r434 => (r431 = r434 → wA_L_law_1128 L xs Po K18 v1 v2 v3 V c s I J) ∧ (¬ r431 = r434 → False)))
def wA_L_law_18b (L : Nat) (xs : Nat → Int32) (Po : Unit) (K18 : Int32 → gV → Nat → Nat → gI → gL → Prop) (v1 : Nat) (v2 : Nat) (v3 : Int32) (V : gV) (c s : Nat) (I : gI) (J : gL) : Prop :=
  (((Int32.ofNat L) - (6 : Int32)) < v3 → True) ∧ (¬ ((Int32.ofNat L) - (6 : Int32)) < v3 → vp_in v3 L ∧ ∀ n31 : Int32, n31 = ((xs (v3).toNatClampNeg) &&& (31 : Int32)) → ((n31).toInt < 0 ∨ 27 < (n31).toInt → wA_L_law_1128 L xs Po K18 v1 v2 v3 V c s I J) ∧ ((n31).toInt = 0 → wA_L_law_160 L xs Po K18 v1 v2 v3 V c s I J) ∧ ((n31).toInt = 1 → wA_L_law_213 L xs Po K18 v1 v2 v3 V c s I J) ∧ ((n31).toInt = 2 → wA_L_law_226 L xs Po K18 v1 v2 v3 V c s I J) ∧ ((n31).toInt = 3 → wA_L_law_286 L xs Po K18 v1 v2 v3 V c s I J) ∧ ((n31).toInt = 4 → wA_L_law_365 L xs Po K18 v1 v2 v3 V c s I J) ∧ ((n31).toInt = 5 → wA_L_law_378 L xs Po K18 v1 v2 v3 V c s I J) ∧ ((n31).toInt = 6 → wA_L_law_391 L xs Po K18 v1 v2 v3 V c s I J) ∧ ((n31).toInt = 7 → wA_L_law_415 L xs Po K18 v1 v2 v3 V c s I J) ∧ ((n31).toInt = 8 → wA_L_law_438 L xs Po K18 v1 v2 v3 V c s I J) ∧ ((n31).toInt = 9 → wA_L_law_451 L xs Po K18 v1 v2 v3 V c s I J) ∧ ((n31).toInt = 10 → wA_L_law_494 L xs Po K18 v1 v2 v3 V c s I J) ∧ ((n31).toInt = 11 → wA_L_law_543 L xs Po K18 v1 v2 v3 V c s I J) ∧ ((n31).toInt = 12 → wA_L_law_566 L xs Po K18 v1 v2 v3 V c s I J) ∧ ((n31).toInt = 13 → wA_L_law_590 L xs Po K18 v1 v2 v3 V c s I J) ∧ ((n31).toInt = 14 → wA_L_law_643 L xs Po K18 v1 v2 v3 V c s I J) ∧ ((n31).toInt = 15 → wA_L_law_666 L xs Po K18 v1 v2 v3 V c s I J) ∧ ((n31).toInt = 16 → wA_L_law_699 L xs Po K18 v1 v2 v3 V c s I J) ∧ ((n31).toInt = 17 → wA_L_law_752 L xs Po K18 v1 v2 v3 V c s I J) ∧ ((n31).toInt = 18 → wA_L_law_805 L xs Po K18 v1 v2 v3 V c s I J) ∧ ((n31).toInt = 19 → wA_L_law_849 L xs Po K18 v1 v2 v3 V c s I J) ∧ ((n31).toInt = 20 → wA_L_law_902 L xs Po K18 v1 v2 v3 V c s I J) ∧ ((n31).toInt = 21 → wA_L_law_915 L xs Po K18 v1 v2 v3 V c s I J) ∧ ((n31).toInt = 22 → wA_L_law_948 L xs Po K18 v1 v2 v3 V c s I J) ∧ ((n31).toInt = 23 → wA_L_law_971 L xs Po K18 v1 v2 v3 V c s I J) ∧ ((n31).toInt = 24 → wA_L_law_994 L xs Po K18 v1 v2 v3 V c s I J) ∧ ((n31).toInt = 25 → wA_L_law_1007 L xs Po K18 v1 v2 v3 V c s I J) ∧ ((n31).toInt = 26 → wA_L_law_1046 L xs Po K18 v1 v2 v3 V c s I J) ∧ ((n31).toInt = 27 → wA_L_law_1105 L xs Po K18 v1 v2 v3 V c s I J))
def wA_L_law_18 (L : Nat) (xs : Nat → Int32) (Po : Unit)  (v1 : Nat) (v2 : Nat) (v3 : Int32) (V : gV) (c s : Nat) (I : gI) (J : gL) : Prop :=
  ∃ (Inv : Int32 → gV → Nat → Nat → gI → gL → Prop) (mu : Int32 → gV → Nat → Nat → gI → gL → Nat), Inv v3 V c s I J ∧ ∀ (v3 : Int32) (V : gV) (c s : Nat) (I : gI) (J : gL), Inv v3 V c s I J → wA_L_law_18b L xs Po  (fun u3 V1 c1 s1 I1 J1 => Inv u3 V1 c1 s1 I1 J1 ∧ mu u3 V1 c1 s1 I1 J1 < mu v3 V c s I J) v1 v2 v3 V c s I J
def wA_L_law (L : Nat) (xs : Nat → Int32) (Po : Unit) (b : Nat) (V : gV) (I : gI) (J : gL) : Prop :=
  0 ∉ V.1 ∧ 0 + 1 ≤ 600000 ∧ 0 + 7 ≤ 7302250 ∧ ∀ (b5 : Nat) (V4 : gV), V4 = gadd V 0 b5 (.inl (9, [.inr none, .inr none, .inr none, .inr none, .inr none, .inr none, .inr none])) → ∀ (I6 : gI) (J7 : gL), I6 = guc I 0 (fun _ => 0) → J7 = guc J 0 (fun _ => 0) → ∃ m8 m9 : Nat, 0 + 1 + m8 ≤ 600000 ∧ 0 + 7 + m9 ≤ 7302250 ∧ wA_X9_init m8 m9  b5 V4 I6 J7 (fun V12 I13 J14 => 200 ∉ V12.1 ∧ 0 + 1 + m8 + 1 ≤ 600000 ∧ 0 + 7 + m9 + 45 ≤ 7302250 ∧ ∀ (b19 : Nat) (V18 : gV), V18 = gadd V12 200 b19 (.inl (10, [.inl 0, .inr none, .inr none, .inr none, .inr none, .inl 0, .inr none, .inr none, .inr none, .inr none, .inr none, .inl 0, .inr none, .inl 0, .inl 0, .inl 0, .inl 0, .inl 0, .inr none, .inr none, .inr none, .inr none, .inr none, .inr none, .inr none, .inr none, .inr none, .inr none, .inr none, .inl 1, .inl 0, .inl 0, .inl 0, .inr none, .inr none, .inr none, .inr none, .inr none, .inr none, .inr none, .inl 0, .inl 0, .inr none, .inr none, .inl 0])) → ∀ (I20 : gI) (J21 : gL), I20 = guc I13 200 (fun _ => 0) → J21 = guc J14 200 (fun _ => 0) → ∃ m22 m23 : Nat, 0 + 1 + m8 + 1 + m22 ≤ 600000 ∧ 0 + 7 + m9 + 45 + m23 ≤ 7302250 ∧ wA_X10_init m22 m23  b19 V18 I20 J21 (fun V26 I27 J28 => wA_L_law_18 L xs Po b5 b19 (0 : Int32) V26 (0 + 1 + m8 + 1 + m22) (0 + 7 + m9 + 45 + m23) I27 J28))
set_option maxRecDepth 100000 in
set_option maxHeartbeats 4000000 in
theorem tA_L_law_1128 {X : gX} {l : Launch} {D : va_G} {cy : Nat → ClassId} {L : Nat} {xs : Nat → Int32} {b : Nat} (C : gC X cL_law RL (some .boolean) 4 room_1) (hX : gIs X l D cy X.2.1.2.2.1.name) {Po : Unit} (hS : gLw X b L xs) {v1 : Nat} {v2 : Nat} {v3 : Int32} {V : gV} {c s : Nat} {I : gI} {J : gL} (hcs : c ≤ 600000 ∧ s ≤ 7302250) {K18 : Int32 → gV → Nat → Nat → gI → gL → Prop} (hK18 : ∀ (y3 : Int32) (V1 : gV) (c1 s1 : Nat) (I1 : gI) (J1 : gL), (c1 ≤ 600000 ∧ s1 ≤ 7302250) → K18 y3 V1 c1 s1 I1 J1 → gJ X V1 c1 s1 18 [(0, .ref b), (1, .ref v1), (2, .ref v2), (3, .int y3)] [] I1 J1) (h : wA_L_law_1128 L xs Po K18 v1 v2 v3 V c s I J) : gJ X V c s 1128 [(0, .ref b), (1, .ref v1), (2, .ref v2), (3, .int v3)] [] I J := by
  unfold wA_L_law_1128 at h
  obtain ⟨n32, en32⟩ : ∃ z : Int32, z = v3 + 6 := ⟨_, rfl⟩
  have h := h n32 en32
  refine j_iinc (pc := 1128) (v := n32) (lv' := [(3, .int n32), (0, .ref b), (1, .ref v1), (2, .ref v2)]) C dL_law_1128 3 rfl (by rw [en32]; rfl) (by decide) rfl ?_
  refine j_goto (pc := 1131) (tgt := 18) C dL_law_1131 (by decide) ?_
  refine gJ.sub [1, 2, 3, 0] rfl ?_
  exact hK18 _ _ _ _ _ _ hcs h
set_option maxRecDepth 100000 in
set_option maxHeartbeats 4000000 in
theorem tA_L_law_160 {X : gX} {l : Launch} {D : va_G} {cy : Nat → ClassId} {L : Nat} {xs : Nat → Int32} {b : Nat} (C : gC X cL_law RL (some .boolean) 4 room_1) (hX : gIs X l D cy X.2.1.2.2.1.name) {Po : Unit} (hS : gLw X b L xs) {v1 : Nat} {v2 : Nat} {v3 : Int32} {V : gV} {c s : Nat} {I : gI} {J : gL} (hcs : c ≤ 600000 ∧ s ≤ 7302250) {K18 : Int32 → gV → Nat → Nat → gI → gL → Prop} (hK18 : ∀ (y3 : Int32) (V1 : gV) (c1 s1 : Nat) (I1 : gI) (J1 : gL), (c1 ≤ 600000 ∧ s1 ≤ 7302250) → K18 y3 V1 c1 s1 I1 J1 → gJ X V1 c1 s1 18 [(0, .ref b), (1, .ref v1), (2, .ref v2), (3, .int y3)] [] I1 J1) (h : wA_L_law_160 L xs Po K18 v1 v2 v3 V c s I J) : gJ X V c s 160 [(0, .ref b), (1, .ref v1), (2, .ref v2), (3, .int v3)] [] I J := by
  unfold wA_L_law_160 at h
  refine j_aload_n (pc := 160) C dL_law_160 rfl 1 rfl ?_
  refine j_aload_n (pc := 161) C dL_law_161 rfl 0 rfl ?_
  refine j_iload_n (pc := 162) C dL_law_162 rfl 3 rfl ?_
  refine j_iconst (pc := 163) (v := 1) C dL_law_163 (by decide) ?_
  refine j_iadd (pc := 164) C dL_law_164 ?_
  obtain ⟨g33, h⟩ := h
  refine j_sld (pc := 165) C hS g33 dL_law_165 ?_
  refine j_aload_n (pc := 166) C dL_law_166 rfl 0 rfl ?_
  refine j_iload_n (pc := 167) C dL_law_167 rfl 3 rfl ?_
  refine j_iconst (pc := 168) (v := 2) C dL_law_168 (by decide) ?_
  refine j_iadd (pc := 169) C dL_law_169 ?_
  obtain ⟨g34, h⟩ := h
  refine j_sld (pc := 170) C hS g34 dL_law_170 ?_
  refine j_aload_n (pc := 171) C dL_law_171 rfl 0 rfl ?_
  refine j_iload_n (pc := 172) C dL_law_172 rfl 3 rfl ?_
  refine j_iconst (pc := 173) (v := 3) C dL_law_173 (by decide) ?_
  refine j_iadd (pc := 174) C dL_law_174 ?_
  obtain ⟨g35, h⟩ := h
  refine j_sld (pc := 175) C hS g35 dL_law_175 ?_
  refine j_aload_n (pc := 176) C dL_law_176 rfl 0 rfl ?_
  refine j_iload_n (pc := 177) C dL_law_177 rfl 3 rfl ?_
  refine j_iconst (pc := 178) (v := 4) C dL_law_178 (by decide) ?_
  refine j_iadd (pc := 179) C dL_law_179 ?_
  obtain ⟨g36, h⟩ := h
  refine j_sld (pc := 180) C hS g36 dL_law_180 ?_
  obtain ⟨pr, pc, pg, hT, hTS, e39, h⟩ := h
  refine gJ.eqst (st' := [.int (xs ((v3 + (4 : Int32))).toNatClampNeg), .int (xs ((v3 + (3 : Int32))).toNatClampNeg), .int (xs ((v3 + (2 : Int32))).toNatClampNeg), .int (xs ((v3 + (1 : Int32))).toNatClampNeg), .ref (V.2.1 0)]) (by rw [e39]) ?_
  refine j_callV (pc := 181) (As := [.int (xs ((v3 + (1 : Int32))).toNatClampNeg), .int (xs ((v3 + (2 : Int32))).toNatClampNeg), .int (xs ((v3 + (3 : Int32))).toNatClampNeg), .int (xs ((v3 + (4 : Int32))).toNatClampNeg)]) (st := []) C hX 0 (m_X9_tile hT hTS h) (c_0 hT).1 (c_0 hT).2 rfl ok_X9_tile wd_272 wd_273 wd_274 ⟨Nat.le_of_ble_eq_true rfl, Nat.le_of_ble_eq_true rfl⟩ rfl rfl (Nat.le_of_ble_eq_true rfl) ⟨hcs.1, hcs.2⟩ dL_law_181 (fun r V1 I38 J1 hp => ?_)
  obtain ⟨r37, rfl, rfl, rfl, h⟩ := hp
  show gJ X V (c) (s) 184 _ [.int r37] _ _
  refine j_aload_n (pc := 184) C dL_law_184 rfl 2 rfl ?_
  refine j_aload_n (pc := 185) C dL_law_185 rfl 0 rfl ?_
  refine j_iload_n (pc := 186) C dL_law_186 rfl 3 rfl ?_
  refine j_iconst (pc := 187) (v := 1) C dL_law_187 (by decide) ?_
  refine j_iadd (pc := 188) C dL_law_188 ?_
  obtain ⟨g40, h⟩ := h
  refine j_sld (pc := 189) C hS g40 dL_law_189 ?_
  refine j_aload_n (pc := 190) C dL_law_190 rfl 0 rfl ?_
  refine j_iload_n (pc := 191) C dL_law_191 rfl 3 rfl ?_
  refine j_iconst (pc := 192) (v := 2) C dL_law_192 (by decide) ?_
  refine j_iadd (pc := 193) C dL_law_193 ?_
  obtain ⟨g41, h⟩ := h
  refine j_sld (pc := 194) C hS g41 dL_law_194 ?_
  refine j_aload_n (pc := 195) C dL_law_195 rfl 0 rfl ?_
  refine j_iload_n (pc := 196) C dL_law_196 rfl 3 rfl ?_
  refine j_iconst (pc := 197) (v := 3) C dL_law_197 (by decide) ?_
  refine j_iadd (pc := 198) C dL_law_198 ?_
  obtain ⟨g42, h⟩ := h
  refine j_sld (pc := 199) C hS g42 dL_law_199 ?_
  refine j_aload_n (pc := 200) C dL_law_200 rfl 0 rfl ?_
  refine j_iload_n (pc := 201) C dL_law_201 rfl 3 rfl ?_
  refine j_iconst (pc := 202) (v := 4) C dL_law_202 (by decide) ?_
  refine j_iadd (pc := 203) C dL_law_203 ?_
  obtain ⟨g43, h⟩ := h
  refine j_sld (pc := 204) C hS g43 dL_law_204 ?_
  obtain ⟨hM, e46, h⟩ := h
  refine gJ.eqst (st' := [.int (xs ((v3 + (4 : Int32))).toNatClampNeg), .int (xs ((v3 + (3 : Int32))).toNatClampNeg), .int (xs ((v3 + (2 : Int32))).toNatClampNeg), .int (xs ((v3 + (1 : Int32))).toNatClampNeg), .ref (V.2.1 200), .int r37]) (by rw [e46]) ?_
  refine j_callV (pc := 205) (As := [.int (xs ((v3 + (1 : Int32))).toNatClampNeg), .int (xs ((v3 + (2 : Int32))).toNatClampNeg), .int (xs ((v3 + (3 : Int32))).toNatClampNeg), .int (xs ((v3 + (4 : Int32))).toNatClampNeg)]) (st := [.int r37]) C hX 200 (m_X10_tile hM h) (c_200 hM).1 (c_200 hM).2 rfl ok_X10_tile wd_1104 wd_1105 wd_1106 ⟨Nat.le_of_ble_eq_true rfl, Nat.le_of_ble_eq_true rfl⟩ rfl rfl (Nat.le_of_ble_eq_true rfl) ⟨hcs.1, hcs.2⟩ dL_law_205 (fun r V1 I45 J1 hp => ?_)
  obtain ⟨r44, rfl, rfl, rfl, h⟩ := hp
  show gJ X V (c) (s) 208 _ [.int r44, .int r37] _ _
  refine j_icmp_eq (pc := 208) (tgt := 1128) C dL_law_208 (by decide) (fun q47 => ?_) (fun q47 => ?_)
  · have h := h.1 q47
    refine gJ.sub [0, 1, 2, 3] rfl ?_
    exact tA_L_law_1128 C hX hS hcs hK18 h
  · have h := h.2 q47
    refine j_iconst (pc := 211) (v := 0) C dL_law_211 (by decide) ?_
    exact absurd h id
set_option maxRecDepth 100000 in
set_option maxHeartbeats 4000000 in
theorem tA_L_law_213 {X : gX} {l : Launch} {D : va_G} {cy : Nat → ClassId} {L : Nat} {xs : Nat → Int32} {b : Nat} (C : gC X cL_law RL (some .boolean) 4 room_1) (hX : gIs X l D cy X.2.1.2.2.1.name) {Po : Unit} (hS : gLw X b L xs) {v1 : Nat} {v2 : Nat} {v3 : Int32} {V : gV} {c s : Nat} {I : gI} {J : gL} (hcs : c ≤ 600000 ∧ s ≤ 7302250) {K18 : Int32 → gV → Nat → Nat → gI → gL → Prop} (hK18 : ∀ (y3 : Int32) (V1 : gV) (c1 s1 : Nat) (I1 : gI) (J1 : gL), (c1 ≤ 600000 ∧ s1 ≤ 7302250) → K18 y3 V1 c1 s1 I1 J1 → gJ X V1 c1 s1 18 [(0, .ref b), (1, .ref v1), (2, .ref v2), (3, .int y3)] [] I1 J1) (h : wA_L_law_213 L xs Po K18 v1 v2 v3 V c s I J) : gJ X V c s 213 [(0, .ref b), (1, .ref v1), (2, .ref v2), (3, .int v3)] [] I J := by
  unfold wA_L_law_213 at h
  refine j_aload_n (pc := 213) C dL_law_213 rfl 1 rfl ?_
  obtain ⟨pr, pc, pg, hT, hTS, e50, h⟩ := h
  refine gJ.eqst (st' := [.ref (V.2.1 0)]) (by rw [e50]) ?_
  refine j_callV (pc := 214) (As := []) (st := []) C hX 0 (m_X9_untile hT hTS h) (c_0 hT).1 (c_0 hT).2 rfl ok_X9_untile wd_286 wd_287 wd_288 ⟨Nat.le_of_ble_eq_true rfl, Nat.le_of_ble_eq_true rfl⟩ rfl rfl (Nat.le_of_ble_eq_true rfl) ⟨hcs.1, hcs.2⟩ dL_law_214 (fun r V1 I49 J1 hp => ?_)
  obtain ⟨r48, rfl, rfl, rfl, h⟩ := hp
  show gJ X V (c) (s) 217 _ [.int r48] _ _
  refine j_aload_n (pc := 217) C dL_law_217 rfl 2 rfl ?_
  obtain ⟨hM, e53, h⟩ := h
  refine gJ.eqst (st' := [.ref (V.2.1 200), .int r48]) (by rw [e53]) ?_
  refine j_callV (pc := 218) (As := []) (st := [.int r48]) C hX 200 (m_X10_untile hM h) (c_200 hM).1 (c_200 hM).2 rfl ok_X10_untile wd_1111 wd_1112 wd_1113 ⟨Nat.le_of_ble_eq_true rfl, Nat.le_of_ble_eq_true rfl⟩ rfl rfl (Nat.le_of_ble_eq_true rfl) ⟨hcs.1, hcs.2⟩ dL_law_218 (fun r V1 I52 J1 hp => ?_)
  obtain ⟨r51, rfl, rfl, rfl, h⟩ := hp
  show gJ X V (c) (s) 221 _ [.int r51, .int r48] _ _
  refine j_icmp_eq (pc := 221) (tgt := 1128) C dL_law_221 (by decide) (fun q54 => ?_) (fun q54 => ?_)
  · have h := h.1 q54
    refine gJ.sub [0, 1, 2, 3] rfl ?_
    exact tA_L_law_1128 C hX hS hcs hK18 h
  · have h := h.2 q54
    refine j_iconst (pc := 224) (v := 0) C dL_law_224 (by decide) ?_
    exact absurd h id
set_option maxRecDepth 100000 in
set_option maxHeartbeats 4000000 in
theorem tA_L_law_277 {X : gX} {l : Launch} {D : va_G} {cy : Nat → ClassId} {L : Nat} {xs : Nat → Int32} {b : Nat} (C : gC X cL_law RL (some .boolean) 4 room_1) (hX : gIs X l D cy X.2.1.2.2.1.name) {Po : Unit} (hS : gLw X b L xs) {v1 : Nat} {v2 : Nat} {v3 : Int32} {s0 : Int32} {s1 : Int32} {s2 : Int32} {s3 : Nat} {s4 : Int64} {V : gV} {c s : Nat} {I : gI} {J : gL} (hcs : c ≤ 600000 ∧ s ≤ 7302250) {K18 : Int32 → gV → Nat → Nat → gI → gL → Prop} (hK18 : ∀ (y3 : Int32) (V1 : gV) (c1 s1 : Nat) (I1 : gI) (J1 : gL), (c1 ≤ 600000 ∧ s1 ≤ 7302250) → K18 y3 V1 c1 s1 I1 J1 → gJ X V1 c1 s1 18 [(0, .ref b), (1, .ref v1), (2, .ref v2), (3, .int y3)] [] I1 J1) (h : wA_L_law_277 L xs Po K18 v1 v2 v3 s0 s1 s2 s3 s4 V c s I J) : gJ X V c s 277 [(0, .ref b), (1, .ref v1), (2, .ref v2), (3, .int v3)] [.int s0, .int s1, .int s2, .ref s3, .long s4] I J := by
  unfold wA_L_law_277 at h
  obtain ⟨hM, e78, h⟩ := h
  refine gJ.eqst (st' := [.int s0, .int s1, .int s2, .ref (V.2.1 200), .long s4]) (by rw [e78]) ?_
  refine j_callV (pc := 277) (As := [.int s2, .int s1, .int s0]) (st := [.long s4]) C hX 200 (m_X10_fillings hM h) (c_200 hM).1 (c_200 hM).2 rfl ok_X10_fillings wd_1115 wd_1116 wd_1117 ⟨Nat.le_of_ble_eq_true rfl, Nat.le_of_ble_eq_true rfl⟩ rfl rfl (Nat.le_of_ble_eq_true rfl) ⟨hcs.1, hcs.2⟩ dL_law_277 (fun r V1 I76 J77 hp => ?_)
  obtain ⟨r75, rfl, rfl, h⟩ := hp
  show gJ X V (c) (s) 280 _ [.long r75, .long s4] _ _
  refine j_lcmp (pc := 280) C dL_law_280 ?_
  refine j_if_eq (pc := 281) (tgt := 1128) C dL_law_281 (by decide) (fun q79 => ?_) (fun q79 => ?_)
  · have h := h.1 q79
    refine gJ.sub [0, 1, 2, 3] rfl ?_
    exact tA_L_law_1128 C hX hS hcs hK18 h
  · have h := h.2 q79
    refine j_iconst (pc := 284) (v := 0) C dL_law_284 (by decide) ?_
    exact absurd h id
set_option maxRecDepth 100000 in
set_option maxHeartbeats 4000000 in
theorem tA_L_law_250 {X : gX} {l : Launch} {D : va_G} {cy : Nat → ClassId} {L : Nat} {xs : Nat → Int32} {b : Nat} (C : gC X cL_law RL (some .boolean) 4 room_1) (hX : gIs X l D cy X.2.1.2.2.1.name) {Po : Unit} (hS : gLw X b L xs) {v1 : Nat} {v2 : Nat} {v3 : Int32} {s0 : Int32} {s1 : Int32} {s2 : Int32} {s3 : Nat} {V : gV} {c s : Nat} {I : gI} {J : gL} (hcs : c ≤ 600000 ∧ s ≤ 7302250) {K18 : Int32 → gV → Nat → Nat → gI → gL → Prop} (hK18 : ∀ (y3 : Int32) (V1 : gV) (c1 s1 : Nat) (I1 : gI) (J1 : gL), (c1 ≤ 600000 ∧ s1 ≤ 7302250) → K18 y3 V1 c1 s1 I1 J1 → gJ X V1 c1 s1 18 [(0, .ref b), (1, .ref v1), (2, .ref v2), (3, .int y3)] [] I1 J1) (h : wA_L_law_250 L xs Po K18 v1 v2 v3 s0 s1 s2 s3 V c s I J) : gJ X V c s 250 [(0, .ref b), (1, .ref v1), (2, .ref v2), (3, .int v3)] [.int s0, .int s1, .int s2, .ref s3] I J := by
  unfold wA_L_law_250 at h
  obtain ⟨sl70, m60, m61, hk68, e67, hd69, g62, g63, h⟩ := h
  refine gJ.eqst (st' := [.int s0, .int s1, .int s2, .ref (V.2.1 0)]) (by rw [e67]) ?_
  refine j_callV (pc := 250) (As := [.int s2, .int s1, .int s0]) (st := []) C hX 0 (gMet.at e67 (n_X9_fillings h)) hk68 hd69 rfl ok_X9_fillings wd_294 wd_295 wd_296 ⟨Nat.le_of_ble_eq_true rfl, Nat.le_of_ble_eq_true rfl⟩ rfl rfl (Nat.le_of_ble_eq_true rfl) ⟨g62, g63⟩ dL_law_250 (fun r V64 I65 J66 hp => ?_)
  obtain ⟨r59, rfl, h⟩ := hp
  have hcs : _ ∧ _ := ⟨g62, g63⟩
  show gJ X V64 (c + m60) (s + m61) 253 _ [.long r59] _ _
  refine j_aload_n (pc := 253) C dL_law_253 rfl 2 rfl ?_
  refine j_aload_n (pc := 254) C dL_law_254 rfl 0 rfl ?_
  refine j_iload_n (pc := 255) C dL_law_255 rfl 3 rfl ?_
  refine j_iconst (pc := 256) (v := 1) C dL_law_256 (by decide) ?_
  refine j_iadd (pc := 257) C dL_law_257 ?_
  obtain ⟨g71, h⟩ := h
  refine j_sld (pc := 258) C hS g71 dL_law_258 ?_
  refine j_aload_n (pc := 259) C dL_law_259 rfl 0 rfl ?_
  refine j_iload_n (pc := 260) C dL_law_260 rfl 3 rfl ?_
  refine j_iconst (pc := 261) (v := 2) C dL_law_261 (by decide) ?_
  refine j_iadd (pc := 262) C dL_law_262 ?_
  obtain ⟨g72, h⟩ := h
  refine j_sld (pc := 263) C hS g72 dL_law_263 ?_
  refine j_aload_n (pc := 264) C dL_law_264 rfl 0 rfl ?_
  refine j_iload_n (pc := 265) C dL_law_265 rfl 3 rfl ?_
  refine j_iconst (pc := 266) (v := 3) C dL_law_266 (by decide) ?_
  refine j_iadd (pc := 267) C dL_law_267 ?_
  obtain ⟨g73, h⟩ := h
  refine j_sld (pc := 268) C hS g73 dL_law_268 ?_
  refine j_if_eq (pc := 269) (tgt := 276) C dL_law_269 (by decide) (fun q74 => ?_) (fun q74 => ?_)
  · have h := h.1 q74
    refine j_iconst (pc := 276) (v := 0) C dL_law_276 (by decide) ?_
    refine gJ.sub [0, 1, 2, 3] rfl ?_
    exact tA_L_law_277 C hX hS hcs hK18 h
  · have h := h.2 q74
    refine j_iconst (pc := 272) (v := 1) C dL_law_272 (by decide) ?_
    refine j_goto (pc := 273) (tgt := 277) C dL_law_273 (by decide) ?_
    refine gJ.sub [0, 1, 2, 3] rfl ?_
    exact tA_L_law_277 C hX hS hcs hK18 h
set_option maxRecDepth 100000 in
set_option maxHeartbeats 4000000 in
theorem tA_L_law_226 {X : gX} {l : Launch} {D : va_G} {cy : Nat → ClassId} {L : Nat} {xs : Nat → Int32} {b : Nat} (C : gC X cL_law RL (some .boolean) 4 room_1) (hX : gIs X l D cy X.2.1.2.2.1.name) {Po : Unit} (hS : gLw X b L xs) {v1 : Nat} {v2 : Nat} {v3 : Int32} {V : gV} {c s : Nat} {I : gI} {J : gL} (hcs : c ≤ 600000 ∧ s ≤ 7302250) {K18 : Int32 → gV → Nat → Nat → gI → gL → Prop} (hK18 : ∀ (y3 : Int32) (V1 : gV) (c1 s1 : Nat) (I1 : gI) (J1 : gL), (c1 ≤ 600000 ∧ s1 ≤ 7302250) → K18 y3 V1 c1 s1 I1 J1 → gJ X V1 c1 s1 18 [(0, .ref b), (1, .ref v1), (2, .ref v2), (3, .int y3)] [] I1 J1) (h : wA_L_law_226 L xs Po K18 v1 v2 v3 V c s I J) : gJ X V c s 226 [(0, .ref b), (1, .ref v1), (2, .ref v2), (3, .int v3)] [] I J := by
  unfold wA_L_law_226 at h
  refine j_aload_n (pc := 226) C dL_law_226 rfl 1 rfl ?_
  refine j_aload_n (pc := 227) C dL_law_227 rfl 0 rfl ?_
  refine j_iload_n (pc := 228) C dL_law_228 rfl 3 rfl ?_
  refine j_iconst (pc := 229) (v := 1) C dL_law_229 (by decide) ?_
  refine j_iadd (pc := 230) C dL_law_230 ?_
  obtain ⟨g55, h⟩ := h
  refine j_sld (pc := 231) C hS g55 dL_law_231 ?_
  refine j_aload_n (pc := 232) C dL_law_232 rfl 0 rfl ?_
  refine j_iload_n (pc := 233) C dL_law_233 rfl 3 rfl ?_
  refine j_iconst (pc := 234) (v := 2) C dL_law_234 (by decide) ?_
  refine j_iadd (pc := 235) C dL_law_235 ?_
  obtain ⟨g56, h⟩ := h
  refine j_sld (pc := 236) C hS g56 dL_law_236 ?_
  refine j_aload_n (pc := 237) C dL_law_237 rfl 0 rfl ?_
  refine j_iload_n (pc := 238) C dL_law_238 rfl 3 rfl ?_
  refine j_iconst (pc := 239) (v := 3) C dL_law_239 (by decide) ?_
  refine j_iadd (pc := 240) C dL_law_240 ?_
  obtain ⟨g57, h⟩ := h
  refine j_sld (pc := 241) C hS g57 dL_law_241 ?_
  refine j_if_eq (pc := 242) (tgt := 249) C dL_law_242 (by decide) (fun q58 => ?_) (fun q58 => ?_)
  · have h := h.1 q58
    refine j_iconst (pc := 249) (v := 0) C dL_law_249 (by decide) ?_
    refine gJ.sub [0, 1, 2, 3] rfl ?_
    exact tA_L_law_250 C hX hS hcs hK18 h
  · have h := h.2 q58
    refine j_iconst (pc := 245) (v := 1) C dL_law_245 (by decide) ?_
    refine j_goto (pc := 246) (tgt := 250) C dL_law_246 (by decide) ?_
    refine gJ.sub [0, 1, 2, 3] rfl ?_
    exact tA_L_law_250 C hX hS hcs hK18 h
set_option maxRecDepth 100000 in
set_option maxHeartbeats 4000000 in
theorem tA_L_law_347 {X : gX} {l : Launch} {D : va_G} {cy : Nat → ClassId} {L : Nat} {xs : Nat → Int32} {b : Nat} (C : gC X cL_law RL (some .boolean) 4 room_1) (hX : gIs X l D cy X.2.1.2.2.1.name) {Po : Unit} (hS : gLw X b L xs) {v1 : Nat} {v2 : Nat} {v3 : Int32} {s0 : Int32} {s1 : Int32} {s2 : Int32} {s3 : Nat} {s4 : Int32} {V : gV} {c s : Nat} {I : gI} {J : gL} (hcs : c ≤ 600000 ∧ s ≤ 7302250) {K18 : Int32 → gV → Nat → Nat → gI → gL → Prop} (hK18 : ∀ (y3 : Int32) (V1 : gV) (c1 s1 : Nat) (I1 : gI) (J1 : gL), (c1 ≤ 600000 ∧ s1 ≤ 7302250) → K18 y3 V1 c1 s1 I1 J1 → gJ X V1 c1 s1 18 [(0, .ref b), (1, .ref v1), (2, .ref v2), (3, .int y3)] [] I1 J1) (h : wA_L_law_347 L xs Po K18 v1 v2 v3 s0 s1 s2 s3 s4 V c s I J) : gJ X V c s 347 [(0, .ref b), (1, .ref v1), (2, .ref v2), (3, .int v3)] [.int s0, .int s1, .int s2, .ref s3, .int s4] I J := by
  unfold wA_L_law_347 at h
  refine j_aload_n (pc := 347) C dL_law_347 rfl 0 rfl ?_
  refine j_iload_n (pc := 348) C dL_law_348 rfl 3 rfl ?_
  refine j_iconst (pc := 349) (v := 4) C dL_law_349 (by decide) ?_
  refine j_iadd (pc := 350) C dL_law_350 ?_
  obtain ⟨g102, h⟩ := h
  refine j_sld (pc := 351) C hS g102 dL_law_351 ?_
  refine j_aload_n (pc := 352) C dL_law_352 rfl 0 rfl ?_
  refine j_iload_n (pc := 353) C dL_law_353 rfl 3 rfl ?_
  refine j_iconst (pc := 354) (v := 5) C dL_law_354 (by decide) ?_
  refine j_iadd (pc := 355) C dL_law_355 ?_
  obtain ⟨g103, h⟩ := h
  refine j_sld (pc := 356) C hS g103 dL_law_356 ?_
  obtain ⟨hM, e107, h⟩ := h
  refine gJ.eqst (st' := [.int (xs ((v3 + (5 : Int32))).toNatClampNeg), .int (xs ((v3 + (4 : Int32))).toNatClampNeg), .int s0, .int s1, .int s2, .ref (V.2.1 200), .int s4]) (by rw [e107]) ?_
  refine j_callV (pc := 357) (As := [.int s2, .int s1, .int s0, .int (xs ((v3 + (4 : Int32))).toNatClampNeg), .int (xs ((v3 + (5 : Int32))).toNatClampNeg)]) (st := [.int s4]) C hX 200 (m_X10_laid hM h) (c_200 hM).1 (c_200 hM).2 rfl ok_X10_laid wd_1139 wd_1140 wd_1141 ⟨Nat.le_of_ble_eq_true rfl, Nat.le_of_ble_eq_true rfl⟩ rfl rfl (Nat.le_of_ble_eq_true rfl) ⟨hcs.1, hcs.2⟩ dL_law_357 (fun r V1 I105 J106 hp => ?_)
  obtain ⟨r104, rfl, rfl, h⟩ := hp
  show gJ X V (c) (s) 360 _ [.int r104, .int s4] _ _
  refine j_icmp_eq (pc := 360) (tgt := 1128) C dL_law_360 (by decide) (fun q108 => ?_) (fun q108 => ?_)
  · have h := h.1 q108
    refine gJ.sub [0, 1, 2, 3] rfl ?_
    exact tA_L_law_1128 C hX hS hcs hK18 h
  · have h := h.2 q108
    refine j_iconst (pc := 363) (v := 0) C dL_law_363 (by decide) ?_
    exact absurd h id
set_option maxRecDepth 100000 in
set_option maxHeartbeats 4000000 in
theorem tA_L_law_310 {X : gX} {l : Launch} {D : va_G} {cy : Nat → ClassId} {L : Nat} {xs : Nat → Int32} {b : Nat} (C : gC X cL_law RL (some .boolean) 4 room_1) (hX : gIs X l D cy X.2.1.2.2.1.name) {Po : Unit} (hS : gLw X b L xs) {v1 : Nat} {v2 : Nat} {v3 : Int32} {s0 : Int32} {s1 : Int32} {s2 : Int32} {s3 : Nat} {V : gV} {c s : Nat} {I : gI} {J : gL} (hcs : c ≤ 600000 ∧ s ≤ 7302250) {K18 : Int32 → gV → Nat → Nat → gI → gL → Prop} (hK18 : ∀ (y3 : Int32) (V1 : gV) (c1 s1 : Nat) (I1 : gI) (J1 : gL), (c1 ≤ 600000 ∧ s1 ≤ 7302250) → K18 y3 V1 c1 s1 I1 J1 → gJ X V1 c1 s1 18 [(0, .ref b), (1, .ref v1), (2, .ref v2), (3, .int y3)] [] I1 J1) (h : wA_L_law_310 L xs Po K18 v1 v2 v3 s0 s1 s2 s3 V c s I J) : gJ X V c s 310 [(0, .ref b), (1, .ref v1), (2, .ref v2), (3, .int v3)] [.int s0, .int s1, .int s2, .ref s3] I J := by
  unfold wA_L_law_310 at h
  refine j_aload_n (pc := 310) C dL_law_310 rfl 0 rfl ?_
  refine j_iload_n (pc := 311) C dL_law_311 rfl 3 rfl ?_
  refine j_iconst (pc := 312) (v := 4) C dL_law_312 (by decide) ?_
  refine j_iadd (pc := 313) C dL_law_313 ?_
  obtain ⟨g84, h⟩ := h
  refine j_sld (pc := 314) C hS g84 dL_law_314 ?_
  refine j_aload_n (pc := 315) C dL_law_315 rfl 0 rfl ?_
  refine j_iload_n (pc := 316) C dL_law_316 rfl 3 rfl ?_
  refine j_iconst (pc := 317) (v := 5) C dL_law_317 (by decide) ?_
  refine j_iadd (pc := 318) C dL_law_318 ?_
  obtain ⟨g85, h⟩ := h
  refine j_sld (pc := 319) C hS g85 dL_law_319 ?_
  obtain ⟨sl97, m87, m88, hk95, e94, hd96, g89, g90, h⟩ := h
  refine gJ.eqst (st' := [.int (xs ((v3 + (5 : Int32))).toNatClampNeg), .int (xs ((v3 + (4 : Int32))).toNatClampNeg), .int s0, .int s1, .int s2, .ref (V.2.1 0)]) (by rw [e94]) ?_
  refine j_callV (pc := 320) (As := [.int s2, .int s1, .int s0, .int (xs ((v3 + (4 : Int32))).toNatClampNeg), .int (xs ((v3 + (5 : Int32))).toNatClampNeg)]) (st := []) C hX 0 (gMet.at e94 (n_X9_laid h)) hk95 hd96 rfl ok_X9_laid wd_465 wd_466 wd_467 ⟨Nat.le_of_ble_eq_true rfl, Nat.le_of_ble_eq_true rfl⟩ rfl rfl (Nat.le_of_ble_eq_true rfl) ⟨g89, g90⟩ dL_law_320 (fun r V91 I92 J93 hp => ?_)
  obtain ⟨r86, rfl, h⟩ := hp
  have hcs : _ ∧ _ := ⟨g89, g90⟩
  show gJ X V91 (c + m87) (s + m88) 323 _ [.int r86] _ _
  refine j_aload_n (pc := 323) C dL_law_323 rfl 2 rfl ?_
  refine j_aload_n (pc := 324) C dL_law_324 rfl 0 rfl ?_
  refine j_iload_n (pc := 325) C dL_law_325 rfl 3 rfl ?_
  refine j_iconst (pc := 326) (v := 1) C dL_law_326 (by decide) ?_
  refine j_iadd (pc := 327) C dL_law_327 ?_
  obtain ⟨g98, h⟩ := h
  refine j_sld (pc := 328) C hS g98 dL_law_328 ?_
  refine j_aload_n (pc := 329) C dL_law_329 rfl 0 rfl ?_
  refine j_iload_n (pc := 330) C dL_law_330 rfl 3 rfl ?_
  refine j_iconst (pc := 331) (v := 2) C dL_law_331 (by decide) ?_
  refine j_iadd (pc := 332) C dL_law_332 ?_
  obtain ⟨g99, h⟩ := h
  refine j_sld (pc := 333) C hS g99 dL_law_333 ?_
  refine j_aload_n (pc := 334) C dL_law_334 rfl 0 rfl ?_
  refine j_iload_n (pc := 335) C dL_law_335 rfl 3 rfl ?_
  refine j_iconst (pc := 336) (v := 3) C dL_law_336 (by decide) ?_
  refine j_iadd (pc := 337) C dL_law_337 ?_
  obtain ⟨g100, h⟩ := h
  refine j_sld (pc := 338) C hS g100 dL_law_338 ?_
  refine j_if_eq (pc := 339) (tgt := 346) C dL_law_339 (by decide) (fun q101 => ?_) (fun q101 => ?_)
  · have h := h.1 q101
    refine j_iconst (pc := 346) (v := 0) C dL_law_346 (by decide) ?_
    refine gJ.sub [0, 1, 2, 3] rfl ?_
    exact tA_L_law_347 C hX hS hcs hK18 h
  · have h := h.2 q101
    refine j_iconst (pc := 342) (v := 1) C dL_law_342 (by decide) ?_
    refine j_goto (pc := 343) (tgt := 347) C dL_law_343 (by decide) ?_
    refine gJ.sub [0, 1, 2, 3] rfl ?_
    exact tA_L_law_347 C hX hS hcs hK18 h
set_option maxRecDepth 100000 in
set_option maxHeartbeats 4000000 in
theorem tA_L_law_286 {X : gX} {l : Launch} {D : va_G} {cy : Nat → ClassId} {L : Nat} {xs : Nat → Int32} {b : Nat} (C : gC X cL_law RL (some .boolean) 4 room_1) (hX : gIs X l D cy X.2.1.2.2.1.name) {Po : Unit} (hS : gLw X b L xs) {v1 : Nat} {v2 : Nat} {v3 : Int32} {V : gV} {c s : Nat} {I : gI} {J : gL} (hcs : c ≤ 600000 ∧ s ≤ 7302250) {K18 : Int32 → gV → Nat → Nat → gI → gL → Prop} (hK18 : ∀ (y3 : Int32) (V1 : gV) (c1 s1 : Nat) (I1 : gI) (J1 : gL), (c1 ≤ 600000 ∧ s1 ≤ 7302250) → K18 y3 V1 c1 s1 I1 J1 → gJ X V1 c1 s1 18 [(0, .ref b), (1, .ref v1), (2, .ref v2), (3, .int y3)] [] I1 J1) (h : wA_L_law_286 L xs Po K18 v1 v2 v3 V c s I J) : gJ X V c s 286 [(0, .ref b), (1, .ref v1), (2, .ref v2), (3, .int v3)] [] I J := by
  unfold wA_L_law_286 at h
  refine j_aload_n (pc := 286) C dL_law_286 rfl 1 rfl ?_
  refine j_aload_n (pc := 287) C dL_law_287 rfl 0 rfl ?_
  refine j_iload_n (pc := 288) C dL_law_288 rfl 3 rfl ?_
  refine j_iconst (pc := 289) (v := 1) C dL_law_289 (by decide) ?_
  refine j_iadd (pc := 290) C dL_law_290 ?_
  obtain ⟨g80, h⟩ := h
  refine j_sld (pc := 291) C hS g80 dL_law_291 ?_
  refine j_aload_n (pc := 292) C dL_law_292 rfl 0 rfl ?_
  refine j_iload_n (pc := 293) C dL_law_293 rfl 3 rfl ?_
  refine j_iconst (pc := 294) (v := 2) C dL_law_294 (by decide) ?_
  refine j_iadd (pc := 295) C dL_law_295 ?_
  obtain ⟨g81, h⟩ := h
  refine j_sld (pc := 296) C hS g81 dL_law_296 ?_
  refine j_aload_n (pc := 297) C dL_law_297 rfl 0 rfl ?_
  refine j_iload_n (pc := 298) C dL_law_298 rfl 3 rfl ?_
  refine j_iconst (pc := 299) (v := 3) C dL_law_299 (by decide) ?_
  refine j_iadd (pc := 300) C dL_law_300 ?_
  obtain ⟨g82, h⟩ := h
  refine j_sld (pc := 301) C hS g82 dL_law_301 ?_
  refine j_if_eq (pc := 302) (tgt := 309) C dL_law_302 (by decide) (fun q83 => ?_) (fun q83 => ?_)
  · have h := h.1 q83
    refine j_iconst (pc := 309) (v := 0) C dL_law_309 (by decide) ?_
    refine gJ.sub [0, 1, 2, 3] rfl ?_
    exact tA_L_law_310 C hX hS hcs hK18 h
  · have h := h.2 q83
    refine j_iconst (pc := 305) (v := 1) C dL_law_305 (by decide) ?_
    refine j_goto (pc := 306) (tgt := 310) C dL_law_306 (by decide) ?_
    refine gJ.sub [0, 1, 2, 3] rfl ?_
    exact tA_L_law_310 C hX hS hcs hK18 h
set_option maxRecDepth 100000 in
set_option maxHeartbeats 4000000 in
theorem tA_L_law_365 {X : gX} {l : Launch} {D : va_G} {cy : Nat → ClassId} {L : Nat} {xs : Nat → Int32} {b : Nat} (C : gC X cL_law RL (some .boolean) 4 room_1) (hX : gIs X l D cy X.2.1.2.2.1.name) {Po : Unit} (hS : gLw X b L xs) {v1 : Nat} {v2 : Nat} {v3 : Int32} {V : gV} {c s : Nat} {I : gI} {J : gL} (hcs : c ≤ 600000 ∧ s ≤ 7302250) {K18 : Int32 → gV → Nat → Nat → gI → gL → Prop} (hK18 : ∀ (y3 : Int32) (V1 : gV) (c1 s1 : Nat) (I1 : gI) (J1 : gL), (c1 ≤ 600000 ∧ s1 ≤ 7302250) → K18 y3 V1 c1 s1 I1 J1 → gJ X V1 c1 s1 18 [(0, .ref b), (1, .ref v1), (2, .ref v2), (3, .int y3)] [] I1 J1) (h : wA_L_law_365 L xs Po K18 v1 v2 v3 V c s I J) : gJ X V c s 365 [(0, .ref b), (1, .ref v1), (2, .ref v2), (3, .int v3)] [] I J := by
  unfold wA_L_law_365 at h
  refine j_aload_n (pc := 365) C dL_law_365 rfl 1 rfl ?_
  obtain ⟨sl120, m110, m111, hk118, e117, hd119, g112, g113, h⟩ := h
  refine gJ.eqst (st' := [.ref (V.2.1 0)]) (by rw [e117]) ?_
  refine j_callV (pc := 366) (As := []) (st := []) C hX 0 (gMet.at e117 (n_X9_repeats h)) hk118 hd119 rfl ok_X9_repeats wd_492 wd_493 wd_494 ⟨Nat.le_of_ble_eq_true rfl, Nat.le_of_ble_eq_true rfl⟩ rfl rfl (Nat.le_of_ble_eq_true rfl) ⟨g112, g113⟩ dL_law_366 (fun r V114 I115 J116 hp => ?_)
  obtain ⟨r109, rfl, h⟩ := hp
  have hcs : _ ∧ _ := ⟨g112, g113⟩
  show gJ X V114 (c + m110) (s + m111) 369 _ [.int r109] _ _
  refine j_aload_n (pc := 369) C dL_law_369 rfl 2 rfl ?_
  obtain ⟨hM, e124, h⟩ := h
  refine gJ.eqst (st' := [.ref (V114.2.1 200), .int r109]) (by rw [e124]) ?_
  refine j_callV (pc := 370) (As := []) (st := [.int r109]) C hX 200 (m_X10_repeats hM h) (c_200 hM).1 (c_200 hM).2 rfl ok_X10_repeats wd_1147 wd_1148 wd_1149 ⟨Nat.le_of_ble_eq_true rfl, Nat.le_of_ble_eq_true rfl⟩ rfl rfl (Nat.le_of_ble_eq_true rfl) ⟨hcs.1, hcs.2⟩ dL_law_370 (fun r V1 I122 J123 hp => ?_)
  obtain ⟨r121, rfl, rfl, h⟩ := hp
  show gJ X V114 (c + m110) (s + m111) 373 _ [.int r121, .int r109] _ _
  refine j_icmp_eq (pc := 373) (tgt := 1128) C dL_law_373 (by decide) (fun q125 => ?_) (fun q125 => ?_)
  · have h := h.1 q125
    refine gJ.sub [0, 1, 2, 3] rfl ?_
    exact tA_L_law_1128 C hX hS hcs hK18 h
  · have h := h.2 q125
    refine j_iconst (pc := 376) (v := 0) C dL_law_376 (by decide) ?_
    exact absurd h id
set_option maxRecDepth 100000 in
set_option maxHeartbeats 4000000 in
theorem tA_L_law_378 {X : gX} {l : Launch} {D : va_G} {cy : Nat → ClassId} {L : Nat} {xs : Nat → Int32} {b : Nat} (C : gC X cL_law RL (some .boolean) 4 room_1) (hX : gIs X l D cy X.2.1.2.2.1.name) {Po : Unit} (hS : gLw X b L xs) {v1 : Nat} {v2 : Nat} {v3 : Int32} {V : gV} {c s : Nat} {I : gI} {J : gL} (hcs : c ≤ 600000 ∧ s ≤ 7302250) {K18 : Int32 → gV → Nat → Nat → gI → gL → Prop} (hK18 : ∀ (y3 : Int32) (V1 : gV) (c1 s1 : Nat) (I1 : gI) (J1 : gL), (c1 ≤ 600000 ∧ s1 ≤ 7302250) → K18 y3 V1 c1 s1 I1 J1 → gJ X V1 c1 s1 18 [(0, .ref b), (1, .ref v1), (2, .ref v2), (3, .int y3)] [] I1 J1) (h : wA_L_law_378 L xs Po K18 v1 v2 v3 V c s I J) : gJ X V c s 378 [(0, .ref b), (1, .ref v1), (2, .ref v2), (3, .int v3)] [] I J := by
  unfold wA_L_law_378 at h
  refine j_aload_n (pc := 378) C dL_law_378 rfl 1 rfl ?_
  obtain ⟨sl137, m127, m128, hk135, e134, hd136, g129, g130, h⟩ := h
  refine gJ.eqst (st' := [.ref (V.2.1 0)]) (by rw [e134]) ?_
  refine j_callV (pc := 379) (As := []) (st := []) C hX 0 (gMet.at e134 (n_X9_radius h)) hk135 hd136 rfl ok_X9_radius wd_497 wd_498 wd_499 ⟨Nat.le_of_ble_eq_true rfl, Nat.le_of_ble_eq_true rfl⟩ rfl rfl (Nat.le_of_ble_eq_true rfl) ⟨g129, g130⟩ dL_law_379 (fun r V131 I132 J133 hp => ?_)
  obtain ⟨r126, rfl, h⟩ := hp
  have hcs : _ ∧ _ := ⟨g129, g130⟩
  show gJ X V131 (c + m127) (s + m128) 382 _ [.int r126] _ _
  refine j_aload_n (pc := 382) C dL_law_382 rfl 2 rfl ?_
  obtain ⟨hM, e141, h⟩ := h
  refine gJ.eqst (st' := [.ref (V131.2.1 200), .int r126]) (by rw [e141]) ?_
  refine j_callV (pc := 383) (As := []) (st := [.int r126]) C hX 200 (m_X10_radius hM h) (c_200 hM).1 (c_200 hM).2 rfl ok_X10_radius wd_1151 wd_1152 wd_1153 ⟨Nat.le_of_ble_eq_true rfl, Nat.le_of_ble_eq_true rfl⟩ rfl rfl (Nat.le_of_ble_eq_true rfl) ⟨hcs.1, hcs.2⟩ dL_law_383 (fun r V1 I139 J140 hp => ?_)
  obtain ⟨r138, rfl, rfl, h⟩ := hp
  show gJ X V131 (c + m127) (s + m128) 386 _ [.int r138, .int r126] _ _
  refine j_icmp_eq (pc := 386) (tgt := 1128) C dL_law_386 (by decide) (fun q142 => ?_) (fun q142 => ?_)
  · have h := h.1 q142
    refine gJ.sub [0, 1, 2, 3] rfl ?_
    exact tA_L_law_1128 C hX hS hcs hK18 h
  · have h := h.2 q142
    refine j_iconst (pc := 389) (v := 0) C dL_law_389 (by decide) ?_
    exact absurd h id
set_option maxRecDepth 100000 in
set_option maxHeartbeats 4000000 in
theorem tA_L_law_391 {X : gX} {l : Launch} {D : va_G} {cy : Nat → ClassId} {L : Nat} {xs : Nat → Int32} {b : Nat} (C : gC X cL_law RL (some .boolean) 4 room_1) (hX : gIs X l D cy X.2.1.2.2.1.name) {Po : Unit} (hS : gLw X b L xs) {v1 : Nat} {v2 : Nat} {v3 : Int32} {V : gV} {c s : Nat} {I : gI} {J : gL} (hcs : c ≤ 600000 ∧ s ≤ 7302250) {K18 : Int32 → gV → Nat → Nat → gI → gL → Prop} (hK18 : ∀ (y3 : Int32) (V1 : gV) (c1 s1 : Nat) (I1 : gI) (J1 : gL), (c1 ≤ 600000 ∧ s1 ≤ 7302250) → K18 y3 V1 c1 s1 I1 J1 → gJ X V1 c1 s1 18 [(0, .ref b), (1, .ref v1), (2, .ref v2), (3, .int y3)] [] I1 J1) (h : wA_L_law_391 L xs Po K18 v1 v2 v3 V c s I J) : gJ X V c s 391 [(0, .ref b), (1, .ref v1), (2, .ref v2), (3, .int v3)] [] I J := by
  unfold wA_L_law_391 at h
  refine j_aload_n (pc := 391) C dL_law_391 rfl 1 rfl ?_
  refine j_aload_n (pc := 392) C dL_law_392 rfl 0 rfl ?_
  refine j_iload_n (pc := 393) C dL_law_393 rfl 3 rfl ?_
  refine j_iconst (pc := 394) (v := 1) C dL_law_394 (by decide) ?_
  refine j_iadd (pc := 395) C dL_law_395 ?_
  obtain ⟨g143, h⟩ := h
  refine j_sld (pc := 396) C hS g143 dL_law_396 ?_
  obtain ⟨sl155, m145, m146, hk153, e152, hd154, g147, g148, h⟩ := h
  refine gJ.eqst (st' := [.int (xs ((v3 + (1 : Int32))).toNatClampNeg), .ref (V.2.1 0)]) (by rw [e152]) ?_
  refine j_callV (pc := 397) (As := [.int (xs ((v3 + (1 : Int32))).toNatClampNeg)]) (st := []) C hX 0 (gMet.at e152 (n_X9_middle h)) hk153 hd154 rfl ok_X9_middle wd_501 wd_502 wd_503 ⟨Nat.le_of_ble_eq_true rfl, Nat.le_of_ble_eq_true rfl⟩ rfl rfl (Nat.le_of_ble_eq_true rfl) ⟨g147, g148⟩ dL_law_397 (fun r V149 I150 J151 hp => ?_)
  obtain ⟨r144, rfl, h⟩ := hp
  have hcs : _ ∧ _ := ⟨g147, g148⟩
  show gJ X V149 (c + m145) (s + m146) 400 _ [.long r144] _ _
  refine j_aload_n (pc := 400) C dL_law_400 rfl 2 rfl ?_
  refine j_aload_n (pc := 401) C dL_law_401 rfl 0 rfl ?_
  refine j_iload_n (pc := 402) C dL_law_402 rfl 3 rfl ?_
  refine j_iconst (pc := 403) (v := 1) C dL_law_403 (by decide) ?_
  refine j_iadd (pc := 404) C dL_law_404 ?_
  obtain ⟨g156, h⟩ := h
  refine j_sld (pc := 405) C hS g156 dL_law_405 ?_
  obtain ⟨hM, e160, h⟩ := h
  refine gJ.eqst (st' := [.int (xs ((v3 + (1 : Int32))).toNatClampNeg), .ref (V149.2.1 200), .long r144]) (by rw [e160]) ?_
  refine j_callV (pc := 406) (As := [.int (xs ((v3 + (1 : Int32))).toNatClampNeg)]) (st := [.long r144]) C hX 200 (m_X10_middle hM h) (c_200 hM).1 (c_200 hM).2 rfl ok_X10_middle wd_1155 wd_1156 wd_1157 ⟨Nat.le_of_ble_eq_true rfl, Nat.le_of_ble_eq_true rfl⟩ rfl rfl (Nat.le_of_ble_eq_true rfl) ⟨hcs.1, hcs.2⟩ dL_law_406 (fun r V1 I158 J159 hp => ?_)
  obtain ⟨r157, rfl, rfl, h⟩ := hp
  show gJ X V149 (c + m145) (s + m146) 409 _ [.long r157, .long r144] _ _
  refine j_lcmp (pc := 409) C dL_law_409 ?_
  refine j_if_eq (pc := 410) (tgt := 1128) C dL_law_410 (by decide) (fun q161 => ?_) (fun q161 => ?_)
  · have h := h.1 q161
    refine gJ.sub [0, 1, 2, 3] rfl ?_
    exact tA_L_law_1128 C hX hS hcs hK18 h
  · have h := h.2 q161
    refine j_iconst (pc := 413) (v := 0) C dL_law_413 (by decide) ?_
    exact absurd h id
set_option maxRecDepth 100000 in
set_option maxHeartbeats 4000000 in
theorem tA_L_law_415 {X : gX} {l : Launch} {D : va_G} {cy : Nat → ClassId} {L : Nat} {xs : Nat → Int32} {b : Nat} (C : gC X cL_law RL (some .boolean) 4 room_1) (hX : gIs X l D cy X.2.1.2.2.1.name) {Po : Unit} (hS : gLw X b L xs) {v1 : Nat} {v2 : Nat} {v3 : Int32} {V : gV} {c s : Nat} {I : gI} {J : gL} (hcs : c ≤ 600000 ∧ s ≤ 7302250) {K18 : Int32 → gV → Nat → Nat → gI → gL → Prop} (hK18 : ∀ (y3 : Int32) (V1 : gV) (c1 s1 : Nat) (I1 : gI) (J1 : gL), (c1 ≤ 600000 ∧ s1 ≤ 7302250) → K18 y3 V1 c1 s1 I1 J1 → gJ X V1 c1 s1 18 [(0, .ref b), (1, .ref v1), (2, .ref v2), (3, .int y3)] [] I1 J1) (h : wA_L_law_415 L xs Po K18 v1 v2 v3 V c s I J) : gJ X V c s 415 [(0, .ref b), (1, .ref v1), (2, .ref v2), (3, .int v3)] [] I J := by
  unfold wA_L_law_415 at h
  refine j_aload_n (pc := 415) C dL_law_415 rfl 1 rfl ?_
  refine j_aload_n (pc := 416) C dL_law_416 rfl 0 rfl ?_
  refine j_iload_n (pc := 417) C dL_law_417 rfl 3 rfl ?_
  refine j_iconst (pc := 418) (v := 1) C dL_law_418 (by decide) ?_
  refine j_iadd (pc := 419) C dL_law_419 ?_
  obtain ⟨g162, h⟩ := h
  refine j_sld (pc := 420) C hS g162 dL_law_420 ?_
  obtain ⟨pr, pc, pg, hT, hJG, e165, h⟩ := h
  refine gJ.eqst (st' := [.int (xs ((v3 + (1 : Int32))).toNatClampNeg), .ref (V.2.1 0)]) (by rw [e165]) ?_
  refine j_callV (pc := 421) (As := [.int (xs ((v3 + (1 : Int32))).toNatClampNeg)]) (st := []) C hX 0 (m_X9_piece hT hJG h) (c_0 hT).1 (c_0 hT).2 rfl ok_X9_piece wd_509 wd_510 wd_511 ⟨Nat.le_of_ble_eq_true rfl, Nat.le_of_ble_eq_true rfl⟩ rfl rfl (Nat.le_of_ble_eq_true rfl) ⟨hcs.1, hcs.2⟩ dL_law_421 (fun r V1 I164 J1 hp => ?_)
  obtain ⟨r163, rfl, rfl, rfl, h⟩ := hp
  show gJ X V (c) (s) 424 _ [.int r163] _ _
  refine j_aload_n (pc := 424) C dL_law_424 rfl 2 rfl ?_
  refine j_aload_n (pc := 425) C dL_law_425 rfl 0 rfl ?_
  refine j_iload_n (pc := 426) C dL_law_426 rfl 3 rfl ?_
  refine j_iconst (pc := 427) (v := 1) C dL_law_427 (by decide) ?_
  refine j_iadd (pc := 428) C dL_law_428 ?_
  obtain ⟨g166, h⟩ := h
  refine j_sld (pc := 429) C hS g166 dL_law_429 ?_
  obtain ⟨hM, e169, h⟩ := h
  refine gJ.eqst (st' := [.int (xs ((v3 + (1 : Int32))).toNatClampNeg), .ref (V.2.1 200), .int r163]) (by rw [e169]) ?_
  refine j_callV (pc := 430) (As := [.int (xs ((v3 + (1 : Int32))).toNatClampNeg)]) (st := [.int r163]) C hX 200 (m_X10_piece hM h) (c_200 hM).1 (c_200 hM).2 rfl ok_X10_piece wd_1159 wd_1160 wd_1161 ⟨Nat.le_of_ble_eq_true rfl, Nat.le_of_ble_eq_true rfl⟩ rfl rfl (Nat.le_of_ble_eq_true rfl) ⟨hcs.1, hcs.2⟩ dL_law_430 (fun r V1 I168 J1 hp => ?_)
  obtain ⟨r167, rfl, rfl, rfl, h⟩ := hp
  show gJ X V (c) (s) 433 _ [.int r167, .int r163] _ _
  refine j_icmp_eq (pc := 433) (tgt := 1128) C dL_law_433 (by decide) (fun q170 => ?_) (fun q170 => ?_)
  · have h := h.1 q170
    refine gJ.sub [0, 1, 2, 3] rfl ?_
    exact tA_L_law_1128 C hX hS hcs hK18 h
  · have h := h.2 q170
    refine j_iconst (pc := 436) (v := 0) C dL_law_436 (by decide) ?_
    exact absurd h id
set_option maxRecDepth 100000 in
set_option maxHeartbeats 4000000 in
theorem tA_L_law_438 {X : gX} {l : Launch} {D : va_G} {cy : Nat → ClassId} {L : Nat} {xs : Nat → Int32} {b : Nat} (C : gC X cL_law RL (some .boolean) 4 room_1) (hX : gIs X l D cy X.2.1.2.2.1.name) {Po : Unit} (hS : gLw X b L xs) {v1 : Nat} {v2 : Nat} {v3 : Int32} {V : gV} {c s : Nat} {I : gI} {J : gL} (hcs : c ≤ 600000 ∧ s ≤ 7302250) {K18 : Int32 → gV → Nat → Nat → gI → gL → Prop} (hK18 : ∀ (y3 : Int32) (V1 : gV) (c1 s1 : Nat) (I1 : gI) (J1 : gL), (c1 ≤ 600000 ∧ s1 ≤ 7302250) → K18 y3 V1 c1 s1 I1 J1 → gJ X V1 c1 s1 18 [(0, .ref b), (1, .ref v1), (2, .ref v2), (3, .int y3)] [] I1 J1) (h : wA_L_law_438 L xs Po K18 v1 v2 v3 V c s I J) : gJ X V c s 438 [(0, .ref b), (1, .ref v1), (2, .ref v2), (3, .int v3)] [] I J := by
  unfold wA_L_law_438 at h
  refine j_aload_n (pc := 438) C dL_law_438 rfl 1 rfl ?_
  obtain ⟨pr, pc, pg, hT, hJG, e173, h⟩ := h
  refine gJ.eqst (st' := [.ref (V.2.1 0)]) (by rw [e173]) ?_
  refine j_callV (pc := 439) (As := []) (st := []) C hX 0 (m_X9_unpiece hT hJG h) (c_0 hT).1 (c_0 hT).2 rfl ok_X9_unpiece wd_533 wd_534 wd_535 ⟨Nat.le_of_ble_eq_true rfl, Nat.le_of_ble_eq_true rfl⟩ rfl rfl (Nat.le_of_ble_eq_true rfl) ⟨hcs.1, hcs.2⟩ dL_law_439 (fun r V1 I172 J1 hp => ?_)
  obtain ⟨r171, rfl, rfl, rfl, h⟩ := hp
  show gJ X V (c) (s) 442 _ [.int r171] _ _
  refine j_aload_n (pc := 442) C dL_law_442 rfl 2 rfl ?_
  obtain ⟨hM, e176, h⟩ := h
  refine gJ.eqst (st' := [.ref (V.2.1 200), .int r171]) (by rw [e176]) ?_
  refine j_callV (pc := 443) (As := []) (st := [.int r171]) C hX 200 (m_X10_unpiece hM h) (c_200 hM).1 (c_200 hM).2 rfl ok_X10_unpiece wd_1170 wd_1171 wd_1172 ⟨Nat.le_of_ble_eq_true rfl, Nat.le_of_ble_eq_true rfl⟩ rfl rfl (Nat.le_of_ble_eq_true rfl) ⟨hcs.1, hcs.2⟩ dL_law_443 (fun r V1 I175 J1 hp => ?_)
  obtain ⟨r174, rfl, rfl, rfl, h⟩ := hp
  show gJ X V (c) (s) 446 _ [.int r174, .int r171] _ _
  refine j_icmp_eq (pc := 446) (tgt := 1128) C dL_law_446 (by decide) (fun q177 => ?_) (fun q177 => ?_)
  · have h := h.1 q177
    refine gJ.sub [0, 1, 2, 3] rfl ?_
    exact tA_L_law_1128 C hX hS hcs hK18 h
  · have h := h.2 q177
    refine j_iconst (pc := 449) (v := 0) C dL_law_449 (by decide) ?_
    exact absurd h id
set_option maxRecDepth 100000 in
set_option maxHeartbeats 4000000 in
theorem tA_L_law_451 {X : gX} {l : Launch} {D : va_G} {cy : Nat → ClassId} {L : Nat} {xs : Nat → Int32} {b : Nat} (C : gC X cL_law RL (some .boolean) 4 room_1) (hX : gIs X l D cy X.2.1.2.2.1.name) {Po : Unit} (hS : gLw X b L xs) {v1 : Nat} {v2 : Nat} {v3 : Int32} {V : gV} {c s : Nat} {I : gI} {J : gL} (hcs : c ≤ 600000 ∧ s ≤ 7302250) {K18 : Int32 → gV → Nat → Nat → gI → gL → Prop} (hK18 : ∀ (y3 : Int32) (V1 : gV) (c1 s1 : Nat) (I1 : gI) (J1 : gL), (c1 ≤ 600000 ∧ s1 ≤ 7302250) → K18 y3 V1 c1 s1 I1 J1 → gJ X V1 c1 s1 18 [(0, .ref b), (1, .ref v1), (2, .ref v2), (3, .int y3)] [] I1 J1) (h : wA_L_law_451 L xs Po K18 v1 v2 v3 V c s I J) : gJ X V c s 451 [(0, .ref b), (1, .ref v1), (2, .ref v2), (3, .int v3)] [] I J := by
  unfold wA_L_law_451 at h
  refine j_aload_n (pc := 451) C dL_law_451 rfl 1 rfl ?_
  refine j_aload_n (pc := 452) C dL_law_452 rfl 0 rfl ?_
  refine j_iload_n (pc := 453) C dL_law_453 rfl 3 rfl ?_
  refine j_iconst (pc := 454) (v := 1) C dL_law_454 (by decide) ?_
  refine j_iadd (pc := 455) C dL_law_455 ?_
  obtain ⟨g178, h⟩ := h
  refine j_sld (pc := 456) C hS g178 dL_law_456 ?_
  refine j_aload_n (pc := 457) C dL_law_457 rfl 0 rfl ?_
  refine j_iload_n (pc := 458) C dL_law_458 rfl 3 rfl ?_
  refine j_iconst (pc := 459) (v := 2) C dL_law_459 (by decide) ?_
  refine j_iadd (pc := 460) C dL_law_460 ?_
  obtain ⟨g179, h⟩ := h
  refine j_sld (pc := 461) C hS g179 dL_law_461 ?_
  refine j_aload_n (pc := 462) C dL_law_462 rfl 0 rfl ?_
  refine j_iload_n (pc := 463) C dL_law_463 rfl 3 rfl ?_
  refine j_iconst (pc := 464) (v := 3) C dL_law_464 (by decide) ?_
  refine j_iadd (pc := 465) C dL_law_465 ?_
  obtain ⟨g180, h⟩ := h
  refine j_sld (pc := 466) C hS g180 dL_law_466 ?_
  obtain ⟨pr, pc, pg, hT, hJG, e183, h⟩ := h
  refine gJ.eqst (st' := [.int (xs ((v3 + (3 : Int32))).toNatClampNeg), .int (xs ((v3 + (2 : Int32))).toNatClampNeg), .int (xs ((v3 + (1 : Int32))).toNatClampNeg), .ref (V.2.1 0)]) (by rw [e183]) ?_
  refine j_callV (pc := 467) (As := [.int (xs ((v3 + (1 : Int32))).toNatClampNeg), .int (xs ((v3 + (2 : Int32))).toNatClampNeg), .int (xs ((v3 + (3 : Int32))).toNatClampNeg)]) (st := []) C hX 0 (m_X9_board hT hJG h) (c_0 hT).1 (c_0 hT).2 rfl ok_X9_board wd_541 wd_542 wd_543 ⟨Nat.le_of_ble_eq_true rfl, Nat.le_of_ble_eq_true rfl⟩ rfl rfl (Nat.le_of_ble_eq_true rfl) ⟨hcs.1, hcs.2⟩ dL_law_467 (fun r V1 I182 J1 hp => ?_)
  obtain ⟨r181, rfl, rfl, rfl, h⟩ := hp
  show gJ X V (c) (s) 470 _ [.int r181] _ _
  refine j_aload_n (pc := 470) C dL_law_470 rfl 2 rfl ?_
  refine j_aload_n (pc := 471) C dL_law_471 rfl 0 rfl ?_
  refine j_iload_n (pc := 472) C dL_law_472 rfl 3 rfl ?_
  refine j_iconst (pc := 473) (v := 1) C dL_law_473 (by decide) ?_
  refine j_iadd (pc := 474) C dL_law_474 ?_
  obtain ⟨g184, h⟩ := h
  refine j_sld (pc := 475) C hS g184 dL_law_475 ?_
  refine j_aload_n (pc := 476) C dL_law_476 rfl 0 rfl ?_
  refine j_iload_n (pc := 477) C dL_law_477 rfl 3 rfl ?_
  refine j_iconst (pc := 478) (v := 2) C dL_law_478 (by decide) ?_
  refine j_iadd (pc := 479) C dL_law_479 ?_
  obtain ⟨g185, h⟩ := h
  refine j_sld (pc := 480) C hS g185 dL_law_480 ?_
  refine j_aload_n (pc := 481) C dL_law_481 rfl 0 rfl ?_
  refine j_iload_n (pc := 482) C dL_law_482 rfl 3 rfl ?_
  refine j_iconst (pc := 483) (v := 3) C dL_law_483 (by decide) ?_
  refine j_iadd (pc := 484) C dL_law_484 ?_
  obtain ⟨g186, h⟩ := h
  refine j_sld (pc := 485) C hS g186 dL_law_485 ?_
  obtain ⟨hM, e189, h⟩ := h
  refine gJ.eqst (st' := [.int (xs ((v3 + (3 : Int32))).toNatClampNeg), .int (xs ((v3 + (2 : Int32))).toNatClampNeg), .int (xs ((v3 + (1 : Int32))).toNatClampNeg), .ref (V.2.1 200), .int r181]) (by rw [e189]) ?_
  refine j_callV (pc := 486) (As := [.int (xs ((v3 + (1 : Int32))).toNatClampNeg), .int (xs ((v3 + (2 : Int32))).toNatClampNeg), .int (xs ((v3 + (3 : Int32))).toNatClampNeg)]) (st := [.int r181]) C hX 200 (m_X10_board hM h) (c_200 hM).1 (c_200 hM).2 rfl ok_X10_board wd_1174 wd_1175 wd_1176 ⟨Nat.le_of_ble_eq_true rfl, Nat.le_of_ble_eq_true rfl⟩ rfl rfl (Nat.le_of_ble_eq_true rfl) ⟨hcs.1, hcs.2⟩ dL_law_486 (fun r V1 I188 J1 hp => ?_)
  obtain ⟨r187, rfl, rfl, rfl, h⟩ := hp
  show gJ X V (c) (s) 489 _ [.int r187, .int r181] _ _
  refine j_icmp_eq (pc := 489) (tgt := 1128) C dL_law_489 (by decide) (fun q190 => ?_) (fun q190 => ?_)
  · have h := h.1 q190
    refine gJ.sub [0, 1, 2, 3] rfl ?_
    exact tA_L_law_1128 C hX hS hcs hK18 h
  · have h := h.2 q190
    refine j_iconst (pc := 492) (v := 0) C dL_law_492 (by decide) ?_
    exact absurd h id
set_option maxRecDepth 100000 in
set_option maxHeartbeats 4000000 in
theorem tA_L_law_535 {X : gX} {l : Launch} {D : va_G} {cy : Nat → ClassId} {L : Nat} {xs : Nat → Int32} {b : Nat} (C : gC X cL_law RL (some .boolean) 4 room_1) (hX : gIs X l D cy X.2.1.2.2.1.name) {Po : Unit} (hS : gLw X b L xs) {v1 : Nat} {v2 : Nat} {v3 : Int32} {s0 : Int32} {s1 : Int32} {s2 : Nat} {s3 : Int32} {V : gV} {c s : Nat} {I : gI} {J : gL} (hcs : c ≤ 600000 ∧ s ≤ 7302250) {K18 : Int32 → gV → Nat → Nat → gI → gL → Prop} (hK18 : ∀ (y3 : Int32) (V1 : gV) (c1 s1 : Nat) (I1 : gI) (J1 : gL), (c1 ≤ 600000 ∧ s1 ≤ 7302250) → K18 y3 V1 c1 s1 I1 J1 → gJ X V1 c1 s1 18 [(0, .ref b), (1, .ref v1), (2, .ref v2), (3, .int y3)] [] I1 J1) (h : wA_L_law_535 L xs Po K18 v1 v2 v3 s0 s1 s2 s3 V c s I J) : gJ X V c s 535 [(0, .ref b), (1, .ref v1), (2, .ref v2), (3, .int v3)] [.int s0, .int s1, .ref s2, .int s3] I J := by
  unfold wA_L_law_535 at h
  obtain ⟨hM, e202, h⟩ := h
  refine gJ.eqst (st' := [.int s0, .int s1, .ref (V.2.1 200), .int s3]) (by rw [e202]) ?_
  refine j_callV (pc := 535) (As := [.int s1, .int s0]) (st := [.int s3]) C hX 200 (m_X10_may hM h) (c_200 hM).1 (c_200 hM).2 rfl ok_X10_may wd_1178 wd_1179 wd_1180 ⟨Nat.le_of_ble_eq_true rfl, Nat.le_of_ble_eq_true rfl⟩ rfl rfl (Nat.le_of_ble_eq_true rfl) ⟨hcs.1, hcs.2⟩ dL_law_535 (fun r V1 I201 J1 hp => ?_)
  obtain ⟨r200, rfl, rfl, rfl, h⟩ := hp
  show gJ X V (c) (s) 538 _ [.int r200, .int s3] _ _
  refine j_icmp_eq (pc := 538) (tgt := 1128) C dL_law_538 (by decide) (fun q203 => ?_) (fun q203 => ?_)
  · have h := h.1 q203
    refine gJ.sub [0, 1, 2, 3] rfl ?_
    exact tA_L_law_1128 C hX hS hcs hK18 h
  · have h := h.2 q203
    refine j_iconst (pc := 541) (v := 0) C dL_law_541 (by decide) ?_
    exact absurd h id
set_option maxRecDepth 100000 in
set_option maxHeartbeats 4000000 in
theorem tA_L_law_513 {X : gX} {l : Launch} {D : va_G} {cy : Nat → ClassId} {L : Nat} {xs : Nat → Int32} {b : Nat} (C : gC X cL_law RL (some .boolean) 4 room_1) (hX : gIs X l D cy X.2.1.2.2.1.name) {Po : Unit} (hS : gLw X b L xs) {v1 : Nat} {v2 : Nat} {v3 : Int32} {s0 : Int32} {s1 : Int32} {s2 : Nat} {V : gV} {c s : Nat} {I : gI} {J : gL} (hcs : c ≤ 600000 ∧ s ≤ 7302250) {K18 : Int32 → gV → Nat → Nat → gI → gL → Prop} (hK18 : ∀ (y3 : Int32) (V1 : gV) (c1 s1 : Nat) (I1 : gI) (J1 : gL), (c1 ≤ 600000 ∧ s1 ≤ 7302250) → K18 y3 V1 c1 s1 I1 J1 → gJ X V1 c1 s1 18 [(0, .ref b), (1, .ref v1), (2, .ref v2), (3, .int y3)] [] I1 J1) (h : wA_L_law_513 L xs Po K18 v1 v2 v3 s0 s1 s2 V c s I J) : gJ X V c s 513 [(0, .ref b), (1, .ref v1), (2, .ref v2), (3, .int v3)] [.int s0, .int s1, .ref s2] I J := by
  unfold wA_L_law_513 at h
  obtain ⟨pr, pc, pg, hT, hJG, e196, h⟩ := h
  refine gJ.eqst (st' := [.int s0, .int s1, .ref (V.2.1 0)]) (by rw [e196]) ?_
  refine j_callV (pc := 513) (As := [.int s1, .int s0]) (st := []) C hX 0 (m_X9_may hT hJG h) (c_0 hT).1 (c_0 hT).2 rfl ok_X9_may wd_549 wd_550 wd_551 ⟨Nat.le_of_ble_eq_true rfl, Nat.le_of_ble_eq_true rfl⟩ rfl rfl (Nat.le_of_ble_eq_true rfl) ⟨hcs.1, hcs.2⟩ dL_law_513 (fun r V1 I195 J1 hp => ?_)
  obtain ⟨r194, rfl, rfl, rfl, h⟩ := hp
  show gJ X V (c) (s) 516 _ [.int r194] _ _
  refine j_aload_n (pc := 516) C dL_law_516 rfl 2 rfl ?_
  refine j_aload_n (pc := 517) C dL_law_517 rfl 0 rfl ?_
  refine j_iload_n (pc := 518) C dL_law_518 rfl 3 rfl ?_
  refine j_iconst (pc := 519) (v := 1) C dL_law_519 (by decide) ?_
  refine j_iadd (pc := 520) C dL_law_520 ?_
  obtain ⟨g197, h⟩ := h
  refine j_sld (pc := 521) C hS g197 dL_law_521 ?_
  refine j_aload_n (pc := 522) C dL_law_522 rfl 0 rfl ?_
  refine j_iload_n (pc := 523) C dL_law_523 rfl 3 rfl ?_
  refine j_iconst (pc := 524) (v := 2) C dL_law_524 (by decide) ?_
  refine j_iadd (pc := 525) C dL_law_525 ?_
  obtain ⟨g198, h⟩ := h
  refine j_sld (pc := 526) C hS g198 dL_law_526 ?_
  refine j_if_eq (pc := 527) (tgt := 534) C dL_law_527 (by decide) (fun q199 => ?_) (fun q199 => ?_)
  · have h := h.1 q199
    refine j_iconst (pc := 534) (v := 0) C dL_law_534 (by decide) ?_
    refine gJ.sub [0, 1, 2, 3] rfl ?_
    exact tA_L_law_535 C hX hS hcs hK18 h
  · have h := h.2 q199
    refine j_iconst (pc := 530) (v := 1) C dL_law_530 (by decide) ?_
    refine j_goto (pc := 531) (tgt := 535) C dL_law_531 (by decide) ?_
    refine gJ.sub [0, 1, 2, 3] rfl ?_
    exact tA_L_law_535 C hX hS hcs hK18 h
set_option maxRecDepth 100000 in
set_option maxHeartbeats 4000000 in
theorem tA_L_law_494 {X : gX} {l : Launch} {D : va_G} {cy : Nat → ClassId} {L : Nat} {xs : Nat → Int32} {b : Nat} (C : gC X cL_law RL (some .boolean) 4 room_1) (hX : gIs X l D cy X.2.1.2.2.1.name) {Po : Unit} (hS : gLw X b L xs) {v1 : Nat} {v2 : Nat} {v3 : Int32} {V : gV} {c s : Nat} {I : gI} {J : gL} (hcs : c ≤ 600000 ∧ s ≤ 7302250) {K18 : Int32 → gV → Nat → Nat → gI → gL → Prop} (hK18 : ∀ (y3 : Int32) (V1 : gV) (c1 s1 : Nat) (I1 : gI) (J1 : gL), (c1 ≤ 600000 ∧ s1 ≤ 7302250) → K18 y3 V1 c1 s1 I1 J1 → gJ X V1 c1 s1 18 [(0, .ref b), (1, .ref v1), (2, .ref v2), (3, .int y3)] [] I1 J1) (h : wA_L_law_494 L xs Po K18 v1 v2 v3 V c s I J) : gJ X V c s 494 [(0, .ref b), (1, .ref v1), (2, .ref v2), (3, .int v3)] [] I J := by
  unfold wA_L_law_494 at h
  refine j_aload_n (pc := 494) C dL_law_494 rfl 1 rfl ?_
  refine j_aload_n (pc := 495) C dL_law_495 rfl 0 rfl ?_
  refine j_iload_n (pc := 496) C dL_law_496 rfl 3 rfl ?_
  refine j_iconst (pc := 497) (v := 1) C dL_law_497 (by decide) ?_
  refine j_iadd (pc := 498) C dL_law_498 ?_
  obtain ⟨g191, h⟩ := h
  refine j_sld (pc := 499) C hS g191 dL_law_499 ?_
  refine j_aload_n (pc := 500) C dL_law_500 rfl 0 rfl ?_
  refine j_iload_n (pc := 501) C dL_law_501 rfl 3 rfl ?_
  refine j_iconst (pc := 502) (v := 2) C dL_law_502 (by decide) ?_
  refine j_iadd (pc := 503) C dL_law_503 ?_
  obtain ⟨g192, h⟩ := h
  refine j_sld (pc := 504) C hS g192 dL_law_504 ?_
  refine j_if_eq (pc := 505) (tgt := 512) C dL_law_505 (by decide) (fun q193 => ?_) (fun q193 => ?_)
  · have h := h.1 q193
    refine j_iconst (pc := 512) (v := 0) C dL_law_512 (by decide) ?_
    refine gJ.sub [0, 1, 2, 3] rfl ?_
    exact tA_L_law_513 C hX hS hcs hK18 h
  · have h := h.2 q193
    refine j_iconst (pc := 508) (v := 1) C dL_law_508 (by decide) ?_
    refine j_goto (pc := 509) (tgt := 513) C dL_law_509 (by decide) ?_
    refine gJ.sub [0, 1, 2, 3] rfl ?_
    exact tA_L_law_513 C hX hS hcs hK18 h
set_option maxRecDepth 100000 in
set_option maxHeartbeats 4000000 in
theorem tA_L_law_543 {X : gX} {l : Launch} {D : va_G} {cy : Nat → ClassId} {L : Nat} {xs : Nat → Int32} {b : Nat} (C : gC X cL_law RL (some .boolean) 4 room_1) (hX : gIs X l D cy X.2.1.2.2.1.name) {Po : Unit} (hS : gLw X b L xs) {v1 : Nat} {v2 : Nat} {v3 : Int32} {V : gV} {c s : Nat} {I : gI} {J : gL} (hcs : c ≤ 600000 ∧ s ≤ 7302250) {K18 : Int32 → gV → Nat → Nat → gI → gL → Prop} (hK18 : ∀ (y3 : Int32) (V1 : gV) (c1 s1 : Nat) (I1 : gI) (J1 : gL), (c1 ≤ 600000 ∧ s1 ≤ 7302250) → K18 y3 V1 c1 s1 I1 J1 → gJ X V1 c1 s1 18 [(0, .ref b), (1, .ref v1), (2, .ref v2), (3, .int y3)] [] I1 J1) (h : wA_L_law_543 L xs Po K18 v1 v2 v3 V c s I J) : gJ X V c s 543 [(0, .ref b), (1, .ref v1), (2, .ref v2), (3, .int v3)] [] I J := by
  unfold wA_L_law_543 at h
  refine j_aload_n (pc := 543) C dL_law_543 rfl 1 rfl ?_
  refine j_aload_n (pc := 544) C dL_law_544 rfl 0 rfl ?_
  refine j_iload_n (pc := 545) C dL_law_545 rfl 3 rfl ?_
  refine j_iconst (pc := 546) (v := 1) C dL_law_546 (by decide) ?_
  refine j_iadd (pc := 547) C dL_law_547 ?_
  obtain ⟨g204, h⟩ := h
  refine j_sld (pc := 548) C hS g204 dL_law_548 ?_
  obtain ⟨pr, pc, pg, hT, hJG, e207, h⟩ := h
  refine gJ.eqst (st' := [.int (xs ((v3 + (1 : Int32))).toNatClampNeg), .ref (V.2.1 0)]) (by rw [e207]) ?_
  refine j_callV (pc := 549) (As := [.int (xs ((v3 + (1 : Int32))).toNatClampNeg)]) (st := []) C hX 0 (m_X9_placements hT hJG h) (c_0 hT).1 (c_0 hT).2 rfl ok_X9_placements wd_561 wd_562 wd_563 ⟨Nat.le_of_ble_eq_true rfl, Nat.le_of_ble_eq_true rfl⟩ rfl rfl (Nat.le_of_ble_eq_true rfl) ⟨hcs.1, hcs.2⟩ dL_law_549 (fun r V1 I206 J1 hp => ?_)
  obtain ⟨r205, rfl, rfl, rfl, h⟩ := hp
  show gJ X V (c) (s) 552 _ [.int r205] _ _
  refine j_aload_n (pc := 552) C dL_law_552 rfl 2 rfl ?_
  refine j_aload_n (pc := 553) C dL_law_553 rfl 0 rfl ?_
  refine j_iload_n (pc := 554) C dL_law_554 rfl 3 rfl ?_
  refine j_iconst (pc := 555) (v := 1) C dL_law_555 (by decide) ?_
  refine j_iadd (pc := 556) C dL_law_556 ?_
  obtain ⟨g208, h⟩ := h
  refine j_sld (pc := 557) C hS g208 dL_law_557 ?_
  obtain ⟨hM, e211, h⟩ := h
  refine gJ.eqst (st' := [.int (xs ((v3 + (1 : Int32))).toNatClampNeg), .ref (V.2.1 200), .int r205]) (by rw [e211]) ?_
  refine j_callV (pc := 558) (As := [.int (xs ((v3 + (1 : Int32))).toNatClampNeg)]) (st := [.int r205]) C hX 200 (m_X10_placements hM h) (c_200 hM).1 (c_200 hM).2 rfl ok_X10_placements wd_1182 wd_1183 wd_1184 ⟨Nat.le_of_ble_eq_true rfl, Nat.le_of_ble_eq_true rfl⟩ rfl rfl (Nat.le_of_ble_eq_true rfl) ⟨hcs.1, hcs.2⟩ dL_law_558 (fun r V1 I210 J1 hp => ?_)
  obtain ⟨r209, rfl, rfl, rfl, h⟩ := hp
  show gJ X V (c) (s) 561 _ [.int r209, .int r205] _ _
  refine j_icmp_eq (pc := 561) (tgt := 1128) C dL_law_561 (by decide) (fun q212 => ?_) (fun q212 => ?_)
  · have h := h.1 q212
    refine gJ.sub [0, 1, 2, 3] rfl ?_
    exact tA_L_law_1128 C hX hS hcs hK18 h
  · have h := h.2 q212
    refine j_iconst (pc := 564) (v := 0) C dL_law_564 (by decide) ?_
    exact absurd h id
set_option maxRecDepth 100000 in
set_option maxHeartbeats 4000000 in
theorem tA_L_law_566 {X : gX} {l : Launch} {D : va_G} {cy : Nat → ClassId} {L : Nat} {xs : Nat → Int32} {b : Nat} (C : gC X cL_law RL (some .boolean) 4 room_1) (hX : gIs X l D cy X.2.1.2.2.1.name) {Po : Unit} (hS : gLw X b L xs) {v1 : Nat} {v2 : Nat} {v3 : Int32} {V : gV} {c s : Nat} {I : gI} {J : gL} (hcs : c ≤ 600000 ∧ s ≤ 7302250) {K18 : Int32 → gV → Nat → Nat → gI → gL → Prop} (hK18 : ∀ (y3 : Int32) (V1 : gV) (c1 s1 : Nat) (I1 : gI) (J1 : gL), (c1 ≤ 600000 ∧ s1 ≤ 7302250) → K18 y3 V1 c1 s1 I1 J1 → gJ X V1 c1 s1 18 [(0, .ref b), (1, .ref v1), (2, .ref v2), (3, .int y3)] [] I1 J1) (h : wA_L_law_566 L xs Po K18 v1 v2 v3 V c s I J) : gJ X V c s 566 [(0, .ref b), (1, .ref v1), (2, .ref v2), (3, .int v3)] [] I J := by
  unfold wA_L_law_566 at h
  refine j_aload_n (pc := 566) C dL_law_566 rfl 1 rfl ?_
  refine j_aload_n (pc := 567) C dL_law_567 rfl 0 rfl ?_
  refine j_iload_n (pc := 568) C dL_law_568 rfl 3 rfl ?_
  refine j_iconst (pc := 569) (v := 1) C dL_law_569 (by decide) ?_
  refine j_iadd (pc := 570) C dL_law_570 ?_
  obtain ⟨g213, h⟩ := h
  refine j_sld (pc := 571) C hS g213 dL_law_571 ?_
  obtain ⟨sl225, m215, m216, hk223, e222, hd224, g217, g218, h⟩ := h
  refine gJ.eqst (st' := [.int (xs ((v3 + (1 : Int32))).toNatClampNeg), .ref (V.2.1 0)]) (by rw [e222]) ?_
  refine j_callV (pc := 572) (As := [.int (xs ((v3 + (1 : Int32))).toNatClampNeg)]) (st := []) C hX 0 (gMet.at e222 (n_X9_covers h)) hk223 hd224 rfl ok_X9_covers wd_598 wd_599 wd_600 ⟨Nat.le_of_ble_eq_true rfl, Nat.le_of_ble_eq_true rfl⟩ rfl rfl (Nat.le_of_ble_eq_true rfl) ⟨g217, g218⟩ dL_law_572 (fun r V219 I220 J221 hp => ?_)
  obtain ⟨r214, rfl, h⟩ := hp
  have hcs : _ ∧ _ := ⟨g217, g218⟩
  show gJ X V219 (c + m215) (s + m216) 575 _ [.long r214] _ _
  refine j_aload_n (pc := 575) C dL_law_575 rfl 2 rfl ?_
  refine j_aload_n (pc := 576) C dL_law_576 rfl 0 rfl ?_
  refine j_iload_n (pc := 577) C dL_law_577 rfl 3 rfl ?_
  refine j_iconst (pc := 578) (v := 1) C dL_law_578 (by decide) ?_
  refine j_iadd (pc := 579) C dL_law_579 ?_
  obtain ⟨g226, h⟩ := h
  refine j_sld (pc := 580) C hS g226 dL_law_580 ?_
  obtain ⟨hM, e230, h⟩ := h
  refine gJ.eqst (st' := [.int (xs ((v3 + (1 : Int32))).toNatClampNeg), .ref (V219.2.1 200), .long r214]) (by rw [e230]) ?_
  refine j_callV (pc := 581) (As := [.int (xs ((v3 + (1 : Int32))).toNatClampNeg)]) (st := [.long r214]) C hX 200 (m_X10_covers hM h) (c_200 hM).1 (c_200 hM).2 rfl ok_X10_covers wd_1202 wd_1203 wd_1204 ⟨Nat.le_of_ble_eq_true rfl, Nat.le_of_ble_eq_true rfl⟩ rfl rfl (Nat.le_of_ble_eq_true rfl) ⟨hcs.1, hcs.2⟩ dL_law_581 (fun r V1 I228 J229 hp => ?_)
  obtain ⟨r227, rfl, rfl, h⟩ := hp
  show gJ X V219 (c + m215) (s + m216) 584 _ [.long r227, .long r214] _ _
  refine j_lcmp (pc := 584) C dL_law_584 ?_
  refine j_if_eq (pc := 585) (tgt := 1128) C dL_law_585 (by decide) (fun q231 => ?_) (fun q231 => ?_)
  · have h := h.1 q231
    refine gJ.sub [0, 1, 2, 3] rfl ?_
    exact tA_L_law_1128 C hX hS hcs hK18 h
  · have h := h.2 q231
    refine j_iconst (pc := 588) (v := 0) C dL_law_588 (by decide) ?_
    exact absurd h id
set_option maxRecDepth 100000 in
set_option maxHeartbeats 4000000 in
theorem tA_L_law_590 {X : gX} {l : Launch} {D : va_G} {cy : Nat → ClassId} {L : Nat} {xs : Nat → Int32} {b : Nat} (C : gC X cL_law RL (some .boolean) 4 room_1) (hX : gIs X l D cy X.2.1.2.2.1.name) {Po : Unit} (hS : gLw X b L xs) {v1 : Nat} {v2 : Nat} {v3 : Int32} {V : gV} {c s : Nat} {I : gI} {J : gL} (hcs : c ≤ 600000 ∧ s ≤ 7302250) {K18 : Int32 → gV → Nat → Nat → gI → gL → Prop} (hK18 : ∀ (y3 : Int32) (V1 : gV) (c1 s1 : Nat) (I1 : gI) (J1 : gL), (c1 ≤ 600000 ∧ s1 ≤ 7302250) → K18 y3 V1 c1 s1 I1 J1 → gJ X V1 c1 s1 18 [(0, .ref b), (1, .ref v1), (2, .ref v2), (3, .int y3)] [] I1 J1) (h : wA_L_law_590 L xs Po K18 v1 v2 v3 V c s I J) : gJ X V c s 590 [(0, .ref b), (1, .ref v1), (2, .ref v2), (3, .int v3)] [] I J := by
  unfold wA_L_law_590 at h
  refine j_aload_n (pc := 590) C dL_law_590 rfl 1 rfl ?_
  refine j_aload_n (pc := 591) C dL_law_591 rfl 0 rfl ?_
  refine j_iload_n (pc := 592) C dL_law_592 rfl 3 rfl ?_
  refine j_iconst (pc := 593) (v := 1) C dL_law_593 (by decide) ?_
  refine j_iadd (pc := 594) C dL_law_594 ?_
  obtain ⟨g232, h⟩ := h
  refine j_sld (pc := 595) C hS g232 dL_law_595 ?_
  refine j_aload_n (pc := 596) C dL_law_596 rfl 0 rfl ?_
  refine j_iload_n (pc := 597) C dL_law_597 rfl 3 rfl ?_
  refine j_iconst (pc := 598) (v := 2) C dL_law_598 (by decide) ?_
  refine j_iadd (pc := 599) C dL_law_599 ?_
  obtain ⟨g233, h⟩ := h
  refine j_sld (pc := 600) C hS g233 dL_law_600 ?_
  refine j_aload_n (pc := 601) C dL_law_601 rfl 0 rfl ?_
  refine j_iload_n (pc := 602) C dL_law_602 rfl 3 rfl ?_
  refine j_iconst (pc := 603) (v := 3) C dL_law_603 (by decide) ?_
  refine j_iadd (pc := 604) C dL_law_604 ?_
  obtain ⟨g234, h⟩ := h
  refine j_sld (pc := 605) C hS g234 dL_law_605 ?_
  refine j_aload_n (pc := 606) C dL_law_606 rfl 0 rfl ?_
  refine j_iload_n (pc := 607) C dL_law_607 rfl 3 rfl ?_
  refine j_iconst (pc := 608) (v := 4) C dL_law_608 (by decide) ?_
  refine j_iadd (pc := 609) C dL_law_609 ?_
  obtain ⟨g235, h⟩ := h
  refine j_sld (pc := 610) C hS g235 dL_law_610 ?_
  obtain ⟨sl247, m237, m238, hk245, e244, hd246, g239, g240, h⟩ := h
  refine gJ.eqst (st' := [.int (xs ((v3 + (4 : Int32))).toNatClampNeg), .int (xs ((v3 + (3 : Int32))).toNatClampNeg), .int (xs ((v3 + (2 : Int32))).toNatClampNeg), .int (xs ((v3 + (1 : Int32))).toNatClampNeg), .ref (V.2.1 0)]) (by rw [e244]) ?_
  refine j_callV (pc := 611) (As := [.int (xs ((v3 + (1 : Int32))).toNatClampNeg), .int (xs ((v3 + (2 : Int32))).toNatClampNeg), .int (xs ((v3 + (3 : Int32))).toNatClampNeg), .int (xs ((v3 + (4 : Int32))).toNatClampNeg)]) (st := []) C hX 0 (gMet.at e244 (n_X9_cover h)) hk245 hd246 rfl ok_X9_cover wd_697 wd_698 wd_699 ⟨Nat.le_of_ble_eq_true rfl, Nat.le_of_ble_eq_true rfl⟩ rfl rfl (Nat.le_of_ble_eq_true rfl) ⟨g239, g240⟩ dL_law_611 (fun r V241 I242 J243 hp => ?_)
  obtain ⟨r236, rfl, h⟩ := hp
  have hcs : _ ∧ _ := ⟨g239, g240⟩
  show gJ X V241 (c + m237) (s + m238) 614 _ [.int r236] _ _
  refine j_aload_n (pc := 614) C dL_law_614 rfl 2 rfl ?_
  refine j_aload_n (pc := 615) C dL_law_615 rfl 0 rfl ?_
  refine j_iload_n (pc := 616) C dL_law_616 rfl 3 rfl ?_
  refine j_iconst (pc := 617) (v := 1) C dL_law_617 (by decide) ?_
  refine j_iadd (pc := 618) C dL_law_618 ?_
  obtain ⟨g248, h⟩ := h
  refine j_sld (pc := 619) C hS g248 dL_law_619 ?_
  refine j_aload_n (pc := 620) C dL_law_620 rfl 0 rfl ?_
  refine j_iload_n (pc := 621) C dL_law_621 rfl 3 rfl ?_
  refine j_iconst (pc := 622) (v := 2) C dL_law_622 (by decide) ?_
  refine j_iadd (pc := 623) C dL_law_623 ?_
  obtain ⟨g249, h⟩ := h
  refine j_sld (pc := 624) C hS g249 dL_law_624 ?_
  refine j_aload_n (pc := 625) C dL_law_625 rfl 0 rfl ?_
  refine j_iload_n (pc := 626) C dL_law_626 rfl 3 rfl ?_
  refine j_iconst (pc := 627) (v := 3) C dL_law_627 (by decide) ?_
  refine j_iadd (pc := 628) C dL_law_628 ?_
  obtain ⟨g250, h⟩ := h
  refine j_sld (pc := 629) C hS g250 dL_law_629 ?_
  refine j_aload_n (pc := 630) C dL_law_630 rfl 0 rfl ?_
  refine j_iload_n (pc := 631) C dL_law_631 rfl 3 rfl ?_
  refine j_iconst (pc := 632) (v := 4) C dL_law_632 (by decide) ?_
  refine j_iadd (pc := 633) C dL_law_633 ?_
  obtain ⟨g251, h⟩ := h
  refine j_sld (pc := 634) C hS g251 dL_law_634 ?_
  obtain ⟨hM, e255, h⟩ := h
  refine gJ.eqst (st' := [.int (xs ((v3 + (4 : Int32))).toNatClampNeg), .int (xs ((v3 + (3 : Int32))).toNatClampNeg), .int (xs ((v3 + (2 : Int32))).toNatClampNeg), .int (xs ((v3 + (1 : Int32))).toNatClampNeg), .ref (V241.2.1 200), .int r236]) (by rw [e255]) ?_
  refine j_callV (pc := 635) (As := [.int (xs ((v3 + (1 : Int32))).toNatClampNeg), .int (xs ((v3 + (2 : Int32))).toNatClampNeg), .int (xs ((v3 + (3 : Int32))).toNatClampNeg), .int (xs ((v3 + (4 : Int32))).toNatClampNeg)]) (st := [.int r236]) C hX 200 (m_X10_cover hM h) (c_200 hM).1 (c_200 hM).2 rfl ok_X10_cover wd_1225 wd_1226 wd_1227 ⟨Nat.le_of_ble_eq_true rfl, Nat.le_of_ble_eq_true rfl⟩ rfl rfl (Nat.le_of_ble_eq_true rfl) ⟨hcs.1, hcs.2⟩ dL_law_635 (fun r V1 I253 J254 hp => ?_)
  obtain ⟨r252, rfl, rfl, h⟩ := hp
  show gJ X V241 (c + m237) (s + m238) 638 _ [.int r252, .int r236] _ _
  refine j_icmp_eq (pc := 638) (tgt := 1128) C dL_law_638 (by decide) (fun q256 => ?_) (fun q256 => ?_)
  · have h := h.1 q256
    refine gJ.sub [0, 1, 2, 3] rfl ?_
    exact tA_L_law_1128 C hX hS hcs hK18 h
  · have h := h.2 q256
    refine j_iconst (pc := 641) (v := 0) C dL_law_641 (by decide) ?_
    exact absurd h id
set_option maxRecDepth 100000 in
set_option maxHeartbeats 4000000 in
theorem tA_L_law_643 {X : gX} {l : Launch} {D : va_G} {cy : Nat → ClassId} {L : Nat} {xs : Nat → Int32} {b : Nat} (C : gC X cL_law RL (some .boolean) 4 room_1) (hX : gIs X l D cy X.2.1.2.2.1.name) {Po : Unit} (hS : gLw X b L xs) {v1 : Nat} {v2 : Nat} {v3 : Int32} {V : gV} {c s : Nat} {I : gI} {J : gL} (hcs : c ≤ 600000 ∧ s ≤ 7302250) {K18 : Int32 → gV → Nat → Nat → gI → gL → Prop} (hK18 : ∀ (y3 : Int32) (V1 : gV) (c1 s1 : Nat) (I1 : gI) (J1 : gL), (c1 ≤ 600000 ∧ s1 ≤ 7302250) → K18 y3 V1 c1 s1 I1 J1 → gJ X V1 c1 s1 18 [(0, .ref b), (1, .ref v1), (2, .ref v2), (3, .int y3)] [] I1 J1) (h : wA_L_law_643 L xs Po K18 v1 v2 v3 V c s I J) : gJ X V c s 643 [(0, .ref b), (1, .ref v1), (2, .ref v2), (3, .int v3)] [] I J := by
  unfold wA_L_law_643 at h
  refine j_aload_n (pc := 643) C dL_law_643 rfl 1 rfl ?_
  refine j_aload_n (pc := 644) C dL_law_644 rfl 0 rfl ?_
  refine j_iload_n (pc := 645) C dL_law_645 rfl 3 rfl ?_
  refine j_iconst (pc := 646) (v := 1) C dL_law_646 (by decide) ?_
  refine j_iadd (pc := 647) C dL_law_647 ?_
  obtain ⟨g257, h⟩ := h
  refine j_sld (pc := 648) C hS g257 dL_law_648 ?_
  obtain ⟨sl269, m259, m260, hk267, e266, hd268, g261, g262, h⟩ := h
  refine gJ.eqst (st' := [.int (xs ((v3 + (1 : Int32))).toNatClampNeg), .ref (V.2.1 0)]) (by rw [e266]) ?_
  refine j_callV (pc := 649) (As := [.int (xs ((v3 + (1 : Int32))).toNatClampNeg)]) (st := []) C hX 0 (gMet.at e266 (n_X9_fewest h)) hk267 hd268 rfl ok_X9_fewest wd_709 wd_710 wd_711 ⟨Nat.le_of_ble_eq_true rfl, Nat.le_of_ble_eq_true rfl⟩ rfl rfl (Nat.le_of_ble_eq_true rfl) ⟨g261, g262⟩ dL_law_649 (fun r V263 I264 J265 hp => ?_)
  obtain ⟨r258, rfl, h⟩ := hp
  have hcs : _ ∧ _ := ⟨g261, g262⟩
  show gJ X V263 (c + m259) (s + m260) 652 _ [.int r258] _ _
  refine j_aload_n (pc := 652) C dL_law_652 rfl 2 rfl ?_
  refine j_aload_n (pc := 653) C dL_law_653 rfl 0 rfl ?_
  refine j_iload_n (pc := 654) C dL_law_654 rfl 3 rfl ?_
  refine j_iconst (pc := 655) (v := 1) C dL_law_655 (by decide) ?_
  refine j_iadd (pc := 656) C dL_law_656 ?_
  obtain ⟨g270, h⟩ := h
  refine j_sld (pc := 657) C hS g270 dL_law_657 ?_
  obtain ⟨hM, e274, h⟩ := h
  refine gJ.eqst (st' := [.int (xs ((v3 + (1 : Int32))).toNatClampNeg), .ref (V263.2.1 200), .int r258]) (by rw [e274]) ?_
  refine j_callV (pc := 658) (As := [.int (xs ((v3 + (1 : Int32))).toNatClampNeg)]) (st := [.int r258]) C hX 200 (m_X10_fewest hM h) (c_200 hM).1 (c_200 hM).2 rfl ok_X10_fewest wd_1233 wd_1234 wd_1235 ⟨Nat.le_of_ble_eq_true rfl, Nat.le_of_ble_eq_true rfl⟩ rfl rfl (Nat.le_of_ble_eq_true rfl) ⟨hcs.1, hcs.2⟩ dL_law_658 (fun r V1 I272 J273 hp => ?_)
  obtain ⟨r271, rfl, rfl, h⟩ := hp
  show gJ X V263 (c + m259) (s + m260) 661 _ [.int r271, .int r258] _ _
  refine j_icmp_eq (pc := 661) (tgt := 1128) C dL_law_661 (by decide) (fun q275 => ?_) (fun q275 => ?_)
  · have h := h.1 q275
    refine gJ.sub [0, 1, 2, 3] rfl ?_
    exact tA_L_law_1128 C hX hS hcs hK18 h
  · have h := h.2 q275
    refine j_iconst (pc := 664) (v := 0) C dL_law_664 (by decide) ?_
    exact absurd h id
set_option maxRecDepth 100000 in
set_option maxHeartbeats 4000000 in
theorem tA_L_law_666 {X : gX} {l : Launch} {D : va_G} {cy : Nat → ClassId} {L : Nat} {xs : Nat → Int32} {b : Nat} (C : gC X cL_law RL (some .boolean) 4 room_1) (hX : gIs X l D cy X.2.1.2.2.1.name) {Po : Unit} (hS : gLw X b L xs) {v1 : Nat} {v2 : Nat} {v3 : Int32} {V : gV} {c s : Nat} {I : gI} {J : gL} (hcs : c ≤ 600000 ∧ s ≤ 7302250) {K18 : Int32 → gV → Nat → Nat → gI → gL → Prop} (hK18 : ∀ (y3 : Int32) (V1 : gV) (c1 s1 : Nat) (I1 : gI) (J1 : gL), (c1 ≤ 600000 ∧ s1 ≤ 7302250) → K18 y3 V1 c1 s1 I1 J1 → gJ X V1 c1 s1 18 [(0, .ref b), (1, .ref v1), (2, .ref v2), (3, .int y3)] [] I1 J1) (h : wA_L_law_666 L xs Po K18 v1 v2 v3 V c s I J) : gJ X V c s 666 [(0, .ref b), (1, .ref v1), (2, .ref v2), (3, .int v3)] [] I J := by
  unfold wA_L_law_666 at h
  refine j_aload_n (pc := 666) C dL_law_666 rfl 1 rfl ?_
  refine j_aload_n (pc := 667) C dL_law_667 rfl 0 rfl ?_
  refine j_iload_n (pc := 668) C dL_law_668 rfl 3 rfl ?_
  refine j_iconst (pc := 669) (v := 1) C dL_law_669 (by decide) ?_
  refine j_iadd (pc := 670) C dL_law_670 ?_
  obtain ⟨g276, h⟩ := h
  refine j_sld (pc := 671) C hS g276 dL_law_671 ?_
  refine j_aload_n (pc := 672) C dL_law_672 rfl 0 rfl ?_
  refine j_iload_n (pc := 673) C dL_law_673 rfl 3 rfl ?_
  refine j_iconst (pc := 674) (v := 2) C dL_law_674 (by decide) ?_
  refine j_iadd (pc := 675) C dL_law_675 ?_
  obtain ⟨g277, h⟩ := h
  refine j_sld (pc := 676) C hS g277 dL_law_676 ?_
  obtain ⟨pr, pc, pg, hT, hBL, e280, h⟩ := h
  refine gJ.eqst (st' := [.int (xs ((v3 + (2 : Int32))).toNatClampNeg), .int (xs ((v3 + (1 : Int32))).toNatClampNeg), .ref (V.2.1 0)]) (by rw [e280]) ?_
  refine j_callV (pc := 677) (As := [.int (xs ((v3 + (1 : Int32))).toNatClampNeg), .int (xs ((v3 + (2 : Int32))).toNatClampNeg)]) (st := []) C hX 0 (m_X9_letters hT hBL h) (c_0 hT).1 (c_0 hT).2 rfl ok_X9_letters wd_717 wd_718 wd_719 ⟨Nat.le_of_ble_eq_true rfl, Nat.le_of_ble_eq_true rfl⟩ rfl rfl (Nat.le_of_ble_eq_true rfl) ⟨hcs.1, hcs.2⟩ dL_law_677 (fun r V1 I279 J1 hp => ?_)
  obtain ⟨r278, rfl, rfl, rfl, h⟩ := hp
  show gJ X V (c) (s) 680 _ [.int r278] _ _
  refine j_aload_n (pc := 680) C dL_law_680 rfl 2 rfl ?_
  refine j_aload_n (pc := 681) C dL_law_681 rfl 0 rfl ?_
  refine j_iload_n (pc := 682) C dL_law_682 rfl 3 rfl ?_
  refine j_iconst (pc := 683) (v := 1) C dL_law_683 (by decide) ?_
  refine j_iadd (pc := 684) C dL_law_684 ?_
  obtain ⟨g281, h⟩ := h
  refine j_sld (pc := 685) C hS g281 dL_law_685 ?_
  refine j_aload_n (pc := 686) C dL_law_686 rfl 0 rfl ?_
  refine j_iload_n (pc := 687) C dL_law_687 rfl 3 rfl ?_
  refine j_iconst (pc := 688) (v := 2) C dL_law_688 (by decide) ?_
  refine j_iadd (pc := 689) C dL_law_689 ?_
  obtain ⟨g282, h⟩ := h
  refine j_sld (pc := 690) C hS g282 dL_law_690 ?_
  obtain ⟨hM, e285, h⟩ := h
  refine gJ.eqst (st' := [.int (xs ((v3 + (2 : Int32))).toNatClampNeg), .int (xs ((v3 + (1 : Int32))).toNatClampNeg), .ref (V.2.1 200), .int r278]) (by rw [e285]) ?_
  refine j_callV (pc := 691) (As := [.int (xs ((v3 + (1 : Int32))).toNatClampNeg), .int (xs ((v3 + (2 : Int32))).toNatClampNeg)]) (st := [.int r278]) C hX 200 (m_X10_letters hM h) (c_200 hM).1 (c_200 hM).2 rfl ok_X10_letters wd_1237 wd_1238 wd_1239 ⟨Nat.le_of_ble_eq_true rfl, Nat.le_of_ble_eq_true rfl⟩ rfl rfl (Nat.le_of_ble_eq_true rfl) ⟨hcs.1, hcs.2⟩ dL_law_691 (fun r V1 I284 J1 hp => ?_)
  obtain ⟨r283, rfl, rfl, rfl, h⟩ := hp
  show gJ X V (c) (s) 694 _ [.int r283, .int r278] _ _
  refine j_icmp_eq (pc := 694) (tgt := 1128) C dL_law_694 (by decide) (fun q286 => ?_) (fun q286 => ?_)
  · have h := h.1 q286
    refine gJ.sub [0, 1, 2, 3] rfl ?_
    exact tA_L_law_1128 C hX hS hcs hK18 h
  · have h := h.2 q286
    refine j_iconst (pc := 697) (v := 0) C dL_law_697 (by decide) ?_
    exact absurd h id
set_option maxRecDepth 100000 in
set_option maxHeartbeats 4000000 in
theorem tA_L_law_699 {X : gX} {l : Launch} {D : va_G} {cy : Nat → ClassId} {L : Nat} {xs : Nat → Int32} {b : Nat} (C : gC X cL_law RL (some .boolean) 4 room_1) (hX : gIs X l D cy X.2.1.2.2.1.name) {Po : Unit} (hS : gLw X b L xs) {v1 : Nat} {v2 : Nat} {v3 : Int32} {V : gV} {c s : Nat} {I : gI} {J : gL} (hcs : c ≤ 600000 ∧ s ≤ 7302250) {K18 : Int32 → gV → Nat → Nat → gI → gL → Prop} (hK18 : ∀ (y3 : Int32) (V1 : gV) (c1 s1 : Nat) (I1 : gI) (J1 : gL), (c1 ≤ 600000 ∧ s1 ≤ 7302250) → K18 y3 V1 c1 s1 I1 J1 → gJ X V1 c1 s1 18 [(0, .ref b), (1, .ref v1), (2, .ref v2), (3, .int y3)] [] I1 J1) (h : wA_L_law_699 L xs Po K18 v1 v2 v3 V c s I J) : gJ X V c s 699 [(0, .ref b), (1, .ref v1), (2, .ref v2), (3, .int v3)] [] I J := by
  unfold wA_L_law_699 at h
  refine j_aload_n (pc := 699) C dL_law_699 rfl 1 rfl ?_
  refine j_aload_n (pc := 700) C dL_law_700 rfl 0 rfl ?_
  refine j_iload_n (pc := 701) C dL_law_701 rfl 3 rfl ?_
  refine j_iconst (pc := 702) (v := 1) C dL_law_702 (by decide) ?_
  refine j_iadd (pc := 703) C dL_law_703 ?_
  obtain ⟨g287, h⟩ := h
  refine j_sld (pc := 704) C hS g287 dL_law_704 ?_
  refine j_aload_n (pc := 705) C dL_law_705 rfl 0 rfl ?_
  refine j_iload_n (pc := 706) C dL_law_706 rfl 3 rfl ?_
  refine j_iconst (pc := 707) (v := 2) C dL_law_707 (by decide) ?_
  refine j_iadd (pc := 708) C dL_law_708 ?_
  obtain ⟨g288, h⟩ := h
  refine j_sld (pc := 709) C hS g288 dL_law_709 ?_
  refine j_aload_n (pc := 710) C dL_law_710 rfl 0 rfl ?_
  refine j_iload_n (pc := 711) C dL_law_711 rfl 3 rfl ?_
  refine j_iconst (pc := 712) (v := 3) C dL_law_712 (by decide) ?_
  refine j_iadd (pc := 713) C dL_law_713 ?_
  obtain ⟨g289, h⟩ := h
  refine j_sld (pc := 714) C hS g289 dL_law_714 ?_
  refine j_aload_n (pc := 715) C dL_law_715 rfl 0 rfl ?_
  refine j_iload_n (pc := 716) C dL_law_716 rfl 3 rfl ?_
  refine j_iconst (pc := 717) (v := 4) C dL_law_717 (by decide) ?_
  refine j_iadd (pc := 718) C dL_law_718 ?_
  obtain ⟨g290, h⟩ := h
  refine j_sld (pc := 719) C hS g290 dL_law_719 ?_
  obtain ⟨pr, pc, pg, hT, hBL, e293, h⟩ := h
  refine gJ.eqst (st' := [.int (xs ((v3 + (4 : Int32))).toNatClampNeg), .int (xs ((v3 + (3 : Int32))).toNatClampNeg), .int (xs ((v3 + (2 : Int32))).toNatClampNeg), .int (xs ((v3 + (1 : Int32))).toNatClampNeg), .ref (V.2.1 0)]) (by rw [e293]) ?_
  refine j_callV (pc := 720) (As := [.int (xs ((v3 + (1 : Int32))).toNatClampNeg), .int (xs ((v3 + (2 : Int32))).toNatClampNeg), .int (xs ((v3 + (3 : Int32))).toNatClampNeg), .int (xs ((v3 + (4 : Int32))).toNatClampNeg)]) (st := []) C hX 0 (m_X9_block hT hBL h) (c_0 hT).1 (c_0 hT).2 rfl ok_X9_block wd_726 wd_727 wd_728 ⟨Nat.le_of_ble_eq_true rfl, Nat.le_of_ble_eq_true rfl⟩ rfl rfl (Nat.le_of_ble_eq_true rfl) ⟨hcs.1, hcs.2⟩ dL_law_720 (fun r V1 I292 J1 hp => ?_)
  obtain ⟨r291, rfl, rfl, rfl, h⟩ := hp
  show gJ X V (c) (s) 723 _ [.int r291] _ _
  refine j_aload_n (pc := 723) C dL_law_723 rfl 2 rfl ?_
  refine j_aload_n (pc := 724) C dL_law_724 rfl 0 rfl ?_
  refine j_iload_n (pc := 725) C dL_law_725 rfl 3 rfl ?_
  refine j_iconst (pc := 726) (v := 1) C dL_law_726 (by decide) ?_
  refine j_iadd (pc := 727) C dL_law_727 ?_
  obtain ⟨g294, h⟩ := h
  refine j_sld (pc := 728) C hS g294 dL_law_728 ?_
  refine j_aload_n (pc := 729) C dL_law_729 rfl 0 rfl ?_
  refine j_iload_n (pc := 730) C dL_law_730 rfl 3 rfl ?_
  refine j_iconst (pc := 731) (v := 2) C dL_law_731 (by decide) ?_
  refine j_iadd (pc := 732) C dL_law_732 ?_
  obtain ⟨g295, h⟩ := h
  refine j_sld (pc := 733) C hS g295 dL_law_733 ?_
  refine j_aload_n (pc := 734) C dL_law_734 rfl 0 rfl ?_
  refine j_iload_n (pc := 735) C dL_law_735 rfl 3 rfl ?_
  refine j_iconst (pc := 736) (v := 3) C dL_law_736 (by decide) ?_
  refine j_iadd (pc := 737) C dL_law_737 ?_
  obtain ⟨g296, h⟩ := h
  refine j_sld (pc := 738) C hS g296 dL_law_738 ?_
  refine j_aload_n (pc := 739) C dL_law_739 rfl 0 rfl ?_
  refine j_iload_n (pc := 740) C dL_law_740 rfl 3 rfl ?_
  refine j_iconst (pc := 741) (v := 4) C dL_law_741 (by decide) ?_
  refine j_iadd (pc := 742) C dL_law_742 ?_
  obtain ⟨g297, h⟩ := h
  refine j_sld (pc := 743) C hS g297 dL_law_743 ?_
  obtain ⟨hM, e300, h⟩ := h
  refine gJ.eqst (st' := [.int (xs ((v3 + (4 : Int32))).toNatClampNeg), .int (xs ((v3 + (3 : Int32))).toNatClampNeg), .int (xs ((v3 + (2 : Int32))).toNatClampNeg), .int (xs ((v3 + (1 : Int32))).toNatClampNeg), .ref (V.2.1 200), .int r291]) (by rw [e300]) ?_
  refine j_callV (pc := 744) (As := [.int (xs ((v3 + (1 : Int32))).toNatClampNeg), .int (xs ((v3 + (2 : Int32))).toNatClampNeg), .int (xs ((v3 + (3 : Int32))).toNatClampNeg), .int (xs ((v3 + (4 : Int32))).toNatClampNeg)]) (st := [.int r291]) C hX 200 (m_X10_block hM h) (c_200 hM).1 (c_200 hM).2 rfl ok_X10_block wd_1241 wd_1242 wd_1243 ⟨Nat.le_of_ble_eq_true rfl, Nat.le_of_ble_eq_true rfl⟩ rfl rfl (Nat.le_of_ble_eq_true rfl) ⟨hcs.1, hcs.2⟩ dL_law_744 (fun r V1 I299 J1 hp => ?_)
  obtain ⟨r298, rfl, rfl, rfl, h⟩ := hp
  show gJ X V (c) (s) 747 _ [.int r298, .int r291] _ _
  refine j_icmp_eq (pc := 747) (tgt := 1128) C dL_law_747 (by decide) (fun q301 => ?_) (fun q301 => ?_)
  · have h := h.1 q301
    refine gJ.sub [0, 1, 2, 3] rfl ?_
    exact tA_L_law_1128 C hX hS hcs hK18 h
  · have h := h.2 q301
    refine j_iconst (pc := 750) (v := 0) C dL_law_750 (by decide) ?_
    exact absurd h id
set_option maxRecDepth 100000 in
set_option maxHeartbeats 4000000 in
theorem tA_L_law_752 {X : gX} {l : Launch} {D : va_G} {cy : Nat → ClassId} {L : Nat} {xs : Nat → Int32} {b : Nat} (C : gC X cL_law RL (some .boolean) 4 room_1) (hX : gIs X l D cy X.2.1.2.2.1.name) {Po : Unit} (hS : gLw X b L xs) {v1 : Nat} {v2 : Nat} {v3 : Int32} {V : gV} {c s : Nat} {I : gI} {J : gL} (hcs : c ≤ 600000 ∧ s ≤ 7302250) {K18 : Int32 → gV → Nat → Nat → gI → gL → Prop} (hK18 : ∀ (y3 : Int32) (V1 : gV) (c1 s1 : Nat) (I1 : gI) (J1 : gL), (c1 ≤ 600000 ∧ s1 ≤ 7302250) → K18 y3 V1 c1 s1 I1 J1 → gJ X V1 c1 s1 18 [(0, .ref b), (1, .ref v1), (2, .ref v2), (3, .int y3)] [] I1 J1) (h : wA_L_law_752 L xs Po K18 v1 v2 v3 V c s I J) : gJ X V c s 752 [(0, .ref b), (1, .ref v1), (2, .ref v2), (3, .int v3)] [] I J := by
  unfold wA_L_law_752 at h
  refine j_aload_n (pc := 752) C dL_law_752 rfl 1 rfl ?_
  refine j_aload_n (pc := 753) C dL_law_753 rfl 0 rfl ?_
  refine j_iload_n (pc := 754) C dL_law_754 rfl 3 rfl ?_
  refine j_iconst (pc := 755) (v := 1) C dL_law_755 (by decide) ?_
  refine j_iadd (pc := 756) C dL_law_756 ?_
  obtain ⟨g302, h⟩ := h
  refine j_sld (pc := 757) C hS g302 dL_law_757 ?_
  refine j_aload_n (pc := 758) C dL_law_758 rfl 0 rfl ?_
  refine j_iload_n (pc := 759) C dL_law_759 rfl 3 rfl ?_
  refine j_iconst (pc := 760) (v := 2) C dL_law_760 (by decide) ?_
  refine j_iadd (pc := 761) C dL_law_761 ?_
  obtain ⟨g303, h⟩ := h
  refine j_sld (pc := 762) C hS g303 dL_law_762 ?_
  refine j_aload_n (pc := 763) C dL_law_763 rfl 0 rfl ?_
  refine j_iload_n (pc := 764) C dL_law_764 rfl 3 rfl ?_
  refine j_iconst (pc := 765) (v := 3) C dL_law_765 (by decide) ?_
  refine j_iadd (pc := 766) C dL_law_766 ?_
  obtain ⟨g304, h⟩ := h
  refine j_sld (pc := 767) C hS g304 dL_law_767 ?_
  refine j_aload_n (pc := 768) C dL_law_768 rfl 0 rfl ?_
  refine j_iload_n (pc := 769) C dL_law_769 rfl 3 rfl ?_
  refine j_iconst (pc := 770) (v := 4) C dL_law_770 (by decide) ?_
  refine j_iadd (pc := 771) C dL_law_771 ?_
  obtain ⟨g305, h⟩ := h
  refine j_sld (pc := 772) C hS g305 dL_law_772 ?_
  obtain ⟨pr, pc, pg, hT, hBL, e307, h⟩ := h
  refine gJ.eqst (st' := [.int (xs ((v3 + (4 : Int32))).toNatClampNeg), .int (xs ((v3 + (3 : Int32))).toNatClampNeg), .int (xs ((v3 + (2 : Int32))).toNatClampNeg), .int (xs ((v3 + (1 : Int32))).toNatClampNeg), .ref (V.2.1 0)]) (by rw [e307]) ?_
  refine j_callV (pc := 773) (As := [.int (xs ((v3 + (1 : Int32))).toNatClampNeg), .int (xs ((v3 + (2 : Int32))).toNatClampNeg), .int (xs ((v3 + (3 : Int32))).toNatClampNeg), .int (xs ((v3 + (4 : Int32))).toNatClampNeg)]) (st := []) C hX 0 (m_X9_letter hT hBL h) (c_0 hT).1 (c_0 hT).2 rfl ok_X9_letter wd_742 wd_743 wd_744 ⟨Nat.le_of_ble_eq_true rfl, Nat.le_of_ble_eq_true rfl⟩ rfl rfl (Nat.le_of_ble_eq_true rfl) ⟨hcs.1, hcs.2⟩ dL_law_773 (fun r V1 I1 J1 hp => ?_)
  obtain ⟨r306, rfl, rfl, rfl, rfl, h⟩ := hp
  show gJ X V (c) (s) 776 _ [.int r306] _ _
  refine j_aload_n (pc := 776) C dL_law_776 rfl 2 rfl ?_
  refine j_aload_n (pc := 777) C dL_law_777 rfl 0 rfl ?_
  refine j_iload_n (pc := 778) C dL_law_778 rfl 3 rfl ?_
  refine j_iconst (pc := 779) (v := 1) C dL_law_779 (by decide) ?_
  refine j_iadd (pc := 780) C dL_law_780 ?_
  obtain ⟨g308, h⟩ := h
  refine j_sld (pc := 781) C hS g308 dL_law_781 ?_
  refine j_aload_n (pc := 782) C dL_law_782 rfl 0 rfl ?_
  refine j_iload_n (pc := 783) C dL_law_783 rfl 3 rfl ?_
  refine j_iconst (pc := 784) (v := 2) C dL_law_784 (by decide) ?_
  refine j_iadd (pc := 785) C dL_law_785 ?_
  obtain ⟨g309, h⟩ := h
  refine j_sld (pc := 786) C hS g309 dL_law_786 ?_
  refine j_aload_n (pc := 787) C dL_law_787 rfl 0 rfl ?_
  refine j_iload_n (pc := 788) C dL_law_788 rfl 3 rfl ?_
  refine j_iconst (pc := 789) (v := 3) C dL_law_789 (by decide) ?_
  refine j_iadd (pc := 790) C dL_law_790 ?_
  obtain ⟨g310, h⟩ := h
  refine j_sld (pc := 791) C hS g310 dL_law_791 ?_
  refine j_aload_n (pc := 792) C dL_law_792 rfl 0 rfl ?_
  refine j_iload_n (pc := 793) C dL_law_793 rfl 3 rfl ?_
  refine j_iconst (pc := 794) (v := 4) C dL_law_794 (by decide) ?_
  refine j_iadd (pc := 795) C dL_law_795 ?_
  obtain ⟨g311, h⟩ := h
  refine j_sld (pc := 796) C hS g311 dL_law_796 ?_
  obtain ⟨hM, e313, h⟩ := h
  refine gJ.eqst (st' := [.int (xs ((v3 + (4 : Int32))).toNatClampNeg), .int (xs ((v3 + (3 : Int32))).toNatClampNeg), .int (xs ((v3 + (2 : Int32))).toNatClampNeg), .int (xs ((v3 + (1 : Int32))).toNatClampNeg), .ref (V.2.1 200), .int r306]) (by rw [e313]) ?_
  refine j_callV (pc := 797) (As := [.int (xs ((v3 + (1 : Int32))).toNatClampNeg), .int (xs ((v3 + (2 : Int32))).toNatClampNeg), .int (xs ((v3 + (3 : Int32))).toNatClampNeg), .int (xs ((v3 + (4 : Int32))).toNatClampNeg)]) (st := [.int r306]) C hX 200 (m_X10_letter hM h) (c_200 hM).1 (c_200 hM).2 rfl ok_X10_letter wd_1253 wd_1254 wd_1255 ⟨Nat.le_of_ble_eq_true rfl, Nat.le_of_ble_eq_true rfl⟩ rfl rfl (Nat.le_of_ble_eq_true rfl) ⟨hcs.1, hcs.2⟩ dL_law_797 (fun r V1 I1 J1 hp => ?_)
  obtain ⟨r312, rfl, rfl, rfl, rfl, h⟩ := hp
  show gJ X V (c) (s) 800 _ [.int r312, .int r306] _ _
  refine j_icmp_eq (pc := 800) (tgt := 1128) C dL_law_800 (by decide) (fun q314 => ?_) (fun q314 => ?_)
  · have h := h.1 q314
    refine gJ.sub [0, 1, 2, 3] rfl ?_
    exact tA_L_law_1128 C hX hS hcs hK18 h
  · have h := h.2 q314
    refine j_iconst (pc := 803) (v := 0) C dL_law_803 (by decide) ?_
    exact absurd h id
set_option maxRecDepth 100000 in
set_option maxHeartbeats 4000000 in
theorem tA_L_law_805 {X : gX} {l : Launch} {D : va_G} {cy : Nat → ClassId} {L : Nat} {xs : Nat → Int32} {b : Nat} (C : gC X cL_law RL (some .boolean) 4 room_1) (hX : gIs X l D cy X.2.1.2.2.1.name) {Po : Unit} (hS : gLw X b L xs) {v1 : Nat} {v2 : Nat} {v3 : Int32} {V : gV} {c s : Nat} {I : gI} {J : gL} (hcs : c ≤ 600000 ∧ s ≤ 7302250) {K18 : Int32 → gV → Nat → Nat → gI → gL → Prop} (hK18 : ∀ (y3 : Int32) (V1 : gV) (c1 s1 : Nat) (I1 : gI) (J1 : gL), (c1 ≤ 600000 ∧ s1 ≤ 7302250) → K18 y3 V1 c1 s1 I1 J1 → gJ X V1 c1 s1 18 [(0, .ref b), (1, .ref v1), (2, .ref v2), (3, .int y3)] [] I1 J1) (h : wA_L_law_805 L xs Po K18 v1 v2 v3 V c s I J) : gJ X V c s 805 [(0, .ref b), (1, .ref v1), (2, .ref v2), (3, .int v3)] [] I J := by
  unfold wA_L_law_805 at h
  refine j_aload_n (pc := 805) C dL_law_805 rfl 1 rfl ?_
  refine j_aload_n (pc := 806) C dL_law_806 rfl 0 rfl ?_
  refine j_iload_n (pc := 807) C dL_law_807 rfl 3 rfl ?_
  refine j_iconst (pc := 808) (v := 1) C dL_law_808 (by decide) ?_
  refine j_iadd (pc := 809) C dL_law_809 ?_
  obtain ⟨g315, h⟩ := h
  refine j_sld (pc := 810) C hS g315 dL_law_810 ?_
  refine j_aload_n (pc := 811) C dL_law_811 rfl 0 rfl ?_
  refine j_iload_n (pc := 812) C dL_law_812 rfl 3 rfl ?_
  refine j_iconst (pc := 813) (v := 2) C dL_law_813 (by decide) ?_
  refine j_iadd (pc := 814) C dL_law_814 ?_
  obtain ⟨g316, h⟩ := h
  refine j_sld (pc := 815) C hS g316 dL_law_815 ?_
  refine j_aload_n (pc := 816) C dL_law_816 rfl 0 rfl ?_
  refine j_iload_n (pc := 817) C dL_law_817 rfl 3 rfl ?_
  refine j_iconst (pc := 818) (v := 3) C dL_law_818 (by decide) ?_
  refine j_iadd (pc := 819) C dL_law_819 ?_
  obtain ⟨g317, h⟩ := h
  refine j_sld (pc := 820) C hS g317 dL_law_820 ?_
  obtain ⟨pr, pc, pg, hT, hBL, e320, h⟩ := h
  refine gJ.eqst (st' := [.int (xs ((v3 + (3 : Int32))).toNatClampNeg), .int (xs ((v3 + (2 : Int32))).toNatClampNeg), .int (xs ((v3 + (1 : Int32))).toNatClampNeg), .ref (V.2.1 0)]) (by rw [e320]) ?_
  refine j_callV (pc := 821) (As := [.int (xs ((v3 + (1 : Int32))).toNatClampNeg), .int (xs ((v3 + (2 : Int32))).toNatClampNeg), .int (xs ((v3 + (3 : Int32))).toNatClampNeg)]) (st := []) C hX 0 (m_X9_many hT hBL h) (c_0 hT).1 (c_0 hT).2 rfl ok_X9_many wd_751 wd_752 wd_753 ⟨Nat.le_of_ble_eq_true rfl, Nat.le_of_ble_eq_true rfl⟩ rfl rfl (Nat.le_of_ble_eq_true rfl) ⟨hcs.1, hcs.2⟩ dL_law_821 (fun r V1 I1 J319 hp => ?_)
  obtain ⟨r318, rfl, rfl, rfl, h⟩ := hp
  show gJ X V (c) (s) 824 _ [.long r318] _ _
  refine j_aload_n (pc := 824) C dL_law_824 rfl 2 rfl ?_
  refine j_aload_n (pc := 825) C dL_law_825 rfl 0 rfl ?_
  refine j_iload_n (pc := 826) C dL_law_826 rfl 3 rfl ?_
  refine j_iconst (pc := 827) (v := 1) C dL_law_827 (by decide) ?_
  refine j_iadd (pc := 828) C dL_law_828 ?_
  obtain ⟨g321, h⟩ := h
  refine j_sld (pc := 829) C hS g321 dL_law_829 ?_
  refine j_aload_n (pc := 830) C dL_law_830 rfl 0 rfl ?_
  refine j_iload_n (pc := 831) C dL_law_831 rfl 3 rfl ?_
  refine j_iconst (pc := 832) (v := 2) C dL_law_832 (by decide) ?_
  refine j_iadd (pc := 833) C dL_law_833 ?_
  obtain ⟨g322, h⟩ := h
  refine j_sld (pc := 834) C hS g322 dL_law_834 ?_
  refine j_aload_n (pc := 835) C dL_law_835 rfl 0 rfl ?_
  refine j_iload_n (pc := 836) C dL_law_836 rfl 3 rfl ?_
  refine j_iconst (pc := 837) (v := 3) C dL_law_837 (by decide) ?_
  refine j_iadd (pc := 838) C dL_law_838 ?_
  obtain ⟨g323, h⟩ := h
  refine j_sld (pc := 839) C hS g323 dL_law_839 ?_
  obtain ⟨hM, e326, h⟩ := h
  refine gJ.eqst (st' := [.int (xs ((v3 + (3 : Int32))).toNatClampNeg), .int (xs ((v3 + (2 : Int32))).toNatClampNeg), .int (xs ((v3 + (1 : Int32))).toNatClampNeg), .ref (V.2.1 200), .long r318]) (by rw [e326]) ?_
  refine j_callV (pc := 840) (As := [.int (xs ((v3 + (1 : Int32))).toNatClampNeg), .int (xs ((v3 + (2 : Int32))).toNatClampNeg), .int (xs ((v3 + (3 : Int32))).toNatClampNeg)]) (st := [.long r318]) C hX 200 (m_X10_many hM h) (c_200 hM).1 (c_200 hM).2 rfl ok_X10_many wd_1265 wd_1266 wd_1267 ⟨Nat.le_of_ble_eq_true rfl, Nat.le_of_ble_eq_true rfl⟩ rfl rfl (Nat.le_of_ble_eq_true rfl) ⟨hcs.1, hcs.2⟩ dL_law_840 (fun r V1 I1 J325 hp => ?_)
  obtain ⟨r324, rfl, rfl, rfl, h⟩ := hp
  show gJ X V (c) (s) 843 _ [.long r324, .long r318] _ _
  refine j_lcmp (pc := 843) C dL_law_843 ?_
  refine j_if_eq (pc := 844) (tgt := 1128) C dL_law_844 (by decide) (fun q327 => ?_) (fun q327 => ?_)
  · have h := h.1 q327
    refine gJ.sub [0, 1, 2, 3] rfl ?_
    exact tA_L_law_1128 C hX hS hcs hK18 h
  · have h := h.2 q327
    refine j_iconst (pc := 847) (v := 0) C dL_law_847 (by decide) ?_
    exact absurd h id
set_option maxRecDepth 100000 in
set_option maxHeartbeats 4000000 in
theorem tA_L_law_849 {X : gX} {l : Launch} {D : va_G} {cy : Nat → ClassId} {L : Nat} {xs : Nat → Int32} {b : Nat} (C : gC X cL_law RL (some .boolean) 4 room_1) (hX : gIs X l D cy X.2.1.2.2.1.name) {Po : Unit} (hS : gLw X b L xs) {v1 : Nat} {v2 : Nat} {v3 : Int32} {V : gV} {c s : Nat} {I : gI} {J : gL} (hcs : c ≤ 600000 ∧ s ≤ 7302250) {K18 : Int32 → gV → Nat → Nat → gI → gL → Prop} (hK18 : ∀ (y3 : Int32) (V1 : gV) (c1 s1 : Nat) (I1 : gI) (J1 : gL), (c1 ≤ 600000 ∧ s1 ≤ 7302250) → K18 y3 V1 c1 s1 I1 J1 → gJ X V1 c1 s1 18 [(0, .ref b), (1, .ref v1), (2, .ref v2), (3, .int y3)] [] I1 J1) (h : wA_L_law_849 L xs Po K18 v1 v2 v3 V c s I J) : gJ X V c s 849 [(0, .ref b), (1, .ref v1), (2, .ref v2), (3, .int v3)] [] I J := by
  unfold wA_L_law_849 at h
  refine j_aload_n (pc := 849) C dL_law_849 rfl 1 rfl ?_
  refine j_aload_n (pc := 850) C dL_law_850 rfl 0 rfl ?_
  refine j_iload_n (pc := 851) C dL_law_851 rfl 3 rfl ?_
  refine j_iconst (pc := 852) (v := 1) C dL_law_852 (by decide) ?_
  refine j_iadd (pc := 853) C dL_law_853 ?_
  obtain ⟨g328, h⟩ := h
  refine j_sld (pc := 854) C hS g328 dL_law_854 ?_
  refine j_aload_n (pc := 855) C dL_law_855 rfl 0 rfl ?_
  refine j_iload_n (pc := 856) C dL_law_856 rfl 3 rfl ?_
  refine j_iconst (pc := 857) (v := 2) C dL_law_857 (by decide) ?_
  refine j_iadd (pc := 858) C dL_law_858 ?_
  obtain ⟨g329, h⟩ := h
  refine j_sld (pc := 859) C hS g329 dL_law_859 ?_
  refine j_aload_n (pc := 860) C dL_law_860 rfl 0 rfl ?_
  refine j_iload_n (pc := 861) C dL_law_861 rfl 3 rfl ?_
  refine j_iconst (pc := 862) (v := 3) C dL_law_862 (by decide) ?_
  refine j_iadd (pc := 863) C dL_law_863 ?_
  obtain ⟨g330, h⟩ := h
  refine j_sld (pc := 864) C hS g330 dL_law_864 ?_
  refine j_aload_n (pc := 865) C dL_law_865 rfl 0 rfl ?_
  refine j_iload_n (pc := 866) C dL_law_866 rfl 3 rfl ?_
  refine j_iconst (pc := 867) (v := 4) C dL_law_867 (by decide) ?_
  refine j_iadd (pc := 868) C dL_law_868 ?_
  obtain ⟨g331, h⟩ := h
  refine j_sld (pc := 869) C hS g331 dL_law_869 ?_
  obtain ⟨sl343, m333, m334, hk341, e340, hd342, g335, g336, h⟩ := h
  refine gJ.eqst (st' := [.int (xs ((v3 + (4 : Int32))).toNatClampNeg), .int (xs ((v3 + (3 : Int32))).toNatClampNeg), .int (xs ((v3 + (2 : Int32))).toNatClampNeg), .int (xs ((v3 + (1 : Int32))).toNatClampNeg), .ref (V.2.1 0)]) (by rw [e340]) ?_
  refine j_callV (pc := 870) (As := [.int (xs ((v3 + (1 : Int32))).toNatClampNeg), .int (xs ((v3 + (2 : Int32))).toNatClampNeg), .int (xs ((v3 + (3 : Int32))).toNatClampNeg), .int (xs ((v3 + (4 : Int32))).toNatClampNeg)]) (st := []) C hX 0 (gMet.at e340 (n_X9_beside h)) hk341 hd342 rfl ok_X9_beside wd_765 wd_766 wd_767 ⟨Nat.le_of_ble_eq_true rfl, Nat.le_of_ble_eq_true rfl⟩ rfl rfl (Nat.le_of_ble_eq_true rfl) ⟨g335, g336⟩ dL_law_870 (fun r V337 I338 J339 hp => ?_)
  obtain ⟨r332, rfl, h⟩ := hp
  have hcs : _ ∧ _ := ⟨g335, g336⟩
  show gJ X V337 (c + m333) (s + m334) 873 _ [.int r332] _ _
  refine j_aload_n (pc := 873) C dL_law_873 rfl 2 rfl ?_
  refine j_aload_n (pc := 874) C dL_law_874 rfl 0 rfl ?_
  refine j_iload_n (pc := 875) C dL_law_875 rfl 3 rfl ?_
  refine j_iconst (pc := 876) (v := 1) C dL_law_876 (by decide) ?_
  refine j_iadd (pc := 877) C dL_law_877 ?_
  obtain ⟨g344, h⟩ := h
  refine j_sld (pc := 878) C hS g344 dL_law_878 ?_
  refine j_aload_n (pc := 879) C dL_law_879 rfl 0 rfl ?_
  refine j_iload_n (pc := 880) C dL_law_880 rfl 3 rfl ?_
  refine j_iconst (pc := 881) (v := 2) C dL_law_881 (by decide) ?_
  refine j_iadd (pc := 882) C dL_law_882 ?_
  obtain ⟨g345, h⟩ := h
  refine j_sld (pc := 883) C hS g345 dL_law_883 ?_
  refine j_aload_n (pc := 884) C dL_law_884 rfl 0 rfl ?_
  refine j_iload_n (pc := 885) C dL_law_885 rfl 3 rfl ?_
  refine j_iconst (pc := 886) (v := 3) C dL_law_886 (by decide) ?_
  refine j_iadd (pc := 887) C dL_law_887 ?_
  obtain ⟨g346, h⟩ := h
  refine j_sld (pc := 888) C hS g346 dL_law_888 ?_
  refine j_aload_n (pc := 889) C dL_law_889 rfl 0 rfl ?_
  refine j_iload_n (pc := 890) C dL_law_890 rfl 3 rfl ?_
  refine j_iconst (pc := 891) (v := 4) C dL_law_891 (by decide) ?_
  refine j_iadd (pc := 892) C dL_law_892 ?_
  obtain ⟨g347, h⟩ := h
  refine j_sld (pc := 893) C hS g347 dL_law_893 ?_
  obtain ⟨hM, e350, h⟩ := h
  refine gJ.eqst (st' := [.int (xs ((v3 + (4 : Int32))).toNatClampNeg), .int (xs ((v3 + (3 : Int32))).toNatClampNeg), .int (xs ((v3 + (2 : Int32))).toNatClampNeg), .int (xs ((v3 + (1 : Int32))).toNatClampNeg), .ref (V337.2.1 200), .int r332]) (by rw [e350]) ?_
  refine j_callV (pc := 894) (As := [.int (xs ((v3 + (1 : Int32))).toNatClampNeg), .int (xs ((v3 + (2 : Int32))).toNatClampNeg), .int (xs ((v3 + (3 : Int32))).toNatClampNeg), .int (xs ((v3 + (4 : Int32))).toNatClampNeg)]) (st := [.int r332]) C hX 200 (m_X10_beside hM h) (c_200 hM).1 (c_200 hM).2 rfl ok_X10_beside wd_1269 wd_1270 wd_1271 ⟨Nat.le_of_ble_eq_true rfl, Nat.le_of_ble_eq_true rfl⟩ rfl rfl (Nat.le_of_ble_eq_true rfl) ⟨hcs.1, hcs.2⟩ dL_law_894 (fun r V1 I349 J1 hp => ?_)
  obtain ⟨r348, rfl, rfl, rfl, h⟩ := hp
  show gJ X V337 (c + m333) (s + m334) 897 _ [.int r348, .int r332] _ _
  refine j_icmp_eq (pc := 897) (tgt := 1128) C dL_law_897 (by decide) (fun q351 => ?_) (fun q351 => ?_)
  · have h := h.1 q351
    refine gJ.sub [0, 1, 2, 3] rfl ?_
    exact tA_L_law_1128 C hX hS hcs hK18 h
  · have h := h.2 q351
    refine j_iconst (pc := 900) (v := 0) C dL_law_900 (by decide) ?_
    exact absurd h id
set_option maxRecDepth 100000 in
set_option maxHeartbeats 4000000 in
theorem tA_L_law_902 {X : gX} {l : Launch} {D : va_G} {cy : Nat → ClassId} {L : Nat} {xs : Nat → Int32} {b : Nat} (C : gC X cL_law RL (some .boolean) 4 room_1) (hX : gIs X l D cy X.2.1.2.2.1.name) {Po : Unit} (hS : gLw X b L xs) {v1 : Nat} {v2 : Nat} {v3 : Int32} {V : gV} {c s : Nat} {I : gI} {J : gL} (hcs : c ≤ 600000 ∧ s ≤ 7302250) {K18 : Int32 → gV → Nat → Nat → gI → gL → Prop} (hK18 : ∀ (y3 : Int32) (V1 : gV) (c1 s1 : Nat) (I1 : gI) (J1 : gL), (c1 ≤ 600000 ∧ s1 ≤ 7302250) → K18 y3 V1 c1 s1 I1 J1 → gJ X V1 c1 s1 18 [(0, .ref b), (1, .ref v1), (2, .ref v2), (3, .int y3)] [] I1 J1) (h : wA_L_law_902 L xs Po K18 v1 v2 v3 V c s I J) : gJ X V c s 902 [(0, .ref b), (1, .ref v1), (2, .ref v2), (3, .int v3)] [] I J := by
  unfold wA_L_law_902 at h
  refine j_aload_n (pc := 902) C dL_law_902 rfl 1 rfl ?_
  obtain ⟨pr, pc, pg, hT, hBL, e354, h⟩ := h
  refine gJ.eqst (st' := [.ref (V.2.1 0)]) (by rw [e354]) ?_
  refine j_callV (pc := 903) (As := []) (st := []) C hX 0 (m_X9_mixes hT hBL h) (c_0 hT).1 (c_0 hT).2 rfl ok_X9_mixes wd_835 wd_836 wd_837 ⟨Nat.le_of_ble_eq_true rfl, Nat.le_of_ble_eq_true rfl⟩ rfl rfl (Nat.le_of_ble_eq_true rfl) ⟨hcs.1, hcs.2⟩ dL_law_903 (fun r V1 I353 J1 hp => ?_)
  obtain ⟨r352, rfl, rfl, rfl, h⟩ := hp
  show gJ X V (c) (s) 906 _ [.int r352] _ _
  refine j_aload_n (pc := 906) C dL_law_906 rfl 2 rfl ?_
  obtain ⟨hM, e357, h⟩ := h
  refine gJ.eqst (st' := [.ref (V.2.1 200), .int r352]) (by rw [e357]) ?_
  refine j_callV (pc := 907) (As := []) (st := [.int r352]) C hX 200 (m_X10_mixes hM h) (c_200 hM).1 (c_200 hM).2 rfl ok_X10_mixes wd_1281 wd_1282 wd_1283 ⟨Nat.le_of_ble_eq_true rfl, Nat.le_of_ble_eq_true rfl⟩ rfl rfl (Nat.le_of_ble_eq_true rfl) ⟨hcs.1, hcs.2⟩ dL_law_907 (fun r V1 I356 J1 hp => ?_)
  obtain ⟨r355, rfl, rfl, rfl, h⟩ := hp
  show gJ X V (c) (s) 910 _ [.int r355, .int r352] _ _
  refine j_icmp_eq (pc := 910) (tgt := 1128) C dL_law_910 (by decide) (fun q358 => ?_) (fun q358 => ?_)
  · have h := h.1 q358
    refine gJ.sub [0, 1, 2, 3] rfl ?_
    exact tA_L_law_1128 C hX hS hcs hK18 h
  · have h := h.2 q358
    refine j_iconst (pc := 913) (v := 0) C dL_law_913 (by decide) ?_
    exact absurd h id
set_option maxRecDepth 100000 in
set_option maxHeartbeats 4000000 in
theorem tA_L_law_915 {X : gX} {l : Launch} {D : va_G} {cy : Nat → ClassId} {L : Nat} {xs : Nat → Int32} {b : Nat} (C : gC X cL_law RL (some .boolean) 4 room_1) (hX : gIs X l D cy X.2.1.2.2.1.name) {Po : Unit} (hS : gLw X b L xs) {v1 : Nat} {v2 : Nat} {v3 : Int32} {V : gV} {c s : Nat} {I : gI} {J : gL} (hcs : c ≤ 600000 ∧ s ≤ 7302250) {K18 : Int32 → gV → Nat → Nat → gI → gL → Prop} (hK18 : ∀ (y3 : Int32) (V1 : gV) (c1 s1 : Nat) (I1 : gI) (J1 : gL), (c1 ≤ 600000 ∧ s1 ≤ 7302250) → K18 y3 V1 c1 s1 I1 J1 → gJ X V1 c1 s1 18 [(0, .ref b), (1, .ref v1), (2, .ref v2), (3, .int y3)] [] I1 J1) (h : wA_L_law_915 L xs Po K18 v1 v2 v3 V c s I J) : gJ X V c s 915 [(0, .ref b), (1, .ref v1), (2, .ref v2), (3, .int v3)] [] I J := by
  unfold wA_L_law_915 at h
  refine j_aload_n (pc := 915) C dL_law_915 rfl 1 rfl ?_
  refine j_aload_n (pc := 916) C dL_law_916 rfl 0 rfl ?_
  refine j_iload_n (pc := 917) C dL_law_917 rfl 3 rfl ?_
  refine j_iconst (pc := 918) (v := 1) C dL_law_918 (by decide) ?_
  refine j_iadd (pc := 919) C dL_law_919 ?_
  obtain ⟨g359, h⟩ := h
  refine j_sld (pc := 920) C hS g359 dL_law_920 ?_
  refine j_aload_n (pc := 921) C dL_law_921 rfl 0 rfl ?_
  refine j_iload_n (pc := 922) C dL_law_922 rfl 3 rfl ?_
  refine j_iconst (pc := 923) (v := 2) C dL_law_923 (by decide) ?_
  refine j_iadd (pc := 924) C dL_law_924 ?_
  obtain ⟨g360, h⟩ := h
  refine j_sld (pc := 925) C hS g360 dL_law_925 ?_
  obtain ⟨sl372, m362, m363, hk370, e369, hd371, g364, g365, h⟩ := h
  refine gJ.eqst (st' := [.int (xs ((v3 + (2 : Int32))).toNatClampNeg), .int (xs ((v3 + (1 : Int32))).toNatClampNeg), .ref (V.2.1 0)]) (by rw [e369]) ?_
  refine j_callV (pc := 926) (As := [.int (xs ((v3 + (1 : Int32))).toNatClampNeg), .int (xs ((v3 + (2 : Int32))).toNatClampNeg)]) (st := []) C hX 0 (gMet.at e369 (n_X9_squares h)) hk370 hd371 rfl ok_X9_squares wd_843 wd_844 wd_845 ⟨Nat.le_of_ble_eq_true rfl, Nat.le_of_ble_eq_true rfl⟩ rfl rfl (Nat.le_of_ble_eq_true rfl) ⟨g364, g365⟩ dL_law_926 (fun r V366 I367 J368 hp => ?_)
  obtain ⟨r361, rfl, h⟩ := hp
  have hcs : _ ∧ _ := ⟨g364, g365⟩
  show gJ X V366 (c + m362) (s + m363) 929 _ [.int r361] _ _
  refine j_aload_n (pc := 929) C dL_law_929 rfl 2 rfl ?_
  refine j_aload_n (pc := 930) C dL_law_930 rfl 0 rfl ?_
  refine j_iload_n (pc := 931) C dL_law_931 rfl 3 rfl ?_
  refine j_iconst (pc := 932) (v := 1) C dL_law_932 (by decide) ?_
  refine j_iadd (pc := 933) C dL_law_933 ?_
  obtain ⟨g373, h⟩ := h
  refine j_sld (pc := 934) C hS g373 dL_law_934 ?_
  refine j_aload_n (pc := 935) C dL_law_935 rfl 0 rfl ?_
  refine j_iload_n (pc := 936) C dL_law_936 rfl 3 rfl ?_
  refine j_iconst (pc := 937) (v := 2) C dL_law_937 (by decide) ?_
  refine j_iadd (pc := 938) C dL_law_938 ?_
  obtain ⟨g374, h⟩ := h
  refine j_sld (pc := 939) C hS g374 dL_law_939 ?_
  obtain ⟨hM, e377, h⟩ := h
  refine gJ.eqst (st' := [.int (xs ((v3 + (2 : Int32))).toNatClampNeg), .int (xs ((v3 + (1 : Int32))).toNatClampNeg), .ref (V366.2.1 200), .int r361]) (by rw [e377]) ?_
  refine j_callV (pc := 940) (As := [.int (xs ((v3 + (1 : Int32))).toNatClampNeg), .int (xs ((v3 + (2 : Int32))).toNatClampNeg)]) (st := [.int r361]) C hX 200 (m_X10_squares hM h) (c_200 hM).1 (c_200 hM).2 rfl ok_X10_squares wd_1285 wd_1286 wd_1287 ⟨Nat.le_of_ble_eq_true rfl, Nat.le_of_ble_eq_true rfl⟩ rfl rfl (Nat.le_of_ble_eq_true rfl) ⟨hcs.1, hcs.2⟩ dL_law_940 (fun r V1 I376 J1 hp => ?_)
  obtain ⟨r375, rfl, rfl, rfl, h⟩ := hp
  show gJ X V366 (c + m362) (s + m363) 943 _ [.int r375, .int r361] _ _
  refine j_icmp_eq (pc := 943) (tgt := 1128) C dL_law_943 (by decide) (fun q378 => ?_) (fun q378 => ?_)
  · have h := h.1 q378
    refine gJ.sub [0, 1, 2, 3] rfl ?_
    exact tA_L_law_1128 C hX hS hcs hK18 h
  · have h := h.2 q378
    refine j_iconst (pc := 946) (v := 0) C dL_law_946 (by decide) ?_
    exact absurd h id
set_option maxRecDepth 100000 in
set_option maxHeartbeats 4000000 in
theorem tA_L_law_948 {X : gX} {l : Launch} {D : va_G} {cy : Nat → ClassId} {L : Nat} {xs : Nat → Int32} {b : Nat} (C : gC X cL_law RL (some .boolean) 4 room_1) (hX : gIs X l D cy X.2.1.2.2.1.name) {Po : Unit} (hS : gLw X b L xs) {v1 : Nat} {v2 : Nat} {v3 : Int32} {V : gV} {c s : Nat} {I : gI} {J : gL} (hcs : c ≤ 600000 ∧ s ≤ 7302250) {K18 : Int32 → gV → Nat → Nat → gI → gL → Prop} (hK18 : ∀ (y3 : Int32) (V1 : gV) (c1 s1 : Nat) (I1 : gI) (J1 : gL), (c1 ≤ 600000 ∧ s1 ≤ 7302250) → K18 y3 V1 c1 s1 I1 J1 → gJ X V1 c1 s1 18 [(0, .ref b), (1, .ref v1), (2, .ref v2), (3, .int y3)] [] I1 J1) (h : wA_L_law_948 L xs Po K18 v1 v2 v3 V c s I J) : gJ X V c s 948 [(0, .ref b), (1, .ref v1), (2, .ref v2), (3, .int v3)] [] I J := by
  unfold wA_L_law_948 at h
  refine j_aload_n (pc := 948) C dL_law_948 rfl 1 rfl ?_
  refine j_aload_n (pc := 949) C dL_law_949 rfl 0 rfl ?_
  refine j_iload_n (pc := 950) C dL_law_950 rfl 3 rfl ?_
  refine j_iconst (pc := 951) (v := 1) C dL_law_951 (by decide) ?_
  refine j_iadd (pc := 952) C dL_law_952 ?_
  obtain ⟨g379, h⟩ := h
  refine j_sld (pc := 953) C hS g379 dL_law_953 ?_
  obtain ⟨pr, pc, pg, hT, hCO, e382, h⟩ := h
  refine gJ.eqst (st' := [.int (xs ((v3 + (1 : Int32))).toNatClampNeg), .ref (V.2.1 0)]) (by rw [e382]) ?_
  refine j_callV (pc := 954) (As := [.int (xs ((v3 + (1 : Int32))).toNatClampNeg)]) (st := []) C hX 0 (m_X9_turn hT hCO h) (c_0 hT).1 (c_0 hT).2 rfl ok_X9_turn wd_882 wd_883 wd_884 ⟨Nat.le_of_ble_eq_true rfl, Nat.le_of_ble_eq_true rfl⟩ rfl rfl (Nat.le_of_ble_eq_true rfl) ⟨hcs.1, hcs.2⟩ dL_law_954 (fun r V1 I381 J1 hp => ?_)
  obtain ⟨r380, rfl, rfl, rfl, h⟩ := hp
  show gJ X V (c) (s) 957 _ [.int r380] _ _
  refine j_aload_n (pc := 957) C dL_law_957 rfl 2 rfl ?_
  refine j_aload_n (pc := 958) C dL_law_958 rfl 0 rfl ?_
  refine j_iload_n (pc := 959) C dL_law_959 rfl 3 rfl ?_
  refine j_iconst (pc := 960) (v := 1) C dL_law_960 (by decide) ?_
  refine j_iadd (pc := 961) C dL_law_961 ?_
  obtain ⟨g383, h⟩ := h
  refine j_sld (pc := 962) C hS g383 dL_law_962 ?_
  obtain ⟨hM, e386, h⟩ := h
  refine gJ.eqst (st' := [.int (xs ((v3 + (1 : Int32))).toNatClampNeg), .ref (V.2.1 200), .int r380]) (by rw [e386]) ?_
  refine j_callV (pc := 963) (As := [.int (xs ((v3 + (1 : Int32))).toNatClampNeg)]) (st := [.int r380]) C hX 200 (m_X10_turn hM h) (c_200 hM).1 (c_200 hM).2 rfl ok_X10_turn wd_1289 wd_1290 wd_1291 ⟨Nat.le_of_ble_eq_true rfl, Nat.le_of_ble_eq_true rfl⟩ rfl rfl (Nat.le_of_ble_eq_true rfl) ⟨hcs.1, hcs.2⟩ dL_law_963 (fun r V1 I385 J1 hp => ?_)
  obtain ⟨r384, rfl, rfl, rfl, h⟩ := hp
  show gJ X V (c) (s) 966 _ [.int r384, .int r380] _ _
  refine j_icmp_eq (pc := 966) (tgt := 1128) C dL_law_966 (by decide) (fun q387 => ?_) (fun q387 => ?_)
  · have h := h.1 q387
    refine gJ.sub [0, 1, 2, 3] rfl ?_
    exact tA_L_law_1128 C hX hS hcs hK18 h
  · have h := h.2 q387
    refine j_iconst (pc := 969) (v := 0) C dL_law_969 (by decide) ?_
    exact absurd h id
set_option maxRecDepth 100000 in
set_option maxHeartbeats 4000000 in
theorem tA_L_law_971 {X : gX} {l : Launch} {D : va_G} {cy : Nat → ClassId} {L : Nat} {xs : Nat → Int32} {b : Nat} (C : gC X cL_law RL (some .boolean) 4 room_1) (hX : gIs X l D cy X.2.1.2.2.1.name) {Po : Unit} (hS : gLw X b L xs) {v1 : Nat} {v2 : Nat} {v3 : Int32} {V : gV} {c s : Nat} {I : gI} {J : gL} (hcs : c ≤ 600000 ∧ s ≤ 7302250) {K18 : Int32 → gV → Nat → Nat → gI → gL → Prop} (hK18 : ∀ (y3 : Int32) (V1 : gV) (c1 s1 : Nat) (I1 : gI) (J1 : gL), (c1 ≤ 600000 ∧ s1 ≤ 7302250) → K18 y3 V1 c1 s1 I1 J1 → gJ X V1 c1 s1 18 [(0, .ref b), (1, .ref v1), (2, .ref v2), (3, .int y3)] [] I1 J1) (h : wA_L_law_971 L xs Po K18 v1 v2 v3 V c s I J) : gJ X V c s 971 [(0, .ref b), (1, .ref v1), (2, .ref v2), (3, .int v3)] [] I J := by
  unfold wA_L_law_971 at h
  refine j_aload_n (pc := 971) C dL_law_971 rfl 1 rfl ?_
  refine j_aload_n (pc := 972) C dL_law_972 rfl 0 rfl ?_
  refine j_iload_n (pc := 973) C dL_law_973 rfl 3 rfl ?_
  refine j_iconst (pc := 974) (v := 1) C dL_law_974 (by decide) ?_
  refine j_iadd (pc := 975) C dL_law_975 ?_
  obtain ⟨g388, h⟩ := h
  refine j_sld (pc := 976) C hS g388 dL_law_976 ?_
  obtain ⟨pr, pc, pg, hT, hCO, e391, h⟩ := h
  refine gJ.eqst (st' := [.int (xs ((v3 + (1 : Int32))).toNatClampNeg), .ref (V.2.1 0)]) (by rw [e391]) ?_
  refine j_callV (pc := 977) (As := [.int (xs ((v3 + (1 : Int32))).toNatClampNeg)]) (st := []) C hX 0 (m_X9_corner hT hCO h) (c_0 hT).1 (c_0 hT).2 rfl ok_X9_corner wd_886 wd_887 wd_888 ⟨Nat.le_of_ble_eq_true rfl, Nat.le_of_ble_eq_true rfl⟩ rfl rfl (Nat.le_of_ble_eq_true rfl) ⟨hcs.1, hcs.2⟩ dL_law_977 (fun r V1 I390 J1 hp => ?_)
  obtain ⟨r389, rfl, rfl, rfl, h⟩ := hp
  show gJ X V (c) (s) 980 _ [.int r389] _ _
  refine j_aload_n (pc := 980) C dL_law_980 rfl 2 rfl ?_
  refine j_aload_n (pc := 981) C dL_law_981 rfl 0 rfl ?_
  refine j_iload_n (pc := 982) C dL_law_982 rfl 3 rfl ?_
  refine j_iconst (pc := 983) (v := 1) C dL_law_983 (by decide) ?_
  refine j_iadd (pc := 984) C dL_law_984 ?_
  obtain ⟨g392, h⟩ := h
  refine j_sld (pc := 985) C hS g392 dL_law_985 ?_
  obtain ⟨hM, e395, h⟩ := h
  refine gJ.eqst (st' := [.int (xs ((v3 + (1 : Int32))).toNatClampNeg), .ref (V.2.1 200), .int r389]) (by rw [e395]) ?_
  refine j_callV (pc := 986) (As := [.int (xs ((v3 + (1 : Int32))).toNatClampNeg)]) (st := [.int r389]) C hX 200 (m_X10_corner hM h) (c_200 hM).1 (c_200 hM).2 rfl ok_X10_corner wd_1293 wd_1294 wd_1295 ⟨Nat.le_of_ble_eq_true rfl, Nat.le_of_ble_eq_true rfl⟩ rfl rfl (Nat.le_of_ble_eq_true rfl) ⟨hcs.1, hcs.2⟩ dL_law_986 (fun r V1 I394 J1 hp => ?_)
  obtain ⟨r393, rfl, rfl, rfl, h⟩ := hp
  show gJ X V (c) (s) 989 _ [.int r393, .int r389] _ _
  refine j_icmp_eq (pc := 989) (tgt := 1128) C dL_law_989 (by decide) (fun q396 => ?_) (fun q396 => ?_)
  · have h := h.1 q396
    refine gJ.sub [0, 1, 2, 3] rfl ?_
    exact tA_L_law_1128 C hX hS hcs hK18 h
  · have h := h.2 q396
    refine j_iconst (pc := 992) (v := 0) C dL_law_992 (by decide) ?_
    exact absurd h id
set_option maxRecDepth 100000 in
set_option maxHeartbeats 4000000 in
theorem tA_L_law_994 {X : gX} {l : Launch} {D : va_G} {cy : Nat → ClassId} {L : Nat} {xs : Nat → Int32} {b : Nat} (C : gC X cL_law RL (some .boolean) 4 room_1) (hX : gIs X l D cy X.2.1.2.2.1.name) {Po : Unit} (hS : gLw X b L xs) {v1 : Nat} {v2 : Nat} {v3 : Int32} {V : gV} {c s : Nat} {I : gI} {J : gL} (hcs : c ≤ 600000 ∧ s ≤ 7302250) {K18 : Int32 → gV → Nat → Nat → gI → gL → Prop} (hK18 : ∀ (y3 : Int32) (V1 : gV) (c1 s1 : Nat) (I1 : gI) (J1 : gL), (c1 ≤ 600000 ∧ s1 ≤ 7302250) → K18 y3 V1 c1 s1 I1 J1 → gJ X V1 c1 s1 18 [(0, .ref b), (1, .ref v1), (2, .ref v2), (3, .int y3)] [] I1 J1) (h : wA_L_law_994 L xs Po K18 v1 v2 v3 V c s I J) : gJ X V c s 994 [(0, .ref b), (1, .ref v1), (2, .ref v2), (3, .int v3)] [] I J := by
  unfold wA_L_law_994 at h
  refine j_aload_n (pc := 994) C dL_law_994 rfl 1 rfl ?_
  obtain ⟨pr, pc, pg, hT, hCO, e399, h⟩ := h
  refine gJ.eqst (st' := [.ref (V.2.1 0)]) (by rw [e399]) ?_
  refine j_callV (pc := 995) (As := []) (st := []) C hX 0 (m_X9_uncorner hT hCO h) (c_0 hT).1 (c_0 hT).2 rfl ok_X9_uncorner wd_898 wd_899 wd_900 ⟨Nat.le_of_ble_eq_true rfl, Nat.le_of_ble_eq_true rfl⟩ rfl rfl (Nat.le_of_ble_eq_true rfl) ⟨hcs.1, hcs.2⟩ dL_law_995 (fun r V1 I398 J1 hp => ?_)
  obtain ⟨r397, rfl, rfl, rfl, h⟩ := hp
  show gJ X V (c) (s) 998 _ [.int r397] _ _
  refine j_aload_n (pc := 998) C dL_law_998 rfl 2 rfl ?_
  obtain ⟨hM, e402, h⟩ := h
  refine gJ.eqst (st' := [.ref (V.2.1 200), .int r397]) (by rw [e402]) ?_
  refine j_callV (pc := 999) (As := []) (st := [.int r397]) C hX 200 (m_X10_uncorner hM h) (c_200 hM).1 (c_200 hM).2 rfl ok_X10_uncorner wd_1297 wd_1298 wd_1299 ⟨Nat.le_of_ble_eq_true rfl, Nat.le_of_ble_eq_true rfl⟩ rfl rfl (Nat.le_of_ble_eq_true rfl) ⟨hcs.1, hcs.2⟩ dL_law_999 (fun r V1 I401 J1 hp => ?_)
  obtain ⟨r400, rfl, rfl, rfl, h⟩ := hp
  show gJ X V (c) (s) 1002 _ [.int r400, .int r397] _ _
  refine j_icmp_eq (pc := 1002) (tgt := 1128) C dL_law_1002 (by decide) (fun q403 => ?_) (fun q403 => ?_)
  · have h := h.1 q403
    refine gJ.sub [0, 1, 2, 3] rfl ?_
    exact tA_L_law_1128 C hX hS hcs hK18 h
  · have h := h.2 q403
    refine j_iconst (pc := 1005) (v := 0) C dL_law_1005 (by decide) ?_
    exact absurd h id
set_option maxRecDepth 100000 in
set_option maxHeartbeats 4000000 in
theorem tA_L_law_1038 {X : gX} {l : Launch} {D : va_G} {cy : Nat → ClassId} {L : Nat} {xs : Nat → Int32} {b : Nat} (C : gC X cL_law RL (some .boolean) 4 room_1) (hX : gIs X l D cy X.2.1.2.2.1.name) {Po : Unit} (hS : gLw X b L xs) {v1 : Nat} {v2 : Nat} {v3 : Int32} {s0 : Int32} {s1 : Nat} {s2 : Int32} {V : gV} {c s : Nat} {I : gI} {J : gL} (hcs : c ≤ 600000 ∧ s ≤ 7302250) {K18 : Int32 → gV → Nat → Nat → gI → gL → Prop} (hK18 : ∀ (y3 : Int32) (V1 : gV) (c1 s1 : Nat) (I1 : gI) (J1 : gL), (c1 ≤ 600000 ∧ s1 ≤ 7302250) → K18 y3 V1 c1 s1 I1 J1 → gJ X V1 c1 s1 18 [(0, .ref b), (1, .ref v1), (2, .ref v2), (3, .int y3)] [] I1 J1) (h : wA_L_law_1038 L xs Po K18 v1 v2 v3 s0 s1 s2 V c s I J) : gJ X V c s 1038 [(0, .ref b), (1, .ref v1), (2, .ref v2), (3, .int v3)] [.int s0, .ref s1, .int s2] I J := by
  unfold wA_L_law_1038 at h
  obtain ⟨hM, e413, h⟩ := h
  refine gJ.eqst (st' := [.int s0, .ref (V.2.1 200), .int s2]) (by rw [e413]) ?_
  refine j_callV (pc := 1038) (As := [.int s0]) (st := [.int s2]) C hX 200 (m_X10_rounds hM h) (c_200 hM).1 (c_200 hM).2 rfl ok_X10_rounds wd_1301 wd_1302 wd_1303 ⟨Nat.le_of_ble_eq_true rfl, Nat.le_of_ble_eq_true rfl⟩ rfl rfl (Nat.le_of_ble_eq_true rfl) ⟨hcs.1, hcs.2⟩ dL_law_1038 (fun r V1 I412 J1 hp => ?_)
  obtain ⟨r411, rfl, rfl, rfl, h⟩ := hp
  show gJ X V (c) (s) 1041 _ [.int r411, .int s2] _ _
  refine j_icmp_eq (pc := 1041) (tgt := 1128) C dL_law_1041 (by decide) (fun q414 => ?_) (fun q414 => ?_)
  · have h := h.1 q414
    refine gJ.sub [0, 1, 2, 3] rfl ?_
    exact tA_L_law_1128 C hX hS hcs hK18 h
  · have h := h.2 q414
    refine j_iconst (pc := 1044) (v := 0) C dL_law_1044 (by decide) ?_
    exact absurd h id
set_option maxRecDepth 100000 in
set_option maxHeartbeats 4000000 in
theorem tA_L_law_1021 {X : gX} {l : Launch} {D : va_G} {cy : Nat → ClassId} {L : Nat} {xs : Nat → Int32} {b : Nat} (C : gC X cL_law RL (some .boolean) 4 room_1) (hX : gIs X l D cy X.2.1.2.2.1.name) {Po : Unit} (hS : gLw X b L xs) {v1 : Nat} {v2 : Nat} {v3 : Int32} {s0 : Int32} {s1 : Nat} {V : gV} {c s : Nat} {I : gI} {J : gL} (hcs : c ≤ 600000 ∧ s ≤ 7302250) {K18 : Int32 → gV → Nat → Nat → gI → gL → Prop} (hK18 : ∀ (y3 : Int32) (V1 : gV) (c1 s1 : Nat) (I1 : gI) (J1 : gL), (c1 ≤ 600000 ∧ s1 ≤ 7302250) → K18 y3 V1 c1 s1 I1 J1 → gJ X V1 c1 s1 18 [(0, .ref b), (1, .ref v1), (2, .ref v2), (3, .int y3)] [] I1 J1) (h : wA_L_law_1021 L xs Po K18 v1 v2 v3 s0 s1 V c s I J) : gJ X V c s 1021 [(0, .ref b), (1, .ref v1), (2, .ref v2), (3, .int v3)] [.int s0, .ref s1] I J := by
  unfold wA_L_law_1021 at h
  obtain ⟨pr, pc, pg, hT, hCO, e408, h⟩ := h
  refine gJ.eqst (st' := [.int s0, .ref (V.2.1 0)]) (by rw [e408]) ?_
  refine j_callV (pc := 1021) (As := [.int s0]) (st := []) C hX 0 (m_X9_rounds hT hCO h) (c_0 hT).1 (c_0 hT).2 rfl ok_X9_rounds wd_906 wd_907 wd_908 ⟨Nat.le_of_ble_eq_true rfl, Nat.le_of_ble_eq_true rfl⟩ rfl rfl (Nat.le_of_ble_eq_true rfl) ⟨hcs.1, hcs.2⟩ dL_law_1021 (fun r V1 I407 J1 hp => ?_)
  obtain ⟨r406, rfl, rfl, rfl, h⟩ := hp
  show gJ X V (c) (s) 1024 _ [.int r406] _ _
  refine j_aload_n (pc := 1024) C dL_law_1024 rfl 2 rfl ?_
  refine j_aload_n (pc := 1025) C dL_law_1025 rfl 0 rfl ?_
  refine j_iload_n (pc := 1026) C dL_law_1026 rfl 3 rfl ?_
  refine j_iconst (pc := 1027) (v := 1) C dL_law_1027 (by decide) ?_
  refine j_iadd (pc := 1028) C dL_law_1028 ?_
  obtain ⟨g409, h⟩ := h
  refine j_sld (pc := 1029) C hS g409 dL_law_1029 ?_
  refine j_if_eq (pc := 1030) (tgt := 1037) C dL_law_1030 (by decide) (fun q410 => ?_) (fun q410 => ?_)
  · have h := h.1 q410
    refine j_iconst (pc := 1037) (v := 0) C dL_law_1037 (by decide) ?_
    refine gJ.sub [0, 1, 2, 3] rfl ?_
    exact tA_L_law_1038 C hX hS hcs hK18 h
  · have h := h.2 q410
    refine j_iconst (pc := 1033) (v := 1) C dL_law_1033 (by decide) ?_
    refine j_goto (pc := 1034) (tgt := 1038) C dL_law_1034 (by decide) ?_
    refine gJ.sub [0, 1, 2, 3] rfl ?_
    exact tA_L_law_1038 C hX hS hcs hK18 h
set_option maxRecDepth 100000 in
set_option maxHeartbeats 4000000 in
theorem tA_L_law_1007 {X : gX} {l : Launch} {D : va_G} {cy : Nat → ClassId} {L : Nat} {xs : Nat → Int32} {b : Nat} (C : gC X cL_law RL (some .boolean) 4 room_1) (hX : gIs X l D cy X.2.1.2.2.1.name) {Po : Unit} (hS : gLw X b L xs) {v1 : Nat} {v2 : Nat} {v3 : Int32} {V : gV} {c s : Nat} {I : gI} {J : gL} (hcs : c ≤ 600000 ∧ s ≤ 7302250) {K18 : Int32 → gV → Nat → Nat → gI → gL → Prop} (hK18 : ∀ (y3 : Int32) (V1 : gV) (c1 s1 : Nat) (I1 : gI) (J1 : gL), (c1 ≤ 600000 ∧ s1 ≤ 7302250) → K18 y3 V1 c1 s1 I1 J1 → gJ X V1 c1 s1 18 [(0, .ref b), (1, .ref v1), (2, .ref v2), (3, .int y3)] [] I1 J1) (h : wA_L_law_1007 L xs Po K18 v1 v2 v3 V c s I J) : gJ X V c s 1007 [(0, .ref b), (1, .ref v1), (2, .ref v2), (3, .int v3)] [] I J := by
  unfold wA_L_law_1007 at h
  refine j_aload_n (pc := 1007) C dL_law_1007 rfl 1 rfl ?_
  refine j_aload_n (pc := 1008) C dL_law_1008 rfl 0 rfl ?_
  refine j_iload_n (pc := 1009) C dL_law_1009 rfl 3 rfl ?_
  refine j_iconst (pc := 1010) (v := 1) C dL_law_1010 (by decide) ?_
  refine j_iadd (pc := 1011) C dL_law_1011 ?_
  obtain ⟨g404, h⟩ := h
  refine j_sld (pc := 1012) C hS g404 dL_law_1012 ?_
  refine j_if_eq (pc := 1013) (tgt := 1020) C dL_law_1013 (by decide) (fun q405 => ?_) (fun q405 => ?_)
  · have h := h.1 q405
    refine j_iconst (pc := 1020) (v := 0) C dL_law_1020 (by decide) ?_
    refine gJ.sub [0, 1, 2, 3] rfl ?_
    exact tA_L_law_1021 C hX hS hcs hK18 h
  · have h := h.2 q405
    refine j_iconst (pc := 1016) (v := 1) C dL_law_1016 (by decide) ?_
    refine j_goto (pc := 1017) (tgt := 1021) C dL_law_1017 (by decide) ?_
    refine gJ.sub [0, 1, 2, 3] rfl ?_
    exact tA_L_law_1021 C hX hS hcs hK18 h
set_option maxRecDepth 100000 in
set_option maxHeartbeats 4000000 in
theorem tA_L_law_1087 {X : gX} {l : Launch} {D : va_G} {cy : Nat → ClassId} {L : Nat} {xs : Nat → Int32} {b : Nat} (C : gC X cL_law RL (some .boolean) 4 room_1) (hX : gIs X l D cy X.2.1.2.2.1.name) {Po : Unit} (hS : gLw X b L xs) {v1 : Nat} {v2 : Nat} {v3 : Int32} {s0 : Int32} {s1 : Nat} {s2 : Int32} {V : gV} {c s : Nat} {I : gI} {J : gL} (hcs : c ≤ 600000 ∧ s ≤ 7302250) {K18 : Int32 → gV → Nat → Nat → gI → gL → Prop} (hK18 : ∀ (y3 : Int32) (V1 : gV) (c1 s1 : Nat) (I1 : gI) (J1 : gL), (c1 ≤ 600000 ∧ s1 ≤ 7302250) → K18 y3 V1 c1 s1 I1 J1 → gJ X V1 c1 s1 18 [(0, .ref b), (1, .ref v1), (2, .ref v2), (3, .int y3)] [] I1 J1) (h : wA_L_law_1087 L xs Po K18 v1 v2 v3 s0 s1 s2 V c s I J) : gJ X V c s 1087 [(0, .ref b), (1, .ref v1), (2, .ref v2), (3, .int v3)] [.int s0, .ref s1, .int s2] I J := by
  unfold wA_L_law_1087 at h
  refine j_aload_n (pc := 1087) C dL_law_1087 rfl 0 rfl ?_
  refine j_iload_n (pc := 1088) C dL_law_1088 rfl 3 rfl ?_
  refine j_iconst (pc := 1089) (v := 2) C dL_law_1089 (by decide) ?_
  refine j_iadd (pc := 1090) C dL_law_1090 ?_
  obtain ⟨g424, h⟩ := h
  refine j_sld (pc := 1091) C hS g424 dL_law_1091 ?_
  refine j_aload_n (pc := 1092) C dL_law_1092 rfl 0 rfl ?_
  refine j_iload_n (pc := 1093) C dL_law_1093 rfl 3 rfl ?_
  refine j_iconst (pc := 1094) (v := 3) C dL_law_1094 (by decide) ?_
  refine j_iadd (pc := 1095) C dL_law_1095 ?_
  obtain ⟨g425, h⟩ := h
  refine j_sld (pc := 1096) C hS g425 dL_law_1096 ?_
  obtain ⟨hM, e428, h⟩ := h
  refine gJ.eqst (st' := [.int (xs ((v3 + (3 : Int32))).toNatClampNeg), .int (xs ((v3 + (2 : Int32))).toNatClampNeg), .int s0, .ref (V.2.1 200), .int s2]) (by rw [e428]) ?_
  refine j_callV (pc := 1097) (As := [.int s0, .int (xs ((v3 + (2 : Int32))).toNatClampNeg), .int (xs ((v3 + (3 : Int32))).toNatClampNeg)]) (st := [.int s2]) C hX 200 (m_X10_round hM h) (c_200 hM).1 (c_200 hM).2 rfl ok_X10_round wd_1317 wd_1318 wd_1319 ⟨Nat.le_of_ble_eq_true rfl, Nat.le_of_ble_eq_true rfl⟩ rfl rfl (Nat.le_of_ble_eq_true rfl) ⟨hcs.1, hcs.2⟩ dL_law_1097 (fun r V1 I427 J1 hp => ?_)
  obtain ⟨r426, rfl, rfl, rfl, h⟩ := hp
  show gJ X V (c) (s) 1100 _ [.int r426, .int s2] _ _
  refine j_icmp_eq (pc := 1100) (tgt := 1128) C dL_law_1100 (by decide) (fun q429 => ?_) (fun q429 => ?_)
  · have h := h.1 q429
    refine gJ.sub [0, 1, 2, 3] rfl ?_
    exact tA_L_law_1128 C hX hS hcs hK18 h
  · have h := h.2 q429
    refine j_iconst (pc := 1103) (v := 0) C dL_law_1103 (by decide) ?_
    exact absurd h id
set_option maxRecDepth 100000 in
set_option maxHeartbeats 4000000 in
theorem tA_L_law_1060 {X : gX} {l : Launch} {D : va_G} {cy : Nat → ClassId} {L : Nat} {xs : Nat → Int32} {b : Nat} (C : gC X cL_law RL (some .boolean) 4 room_1) (hX : gIs X l D cy X.2.1.2.2.1.name) {Po : Unit} (hS : gLw X b L xs) {v1 : Nat} {v2 : Nat} {v3 : Int32} {s0 : Int32} {s1 : Nat} {V : gV} {c s : Nat} {I : gI} {J : gL} (hcs : c ≤ 600000 ∧ s ≤ 7302250) {K18 : Int32 → gV → Nat → Nat → gI → gL → Prop} (hK18 : ∀ (y3 : Int32) (V1 : gV) (c1 s1 : Nat) (I1 : gI) (J1 : gL), (c1 ≤ 600000 ∧ s1 ≤ 7302250) → K18 y3 V1 c1 s1 I1 J1 → gJ X V1 c1 s1 18 [(0, .ref b), (1, .ref v1), (2, .ref v2), (3, .int y3)] [] I1 J1) (h : wA_L_law_1060 L xs Po K18 v1 v2 v3 s0 s1 V c s I J) : gJ X V c s 1060 [(0, .ref b), (1, .ref v1), (2, .ref v2), (3, .int v3)] [.int s0, .ref s1] I J := by
  unfold wA_L_law_1060 at h
  refine j_aload_n (pc := 1060) C dL_law_1060 rfl 0 rfl ?_
  refine j_iload_n (pc := 1061) C dL_law_1061 rfl 3 rfl ?_
  refine j_iconst (pc := 1062) (v := 2) C dL_law_1062 (by decide) ?_
  refine j_iadd (pc := 1063) C dL_law_1063 ?_
  obtain ⟨g417, h⟩ := h
  refine j_sld (pc := 1064) C hS g417 dL_law_1064 ?_
  refine j_aload_n (pc := 1065) C dL_law_1065 rfl 0 rfl ?_
  refine j_iload_n (pc := 1066) C dL_law_1066 rfl 3 rfl ?_
  refine j_iconst (pc := 1067) (v := 3) C dL_law_1067 (by decide) ?_
  refine j_iadd (pc := 1068) C dL_law_1068 ?_
  obtain ⟨g418, h⟩ := h
  refine j_sld (pc := 1069) C hS g418 dL_law_1069 ?_
  obtain ⟨pr, pc, pg, hT, hCO, e421, h⟩ := h
  refine gJ.eqst (st' := [.int (xs ((v3 + (3 : Int32))).toNatClampNeg), .int (xs ((v3 + (2 : Int32))).toNatClampNeg), .int s0, .ref (V.2.1 0)]) (by rw [e421]) ?_
  refine j_callV (pc := 1070) (As := [.int s0, .int (xs ((v3 + (2 : Int32))).toNatClampNeg), .int (xs ((v3 + (3 : Int32))).toNatClampNeg)]) (st := []) C hX 0 (m_X9_round hT hCO h) (c_0 hT).1 (c_0 hT).2 rfl ok_X9_round wd_946 wd_947 wd_948 ⟨Nat.le_of_ble_eq_true rfl, Nat.le_of_ble_eq_true rfl⟩ rfl rfl (Nat.le_of_ble_eq_true rfl) ⟨hcs.1, hcs.2⟩ dL_law_1070 (fun r V1 I420 J1 hp => ?_)
  obtain ⟨r419, rfl, rfl, rfl, h⟩ := hp
  show gJ X V (c) (s) 1073 _ [.int r419] _ _
  refine j_aload_n (pc := 1073) C dL_law_1073 rfl 2 rfl ?_
  refine j_aload_n (pc := 1074) C dL_law_1074 rfl 0 rfl ?_
  refine j_iload_n (pc := 1075) C dL_law_1075 rfl 3 rfl ?_
  refine j_iconst (pc := 1076) (v := 1) C dL_law_1076 (by decide) ?_
  refine j_iadd (pc := 1077) C dL_law_1077 ?_
  obtain ⟨g422, h⟩ := h
  refine j_sld (pc := 1078) C hS g422 dL_law_1078 ?_
  refine j_if_eq (pc := 1079) (tgt := 1086) C dL_law_1079 (by decide) (fun q423 => ?_) (fun q423 => ?_)
  · have h := h.1 q423
    refine j_iconst (pc := 1086) (v := 0) C dL_law_1086 (by decide) ?_
    refine gJ.sub [0, 1, 2, 3] rfl ?_
    exact tA_L_law_1087 C hX hS hcs hK18 h
  · have h := h.2 q423
    refine j_iconst (pc := 1082) (v := 1) C dL_law_1082 (by decide) ?_
    refine j_goto (pc := 1083) (tgt := 1087) C dL_law_1083 (by decide) ?_
    refine gJ.sub [0, 1, 2, 3] rfl ?_
    exact tA_L_law_1087 C hX hS hcs hK18 h
set_option maxRecDepth 100000 in
set_option maxHeartbeats 4000000 in
theorem tA_L_law_1046 {X : gX} {l : Launch} {D : va_G} {cy : Nat → ClassId} {L : Nat} {xs : Nat → Int32} {b : Nat} (C : gC X cL_law RL (some .boolean) 4 room_1) (hX : gIs X l D cy X.2.1.2.2.1.name) {Po : Unit} (hS : gLw X b L xs) {v1 : Nat} {v2 : Nat} {v3 : Int32} {V : gV} {c s : Nat} {I : gI} {J : gL} (hcs : c ≤ 600000 ∧ s ≤ 7302250) {K18 : Int32 → gV → Nat → Nat → gI → gL → Prop} (hK18 : ∀ (y3 : Int32) (V1 : gV) (c1 s1 : Nat) (I1 : gI) (J1 : gL), (c1 ≤ 600000 ∧ s1 ≤ 7302250) → K18 y3 V1 c1 s1 I1 J1 → gJ X V1 c1 s1 18 [(0, .ref b), (1, .ref v1), (2, .ref v2), (3, .int y3)] [] I1 J1) (h : wA_L_law_1046 L xs Po K18 v1 v2 v3 V c s I J) : gJ X V c s 1046 [(0, .ref b), (1, .ref v1), (2, .ref v2), (3, .int v3)] [] I J := by
  unfold wA_L_law_1046 at h
  refine j_aload_n (pc := 1046) C dL_law_1046 rfl 1 rfl ?_
  refine j_aload_n (pc := 1047) C dL_law_1047 rfl 0 rfl ?_
  refine j_iload_n (pc := 1048) C dL_law_1048 rfl 3 rfl ?_
  refine j_iconst (pc := 1049) (v := 1) C dL_law_1049 (by decide) ?_
  refine j_iadd (pc := 1050) C dL_law_1050 ?_
  obtain ⟨g415, h⟩ := h
  refine j_sld (pc := 1051) C hS g415 dL_law_1051 ?_
  refine j_if_eq (pc := 1052) (tgt := 1059) C dL_law_1052 (by decide) (fun q416 => ?_) (fun q416 => ?_)
  · have h := h.1 q416
    refine j_iconst (pc := 1059) (v := 0) C dL_law_1059 (by decide) ?_
    refine gJ.sub [0, 1, 2, 3] rfl ?_
    exact tA_L_law_1060 C hX hS hcs hK18 h
  · have h := h.2 q416
    refine j_iconst (pc := 1055) (v := 1) C dL_law_1055 (by decide) ?_
    refine j_goto (pc := 1056) (tgt := 1060) C dL_law_1056 (by decide) ?_
    refine gJ.sub [0, 1, 2, 3] rfl ?_
    exact tA_L_law_1060 C hX hS hcs hK18 h
set_option maxRecDepth 100000 in
set_option maxHeartbeats 4000000 in
theorem tA_L_law_1105 {X : gX} {l : Launch} {D : va_G} {cy : Nat → ClassId} {L : Nat} {xs : Nat → Int32} {b : Nat} (C : gC X cL_law RL (some .boolean) 4 room_1) (hX : gIs X l D cy X.2.1.2.2.1.name) {Po : Unit} (hS : gLw X b L xs) {v1 : Nat} {v2 : Nat} {v3 : Int32} {V : gV} {c s : Nat} {I : gI} {J : gL} (hcs : c ≤ 600000 ∧ s ≤ 7302250) {K18 : Int32 → gV → Nat → Nat → gI → gL → Prop} (hK18 : ∀ (y3 : Int32) (V1 : gV) (c1 s1 : Nat) (I1 : gI) (J1 : gL), (c1 ≤ 600000 ∧ s1 ≤ 7302250) → K18 y3 V1 c1 s1 I1 J1 → gJ X V1 c1 s1 18 [(0, .ref b), (1, .ref v1), (2, .ref v2), (3, .int y3)] [] I1 J1) (h : wA_L_law_1105 L xs Po K18 v1 v2 v3 V c s I J) : gJ X V c s 1105 [(0, .ref b), (1, .ref v1), (2, .ref v2), (3, .int v3)] [] I J := by
  unfold wA_L_law_1105 at h
  refine j_aload_n (pc := 1105) C dL_law_1105 rfl 1 rfl ?_
  refine j_aload_n (pc := 1106) C dL_law_1106 rfl 0 rfl ?_
  refine j_iload_n (pc := 1107) C dL_law_1107 rfl 3 rfl ?_
  refine j_iconst (pc := 1108) (v := 1) C dL_law_1108 (by decide) ?_
  refine j_iadd (pc := 1109) C dL_law_1109 ?_
  obtain ⟨g430, h⟩ := h
  refine j_sld (pc := 1110) C hS g430 dL_law_1110 ?_
  obtain ⟨pr, pc, pg, hT, hTS, hJG, hBL, hCO, e432, h⟩ := h
  refine gJ.eqst (st' := [.int (xs ((v3 + (1 : Int32))).toNatClampNeg), .ref (V.2.1 0)]) (by rw [e432]) ?_
  refine j_callV (pc := 1111) (As := [.int (xs ((v3 + (1 : Int32))).toNatClampNeg)]) (st := []) C hX 0 (m_X9_count hT hTS hJG hBL hCO h) (c_0 hT).1 (c_0 hT).2 rfl ok_X9_count wd_954 wd_955 wd_956 ⟨Nat.le_of_ble_eq_true rfl, Nat.le_of_ble_eq_true rfl⟩ rfl rfl (Nat.le_of_ble_eq_true rfl) ⟨hcs.1, hcs.2⟩ dL_law_1111 (fun r V1 I1 J1 hp => ?_)
  obtain ⟨r431, rfl, rfl, rfl, rfl, h⟩ := hp
  show gJ X V (c) (s) 1114 _ [.int r431] _ _
  refine j_aload_n (pc := 1114) C dL_law_1114 rfl 2 rfl ?_
  refine j_aload_n (pc := 1115) C dL_law_1115 rfl 0 rfl ?_
  refine j_iload_n (pc := 1116) C dL_law_1116 rfl 3 rfl ?_
  refine j_iconst (pc := 1117) (v := 1) C dL_law_1117 (by decide) ?_
  refine j_iadd (pc := 1118) C dL_law_1118 ?_
  obtain ⟨g433, h⟩ := h
  refine j_sld (pc := 1119) C hS g433 dL_law_1119 ?_
  obtain ⟨hM, e435, h⟩ := h
  refine gJ.eqst (st' := [.int (xs ((v3 + (1 : Int32))).toNatClampNeg), .ref (V.2.1 200), .int r431]) (by rw [e435]) ?_
  refine j_callV (pc := 1120) (As := [.int (xs ((v3 + (1 : Int32))).toNatClampNeg)]) (st := [.int r431]) C hX 200 (m_X10_count hM h) (c_200 hM).1 (c_200 hM).2 rfl ok_X10_count wd_1321 wd_1322 wd_1323 ⟨Nat.le_of_ble_eq_true rfl, Nat.le_of_ble_eq_true rfl⟩ rfl rfl (Nat.le_of_ble_eq_true rfl) ⟨hcs.1, hcs.2⟩ dL_law_1120 (fun r V1 I1 J1 hp => ?_)
  obtain ⟨r434, rfl, rfl, rfl, rfl, h⟩ := hp
  show gJ X V (c) (s) 1123 _ [.int r434, .int r431] _ _
  refine j_icmp_eq (pc := 1123) (tgt := 1128) C dL_law_1123 (by decide) (fun q436 => ?_) (fun q436 => ?_)
  · have h := h.1 q436
    refine gJ.sub [0, 1, 2, 3] rfl ?_
    exact tA_L_law_1128 C hX hS hcs hK18 h
  · have h := h.2 q436
    refine j_iconst (pc := 1126) (v := 0) C dL_law_1126 (by decide) ?_
    exact absurd h id
set_option maxRecDepth 100000 in
set_option maxHeartbeats 4000000 in
theorem tA_L_law_18b {X : gX} {l : Launch} {D : va_G} {cy : Nat → ClassId} {L : Nat} {xs : Nat → Int32} {b : Nat} (C : gC X cL_law RL (some .boolean) 4 room_1) (hX : gIs X l D cy X.2.1.2.2.1.name) {Po : Unit} (hS : gLw X b L xs) {v1 : Nat} {v2 : Nat} {v3 : Int32} {V : gV} {c s : Nat} {I : gI} {J : gL} (hcs : c ≤ 600000 ∧ s ≤ 7302250) {K18 : Int32 → gV → Nat → Nat → gI → gL → Prop} (hK18 : ∀ (y3 : Int32) (V1 : gV) (c1 s1 : Nat) (I1 : gI) (J1 : gL), (c1 ≤ 600000 ∧ s1 ≤ 7302250) → K18 y3 V1 c1 s1 I1 J1 → gJ X V1 c1 s1 18 [(0, .ref b), (1, .ref v1), (2, .ref v2), (3, .int y3)] [] I1 J1) (h : wA_L_law_18b L xs Po K18 v1 v2 v3 V c s I J) : gJ X V c s 18 [(0, .ref b), (1, .ref v1), (2, .ref v2), (3, .int v3)] [] I J := by
  unfold wA_L_law_18b at h
  refine j_iload_n (pc := 18) C dL_law_18 rfl 3 rfl ?_
  refine j_aload_n (pc := 19) C dL_law_19 rfl 0 rfl ?_
  refine j_slen (pc := 20) C hS dL_law_20 ?_
  refine j_bipush (pc := 21) (v := 6) C dL_law_21 (by decide) ?_
  refine j_isub (pc := 23) C dL_law_23 ?_
  refine j_icmp_gt (pc := 24) (tgt := 1134) C dL_law_24 (by decide) (fun q29 => ?_) (fun q29 => ?_)
  · have h := h.1 q29
    refine j_iconst (pc := 1134) (v := 1) C dL_law_1134 (by decide) ?_
    exact j_lawret (pc := 1135) C hS hcs.1 hcs.2 dL_law_1135
  · have h := h.2 q29
    refine j_aload_n (pc := 27) C dL_law_27 rfl 0 rfl ?_
    refine j_iload_n (pc := 28) C dL_law_28 rfl 3 rfl ?_
    obtain ⟨g30, h⟩ := h
    refine j_sld (pc := 29) C hS g30 dL_law_29 ?_
    refine j_bipush (pc := 30) (v := 31) C dL_law_30 (by decide) ?_
    refine j_iand (pc := 32) C dL_law_32 ?_
    refine gJ.topi (fun n31 en31 => ?_)
    have h := h n31 en31
    by_cases ctab : (n31).toInt < 0 ∨ 27 < (n31).toInt
    · have h := h.1 ctab
      refine j_tableOut (pc := 33) (tgt := 1128) C dL_law_33 ctab (by decide) ?_
      refine gJ.sub [0, 1, 2, 3] rfl ?_
      exact tA_L_law_1128 C hX hS hcs hK18 h
    · have h := h.2
      rcases (show (n31).toInt = 0 ∨ (n31).toInt = 1 ∨ (n31).toInt = 2 ∨ (n31).toInt = 3 ∨ (n31).toInt = 4 ∨ (n31).toInt = 5 ∨ (n31).toInt = 6 ∨ (n31).toInt = 7 ∨ (n31).toInt = 8 ∨ (n31).toInt = 9 ∨ (n31).toInt = 10 ∨ (n31).toInt = 11 ∨ (n31).toInt = 12 ∨ (n31).toInt = 13 ∨ (n31).toInt = 14 ∨ (n31).toInt = 15 ∨ (n31).toInt = 16 ∨ (n31).toInt = 17 ∨ (n31).toInt = 18 ∨ (n31).toInt = 19 ∨ (n31).toInt = 20 ∨ (n31).toInt = 21 ∨ (n31).toInt = 22 ∨ (n31).toInt = 23 ∨ (n31).toInt = 24 ∨ (n31).toInt = 25 ∨ (n31).toInt = 26 ∨ (n31).toInt = 27 by omega) with ctab2 | ctab2 | ctab2 | ctab2 | ctab2 | ctab2 | ctab2 | ctab2 | ctab2 | ctab2 | ctab2 | ctab2 | ctab2 | ctab2 | ctab2 | ctab2 | ctab2 | ctab2 | ctab2 | ctab2 | ctab2 | ctab2 | ctab2 | ctab2 | ctab2 | ctab2 | ctab2 | ctab2
      · have h := h.1 ctab2
        refine j_tableIn (pc := 33) (off := 127) (tgt := 160) C dL_law_33 (by omega) (by omega) (by rw [ctab2]; rfl) (by decide) ?_
        refine gJ.sub [0, 1, 2, 3] rfl ?_
        exact tA_L_law_160 C hX hS hcs hK18 h
      · have h := h.2.1 ctab2
        refine j_tableIn (pc := 33) (off := 180) (tgt := 213) C dL_law_33 (by omega) (by omega) (by rw [ctab2]; rfl) (by decide) ?_
        refine gJ.sub [0, 1, 2, 3] rfl ?_
        exact tA_L_law_213 C hX hS hcs hK18 h
      · have h := h.2.2.1 ctab2
        refine j_tableIn (pc := 33) (off := 193) (tgt := 226) C dL_law_33 (by omega) (by omega) (by rw [ctab2]; rfl) (by decide) ?_
        refine gJ.sub [0, 1, 2, 3] rfl ?_
        exact tA_L_law_226 C hX hS hcs hK18 h
      · have h := h.2.2.2.1 ctab2
        refine j_tableIn (pc := 33) (off := 253) (tgt := 286) C dL_law_33 (by omega) (by omega) (by rw [ctab2]; rfl) (by decide) ?_
        refine gJ.sub [0, 1, 2, 3] rfl ?_
        exact tA_L_law_286 C hX hS hcs hK18 h
      · have h := h.2.2.2.2.1 ctab2
        refine j_tableIn (pc := 33) (off := 332) (tgt := 365) C dL_law_33 (by omega) (by omega) (by rw [ctab2]; rfl) (by decide) ?_
        refine gJ.sub [0, 1, 2, 3] rfl ?_
        exact tA_L_law_365 C hX hS hcs hK18 h
      · have h := h.2.2.2.2.2.1 ctab2
        refine j_tableIn (pc := 33) (off := 345) (tgt := 378) C dL_law_33 (by omega) (by omega) (by rw [ctab2]; rfl) (by decide) ?_
        refine gJ.sub [0, 1, 2, 3] rfl ?_
        exact tA_L_law_378 C hX hS hcs hK18 h
      · have h := h.2.2.2.2.2.2.1 ctab2
        refine j_tableIn (pc := 33) (off := 358) (tgt := 391) C dL_law_33 (by omega) (by omega) (by rw [ctab2]; rfl) (by decide) ?_
        refine gJ.sub [0, 1, 2, 3] rfl ?_
        exact tA_L_law_391 C hX hS hcs hK18 h
      · have h := h.2.2.2.2.2.2.2.1 ctab2
        refine j_tableIn (pc := 33) (off := 382) (tgt := 415) C dL_law_33 (by omega) (by omega) (by rw [ctab2]; rfl) (by decide) ?_
        refine gJ.sub [0, 1, 2, 3] rfl ?_
        exact tA_L_law_415 C hX hS hcs hK18 h
      · have h := h.2.2.2.2.2.2.2.2.1 ctab2
        refine j_tableIn (pc := 33) (off := 405) (tgt := 438) C dL_law_33 (by omega) (by omega) (by rw [ctab2]; rfl) (by decide) ?_
        refine gJ.sub [0, 1, 2, 3] rfl ?_
        exact tA_L_law_438 C hX hS hcs hK18 h
      · have h := h.2.2.2.2.2.2.2.2.2.1 ctab2
        refine j_tableIn (pc := 33) (off := 418) (tgt := 451) C dL_law_33 (by omega) (by omega) (by rw [ctab2]; rfl) (by decide) ?_
        refine gJ.sub [0, 1, 2, 3] rfl ?_
        exact tA_L_law_451 C hX hS hcs hK18 h
      · have h := h.2.2.2.2.2.2.2.2.2.2.1 ctab2
        refine j_tableIn (pc := 33) (off := 461) (tgt := 494) C dL_law_33 (by omega) (by omega) (by rw [ctab2]; rfl) (by decide) ?_
        refine gJ.sub [0, 1, 2, 3] rfl ?_
        exact tA_L_law_494 C hX hS hcs hK18 h
      · have h := h.2.2.2.2.2.2.2.2.2.2.2.1 ctab2
        refine j_tableIn (pc := 33) (off := 510) (tgt := 543) C dL_law_33 (by omega) (by omega) (by rw [ctab2]; rfl) (by decide) ?_
        refine gJ.sub [0, 1, 2, 3] rfl ?_
        exact tA_L_law_543 C hX hS hcs hK18 h
      · have h := h.2.2.2.2.2.2.2.2.2.2.2.2.1 ctab2
        refine j_tableIn (pc := 33) (off := 533) (tgt := 566) C dL_law_33 (by omega) (by omega) (by rw [ctab2]; rfl) (by decide) ?_
        refine gJ.sub [0, 1, 2, 3] rfl ?_
        exact tA_L_law_566 C hX hS hcs hK18 h
      · have h := h.2.2.2.2.2.2.2.2.2.2.2.2.2.1 ctab2
        refine j_tableIn (pc := 33) (off := 557) (tgt := 590) C dL_law_33 (by omega) (by omega) (by rw [ctab2]; rfl) (by decide) ?_
        refine gJ.sub [0, 1, 2, 3] rfl ?_
        exact tA_L_law_590 C hX hS hcs hK18 h
      · have h := h.2.2.2.2.2.2.2.2.2.2.2.2.2.2.1 ctab2
        refine j_tableIn (pc := 33) (off := 610) (tgt := 643) C dL_law_33 (by omega) (by omega) (by rw [ctab2]; rfl) (by decide) ?_
        refine gJ.sub [0, 1, 2, 3] rfl ?_
        exact tA_L_law_643 C hX hS hcs hK18 h
      · have h := h.2.2.2.2.2.2.2.2.2.2.2.2.2.2.2.1 ctab2
        refine j_tableIn (pc := 33) (off := 633) (tgt := 666) C dL_law_33 (by omega) (by omega) (by rw [ctab2]; rfl) (by decide) ?_
        refine gJ.sub [0, 1, 2, 3] rfl ?_
        exact tA_L_law_666 C hX hS hcs hK18 h
      · have h := h.2.2.2.2.2.2.2.2.2.2.2.2.2.2.2.2.1 ctab2
        refine j_tableIn (pc := 33) (off := 666) (tgt := 699) C dL_law_33 (by omega) (by omega) (by rw [ctab2]; rfl) (by decide) ?_
        refine gJ.sub [0, 1, 2, 3] rfl ?_
        exact tA_L_law_699 C hX hS hcs hK18 h
      · have h := h.2.2.2.2.2.2.2.2.2.2.2.2.2.2.2.2.2.1 ctab2
        refine j_tableIn (pc := 33) (off := 719) (tgt := 752) C dL_law_33 (by omega) (by omega) (by rw [ctab2]; rfl) (by decide) ?_
        refine gJ.sub [0, 1, 2, 3] rfl ?_
        exact tA_L_law_752 C hX hS hcs hK18 h
      · have h := h.2.2.2.2.2.2.2.2.2.2.2.2.2.2.2.2.2.2.1 ctab2
        refine j_tableIn (pc := 33) (off := 772) (tgt := 805) C dL_law_33 (by omega) (by omega) (by rw [ctab2]; rfl) (by decide) ?_
        refine gJ.sub [0, 1, 2, 3] rfl ?_
        exact tA_L_law_805 C hX hS hcs hK18 h
      · have h := h.2.2.2.2.2.2.2.2.2.2.2.2.2.2.2.2.2.2.2.1 ctab2
        refine j_tableIn (pc := 33) (off := 816) (tgt := 849) C dL_law_33 (by omega) (by omega) (by rw [ctab2]; rfl) (by decide) ?_
        refine gJ.sub [0, 1, 2, 3] rfl ?_
        exact tA_L_law_849 C hX hS hcs hK18 h
      · have h := h.2.2.2.2.2.2.2.2.2.2.2.2.2.2.2.2.2.2.2.2.1 ctab2
        refine j_tableIn (pc := 33) (off := 869) (tgt := 902) C dL_law_33 (by omega) (by omega) (by rw [ctab2]; rfl) (by decide) ?_
        refine gJ.sub [0, 1, 2, 3] rfl ?_
        exact tA_L_law_902 C hX hS hcs hK18 h
      · have h := h.2.2.2.2.2.2.2.2.2.2.2.2.2.2.2.2.2.2.2.2.2.1 ctab2
        refine j_tableIn (pc := 33) (off := 882) (tgt := 915) C dL_law_33 (by omega) (by omega) (by rw [ctab2]; rfl) (by decide) ?_
        refine gJ.sub [0, 1, 2, 3] rfl ?_
        exact tA_L_law_915 C hX hS hcs hK18 h
      · have h := h.2.2.2.2.2.2.2.2.2.2.2.2.2.2.2.2.2.2.2.2.2.2.1 ctab2
        refine j_tableIn (pc := 33) (off := 915) (tgt := 948) C dL_law_33 (by omega) (by omega) (by rw [ctab2]; rfl) (by decide) ?_
        refine gJ.sub [0, 1, 2, 3] rfl ?_
        exact tA_L_law_948 C hX hS hcs hK18 h
      · have h := h.2.2.2.2.2.2.2.2.2.2.2.2.2.2.2.2.2.2.2.2.2.2.2.1 ctab2
        refine j_tableIn (pc := 33) (off := 938) (tgt := 971) C dL_law_33 (by omega) (by omega) (by rw [ctab2]; rfl) (by decide) ?_
        refine gJ.sub [0, 1, 2, 3] rfl ?_
        exact tA_L_law_971 C hX hS hcs hK18 h
      · have h := h.2.2.2.2.2.2.2.2.2.2.2.2.2.2.2.2.2.2.2.2.2.2.2.2.1 ctab2
        refine j_tableIn (pc := 33) (off := 961) (tgt := 994) C dL_law_33 (by omega) (by omega) (by rw [ctab2]; rfl) (by decide) ?_
        refine gJ.sub [0, 1, 2, 3] rfl ?_
        exact tA_L_law_994 C hX hS hcs hK18 h
      · have h := h.2.2.2.2.2.2.2.2.2.2.2.2.2.2.2.2.2.2.2.2.2.2.2.2.2.1 ctab2
        refine j_tableIn (pc := 33) (off := 974) (tgt := 1007) C dL_law_33 (by omega) (by omega) (by rw [ctab2]; rfl) (by decide) ?_
        refine gJ.sub [0, 1, 2, 3] rfl ?_
        exact tA_L_law_1007 C hX hS hcs hK18 h
      · have h := h.2.2.2.2.2.2.2.2.2.2.2.2.2.2.2.2.2.2.2.2.2.2.2.2.2.2.1 ctab2
        refine j_tableIn (pc := 33) (off := 1013) (tgt := 1046) C dL_law_33 (by omega) (by omega) (by rw [ctab2]; rfl) (by decide) ?_
        refine gJ.sub [0, 1, 2, 3] rfl ?_
        exact tA_L_law_1046 C hX hS hcs hK18 h
      · have h := h.2.2.2.2.2.2.2.2.2.2.2.2.2.2.2.2.2.2.2.2.2.2.2.2.2.2.2 ctab2
        refine j_tableIn (pc := 33) (off := 1072) (tgt := 1105) C dL_law_33 (by omega) (by omega) (by rw [ctab2]; rfl) (by decide) ?_
        refine gJ.sub [0, 1, 2, 3] rfl ?_
        exact tA_L_law_1105 C hX hS hcs hK18 h
set_option maxRecDepth 100000 in
set_option maxHeartbeats 4000000 in
theorem tA_L_law_18 {X : gX} {l : Launch} {D : va_G} {cy : Nat → ClassId} {L : Nat} {xs : Nat → Int32} {b : Nat} (C : gC X cL_law RL (some .boolean) 4 room_1) (hX : gIs X l D cy X.2.1.2.2.1.name) {Po : Unit} (hS : gLw X b L xs) {v1 : Nat} {v2 : Nat} {v3 : Int32} {V : gV} {c s : Nat} {I : gI} {J : gL} (hcs : c ≤ 600000 ∧ s ≤ 7302250) (h : wA_L_law_18 L xs Po v1 v2 v3 V c s I J) : gJ X V c s 18 [(0, .ref b), (1, .ref v1), (2, .ref v2), (3, .int v3)] [] I J := by
  unfold wA_L_law_18 at h
  obtain ⟨Inv, mu, h0, hs⟩ := h
  have key : ∀ (n : Nat) (v3 : Int32) (V : gV) (c s : Nat) (I : gI) (J : gL), (c ≤ 600000 ∧ s ≤ 7302250) → Inv v3 V c s I J → mu v3 V c s I J < n → gJ X V c s 18 [(0, .ref b), (1, .ref v1), (2, .ref v2), (3, .int v3)] [] I J := by
    intro n
    induction n with
    | zero => intro v3 V c s I J hq hi hn; exact absurd hn (Nat.not_lt_zero _)
    | succ n ih =>
      intro v3 V c s I J hq hi hn
      exact tA_L_law_18b C hX hS hq  (fun u3 V1 c1 s1 I1 J1 hq1 hk => ih u3 V1 c1 s1 I1 J1 hq1 hk.1 (Nat.lt_of_lt_of_le hk.2 (Nat.le_of_lt_succ hn))) (hs v3 V c s I J hi)
  exact key _ v3 V c s I J hcs h0 (Nat.lt_succ_self _)
set_option maxRecDepth 100000 in
set_option maxHeartbeats 4000000 in
theorem n_L_law {X : gX} {l : Launch} {D : va_G} {cy : Nat → ClassId} {L : Nat} {xs : Nat → Int32} {b : Nat} (C : gC X cL_law RL (some .boolean) 4 room_1) (hX : gIs X l D cy X.2.1.2.2.1.name) {Po : Unit} (hS : gLw X b L xs) {V : gV} {I : gI} {J : gL} (h : wA_L_law L xs Po b V I J) : gJ X V 0 0 0 [(0, .ref b)] [] I J := by
  have hcs : 0 ≤ 600000 ∧ 0 ≤ 7302250 := ⟨Nat.zero_le _, Nat.zero_le _⟩
  unfold wA_L_law at h
  obtain ⟨g1, g2, g3, h⟩ := h
  refine j_new (pc := 0) (ci := 9) (sl := [.inr none, .inr none, .inr none, .inr none, .inr none, .inr none, .inr none]) C 0 g1 tyX9 tyX9_ok rfl inw_X9 wd_85 wd_86 wd_69 fs_X9 g2 g3 dL_law_0 (fun b5 => ?_)
  have hcs : _ ∧ _ := ⟨g2, g3⟩
  refine gJ.nmV (fun V4 eV4 => ?_)
  have h := h b5 V4 eV4
  refine gJ.nmI (fun I6 eI6 => ?_)
  refine gJ.nmJ (fun J7 eJ7 => ?_)
  have h := h I6 J7 eI6 eJ7
  refine j_dup (pc := 3) C dL_law_3 rfl ?_
  obtain ⟨m8, m9, g10, g11, h⟩ := h
  refine j_callI (pc := 4) (As := []) (st := [.ref b5]) C hX (n_X9_init h) ok_X9_init wd_87 wd_88 rfl ⟨Nat.le_of_ble_eq_true rfl, Nat.le_of_ble_eq_true rfl⟩ rfl rfl (Nat.le_of_ble_eq_true rfl) ⟨g10, g11⟩ dL_law_4 (fun r V12 I13 J14 hp => ?_)
  obtain ⟨rfl, h⟩ := hp
  have hcs : _ ∧ _ := ⟨g10, g11⟩
  show gJ X V12 (0 + 1 + m8) (0 + 7 + m9) 7 _ [.ref b5] _ _
  refine j_astore_n (pc := 7) (lv' := [(1, .ref b5), (0, .ref b)]) C dL_law_7 rfl (by decide) rfl ?_
  obtain ⟨g15, g16, g17, h⟩ := h
  refine j_new (pc := 8) (ci := 10) (sl := [.inl 0, .inr none, .inr none, .inr none, .inr none, .inl 0, .inr none, .inr none, .inr none, .inr none, .inr none, .inl 0, .inr none, .inl 0, .inl 0, .inl 0, .inl 0, .inl 0, .inr none, .inr none, .inr none, .inr none, .inr none, .inr none, .inr none, .inr none, .inr none, .inr none, .inr none, .inl 1, .inl 0, .inl 0, .inl 0, .inr none, .inr none, .inr none, .inr none, .inr none, .inr none, .inr none, .inl 0, .inl 0, .inr none, .inr none, .inl 0]) C 200 g15 tyX10 tyX10_ok rfl inw_X10 wd_958 wd_959 wd_74 fs_X10 g16 g17 dL_law_8 (fun b19 => ?_)
  have hcs : _ ∧ _ := ⟨g16, g17⟩
  refine gJ.nmV (fun V18 eV18 => ?_)
  have h := h b19 V18 eV18
  refine gJ.nmI (fun I20 eI20 => ?_)
  refine gJ.nmJ (fun J21 eJ21 => ?_)
  have h := h I20 J21 eI20 eJ21
  refine j_dup (pc := 11) C dL_law_11 rfl ?_
  obtain ⟨m22, m23, g24, g25, h⟩ := h
  refine j_callI (pc := 12) (As := []) (st := [.ref b19]) C hX (n_X10_init h) ok_X10_init wd_960 wd_961 rfl ⟨Nat.le_of_ble_eq_true rfl, Nat.le_of_ble_eq_true rfl⟩ rfl rfl (Nat.le_of_ble_eq_true rfl) ⟨g24, g25⟩ dL_law_12 (fun r V26 I27 J28 hp => ?_)
  obtain ⟨rfl, h⟩ := hp
  have hcs : _ ∧ _ := ⟨g24, g25⟩
  show gJ X V26 (0 + 1 + m8 + 1 + m22) (0 + 7 + m9 + 45 + m23) 15 _ [.ref b19] _ _
  refine j_astore_n (pc := 15) (lv' := [(2, .ref b19), (1, .ref b5), (0, .ref b)]) C dL_law_15 rfl (by decide) rfl ?_
  refine j_iconst (pc := 16) (v := 0) C dL_law_16 (by decide) ?_
  refine j_istore_n (pc := 17) (lv' := [(3, .int (0 : Int32)), (2, .ref b19), (1, .ref b5), (0, .ref b)]) C dL_law_17 rfl (by decide) rfl ?_
  refine gJ.sub [3, 2, 1, 0] rfl ?_
  exact tA_L_law_18 C hX hS hcs  h
