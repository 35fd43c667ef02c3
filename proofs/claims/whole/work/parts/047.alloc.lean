/-! what makes cells: a cell more (gadd), a descriptor changed (gde) -/
def gadd (V : gV) (n a : Nat) (d : gD) : gV := (V.1 ++ [n], va_up V.2.1 n a, va_up V.2.2 n d)
def gde (V : gV) (n : Nat) (d : gD) : gV := (V.1, V.2.1, va_up V.2.2 n d)
theorem gW_add {cy : Nat → ClassId} {V : gV} {I I' : gI} {J J' : gL} {n a : Nat} {d : gD} (hn : n ∉ V.1) (hI : ∀ k, k ≠ n → I' k = I k) (hJ : ∀ k, k ≠ n → J' k = J k) : gW cy (gadd V n a d) I' J' = gW cy V I J ++ [(a, gE cy I' J' n d)] := by
  unfold gW gadd
  rw [List.map_append]
  congr 1
  · apply List.map_congr_left
    intro k hk
    have hne : k ≠ n := fun e => hn (e ▸ hk)
    simp only [va_up, hne, if_false]
    rw [gE_I (hI k hne) (hJ k hne)]
  · simp [va_up]
section GAL
variable {X : gX} {V : gV} {cells slots pc : Nat} {lv : List (Nat × Value)} {st : List Value} {I : gI} {J : gL} {cc : ByteArray} {own : String} {ret : Option FieldType} {nL0 : Nat} {R0 : Room}
theorem j_newI (C : gC X cc own ret nL0 R0) {x : Int32} {N : Nat} (num : Nat) (hnum : num ∉ V.1) (hx0 : ¬ x < 0) (hN : x.toNatClampNeg = N) (hby : N * 4 ≤ 536870912) (hc : cells + 1 ≤ R0.cells) (hs : slots + N ≤ R0.slots) (hw : Cond.arrayClass .int ∈ gWd) (hd : decode cc pc = .ok (.newarray .int, 2)) (kk : ∀ a : Nat, gJ X (gadd V num a (.inr (0, N, gno))) (cells + 1) (slots + N) (pc + 2) lv (.ref a :: st) (guc I num (fun _ => 0)) J) : gJ X V cells slots pc lv (.int x :: st) I J := by
  obtain ⟨⟨p, l, e, R, s, m⟩, ⟨args, below, meth, c⟩, ⟨D, cy, A, Q, nL⟩⟩ := X
  obtain ⟨hx, hb, hml, hown, hts, hr, hlk, hK, hA, hnL, hR0⟩ := C
  intro H locs ls hP hD hS hl
  subst hR0
  refine va_newa (D := D) (atype := .int) hx hb (hts _ hw) rfl hK.1 hP hD hS hA (a0 := (N, .inl (fun _ => 0))) (fun cA => rfl) hx0 hN hby hc hs hd (fun q cA H1 hK1 hP1 hD1 hS1 => ?_)
  have ecA : cA = cy 0 := by
    have h1 := (hK1.2 6 _ rfl).2
    have h2 := (hK.1.2 0 _ rfl).2
    exact Option.some.inj (Eq.trans (Eq.symm h1) h2)
  subst ecA
  have e := gW_add (cy := cy) (V := V) (a := q) (d := .inr (0, N, gno)) (I := I) (J := J) (I' := (guc I num (fun _ => 0))) (J' := J) hnum (fun k hk => guc_o hk) (fun _ _ => rfl)
  have e2 : gE cy (guc I num (fun _ => 0)) J num (.inr (0, N, gno)) = .inl (cy 0, (N, .inl (fun _ => 0))) := by
    unfold gE
    simp only [guc_s]
    rfl
  rw [e2] at e
  exact kk q H1 locs ls (by rw [e]; exact hP1) (by rw [e]; exact hD1) hS1 hl
theorem j_newL (C : gC X cc own ret nL0 R0) {x : Int32} {N : Nat} (num : Nat) (hnum : num ∉ V.1) (hx0 : ¬ x < 0) (hN : x.toNatClampNeg = N) (hby : N * 8 ≤ 536870912) (hc : cells + 1 ≤ R0.cells) (hs : slots + N ≤ R0.slots) (hw : Cond.arrayClass .long ∈ gWd) (hd : decode cc pc = .ok (.newarray .long, 2)) (kk : ∀ a : Nat, gJ X (gadd V num a (.inr (1, N, gno))) (cells + 1) (slots + N) (pc + 2) lv (.ref a :: st) I (guc J num (fun _ => 0))) : gJ X V cells slots pc lv (.int x :: st) I J := by
  obtain ⟨⟨p, l, e, R, s, m⟩, ⟨args, below, meth, c⟩, ⟨D, cy, A, Q, nL⟩⟩ := X
  obtain ⟨hx, hb, hml, hown, hts, hr, hlk, hK, hA, hnL, hR0⟩ := C
  intro H locs ls hP hD hS hl
  subst hR0
  refine va_newa (D := D) (atype := .long) hx hb (hts _ hw) rfl hK.1 hP hD hS hA (a0 := (N, .inr (.inl (fun _ => 0)))) (fun cA => rfl) hx0 hN hby hc hs hd (fun q cA H1 hK1 hP1 hD1 hS1 => ?_)
  have ecA : cA = cy 1 := by
    have h1 := (hK1.2 6 _ rfl).2
    have h2 := (hK.1.2 1 _ rfl).2
    exact Option.some.inj (Eq.trans (Eq.symm h1) h2)
  subst ecA
  have e := gW_add (cy := cy) (V := V) (a := q) (d := .inr (1, N, gno)) (I := I) (J := J) (I' := I) (J' := (guc J num (fun _ => 0))) hnum (fun _ _ => rfl) (fun k hk => guc_o hk)
  have e2 : gE cy I (guc J num (fun _ => 0)) num (.inr (1, N, gno)) = .inl (cy 1, (N, .inr (.inl (fun _ => 0)))) := by
    unfold gE
    simp only [guc_s]
    rfl
  rw [e2] at e
  exact kk q H1 locs ls (by rw [e]; exact hP1) (by rw [e]; exact hD1) hS1 hl
theorem j_newB (C : gC X cc own ret nL0 R0) {x : Int32} {N : Nat} (num : Nat) (hnum : num ∉ V.1) (hx0 : ¬ x < 0) (hN : x.toNatClampNeg = N) (hby : N * 1 ≤ 536870912) (hc : cells + 1 ≤ R0.cells) (hs : slots + N ≤ R0.slots) (hw : Cond.arrayClass .byte ∈ gWd) (hd : decode cc pc = .ok (.newarray .byte, 2)) (kk : ∀ a : Nat, gJ X (gadd V num a (.inr (2, N, gno))) (cells + 1) (slots + N) (pc + 2) lv (.ref a :: st) (guc I num (fun _ => 0)) J) : gJ X V cells slots pc lv (.int x :: st) I J := by
  obtain ⟨⟨p, l, e, R, s, m⟩, ⟨args, below, meth, c⟩, ⟨D, cy, A, Q, nL⟩⟩ := X
  obtain ⟨hx, hb, hml, hown, hts, hr, hlk, hK, hA, hnL, hR0⟩ := C
  intro H locs ls hP hD hS hl
  subst hR0
  refine va_newa (D := D) (atype := .byte) hx hb (hts _ hw) rfl hK.1 hP hD hS hA (a0 := (N, .inl (fun _ => 0))) (fun cA => rfl) hx0 hN hby hc hs hd (fun q cA H1 hK1 hP1 hD1 hS1 => ?_)
  have ecA : cA = cy 2 := by
    have h1 := (hK1.2 6 _ rfl).2
    have h2 := (hK.1.2 2 _ rfl).2
    exact Option.some.inj (Eq.trans (Eq.symm h1) h2)
  subst ecA
  have e := gW_add (cy := cy) (V := V) (a := q) (d := .inr (2, N, gno)) (I := I) (J := J) (I' := (guc I num (fun _ => 0))) (J' := J) hnum (fun k hk => guc_o hk) (fun _ _ => rfl)
  have e2 : gE cy (guc I num (fun _ => 0)) J num (.inr (2, N, gno)) = .inl (cy 2, (N, .inl (fun _ => 0))) := by
    unfold gE
    simp only [guc_s]
    rfl
  rw [e2] at e
  exact kk q H1 locs ls (by rw [e]; exact hP1) (by rw [e]; exact hD1) hS1 hl
theorem j_newZ (C : gC X cc own ret nL0 R0) {x : Int32} {N : Nat} (num : Nat) (hnum : num ∉ V.1) (hx0 : ¬ x < 0) (hN : x.toNatClampNeg = N) (hby : N * 1 ≤ 536870912) (hc : cells + 1 ≤ R0.cells) (hs : slots + N ≤ R0.slots) (hw : Cond.arrayClass .boolean ∈ gWd) (hd : decode cc pc = .ok (.newarray .boolean, 2)) (kk : ∀ a : Nat, gJ X (gadd V num a (.inr (3, N, gno))) (cells + 1) (slots + N) (pc + 2) lv (.ref a :: st) (guc I num (fun _ => 0)) J) : gJ X V cells slots pc lv (.int x :: st) I J := by
  obtain ⟨⟨p, l, e, R, s, m⟩, ⟨args, below, meth, c⟩, ⟨D, cy, A, Q, nL⟩⟩ := X
  obtain ⟨hx, hb, hml, hown, hts, hr, hlk, hK, hA, hnL, hR0⟩ := C
  intro H locs ls hP hD hS hl
  subst hR0
  refine va_newa (D := D) (atype := .boolean) hx hb (hts _ hw) rfl hK.1 hP hD hS hA (a0 := (N, .inl (fun _ => 0))) (fun cA => rfl) hx0 hN hby hc hs hd (fun q cA H1 hK1 hP1 hD1 hS1 => ?_)
  have ecA : cA = cy 3 := by
    have h1 := (hK1.2 6 _ rfl).2
    have h2 := (hK.1.2 3 _ rfl).2
    exact Option.some.inj (Eq.trans (Eq.symm h1) h2)
  subst ecA
  have e := gW_add (cy := cy) (V := V) (a := q) (d := .inr (3, N, gno)) (I := I) (J := J) (I' := (guc I num (fun _ => 0))) (J' := J) hnum (fun k hk => guc_o hk) (fun _ _ => rfl)
  have e2 : gE cy (guc I num (fun _ => 0)) J num (.inr (3, N, gno)) = .inl (cy 3, (N, .inl (fun _ => 0))) := by
    unfold gE
    simp only [guc_s]
    rfl
  rw [e2] at e
  exact kk q H1 locs ls (by rw [e]; exact hP1) (by rw [e]; exact hD1) hS1 hl
theorem j_new (C : gC X cc own ret nL0 R0) {Cn : String} {T : u_T} {N ci index : Nat} {sl : List (Nat ⊕ Option Nat)} (num : Nat) (hnum : num ∉ V.1) (ty0 : Nat → FieldType) (hty : ∀ k, k < N → parseFieldDescriptor (T k).2.2.1 = some (ty0 k)) (hc : vwCl[ci]? = some (Cn, T, N)) (hin : ∀ w ∈ u_ws Cn T N, w ∈ gWd) (hcl : Cond.classLink own index Cn ∈ gWd) (hinst : Cond.instantiable Cn N ∈ gWd) (hini : Cond.initialized Cn ∈ gWd) (hfs : ∀ j, j < N → defaultValue (ty0 j) = vp_V (gSl (fun _ => 0) (fun _ => 0) 0 sl) j) (hce : cells + 1 ≤ R0.cells) (hsl : slots + N ≤ R0.slots) (hd : decode cc pc = .ok (.new index, 3)) (kk : ∀ a : Nat, gJ X (gadd V num a (.inl (ci, sl))) (cells + 1) (slots + N) (pc + 3) lv (.ref a :: st) (guc I num (fun _ => 0)) (guc J num (fun _ => 0))) : gJ X V cells slots pc lv st I J := by
  obtain ⟨⟨p, l, e, R, s, m⟩, ⟨args, below, meth, c⟩, ⟨D, cy, A, Q, nL⟩⟩ := X
  obtain ⟨hx, hb, hml, hown, hts, hr, hlk, hK, hA, hnL, hR0⟩ := C
  intro H locs ls hP hD hS hl
  subst hR0
  refine va_new (D := D) hx hb hts hin ty0 hty hown (hts _ hcl) (hts _ hinst) (hts _ hini) hK.1 hP hD hS hA hc hfs hce hsl hd (fun q H1 hP1 hD1 hS1 => ?_)
  have e := gW_add (cy := cy) (V := V) (a := q) (d := .inl (ci, sl)) (I := I) (J := J) (I' := guc I num (fun _ => 0)) (J' := guc J num (fun _ => 0)) hnum (fun k hk => guc_o hk) (fun k hk => guc_o hk)
  have e2 : gE cy (guc I num (fun _ => 0)) (guc J num (fun _ => 0)) num (.inl (ci, sl)) = .inr (ci, gSl (fun _ => 0) (fun _ => 0) 0 sl) := by
    unfold gE
    simp only [guc_s]
  rw [e2] at e
  exact kk q H1 locs ls (by rw [e]; exact hP1) (by rw [e]; exact hD1) hS1 hl
theorem j_putF (C : gC X cc own ret nL0 R0) {Cn : String} {T : u_T} {N ci index : Nat} {sl : List (Nat ⊕ Option Nat)} {a : Nat} {ft : FieldType} (ty0 : Nat → FieldType) (hty : ∀ k, k < N → parseFieldDescriptor (T k).2.2.1 = some (ty0 k)) (hnm : ∀ a, a < N → ∀ b, b < N → a ≠ b → (T a).2.1 ≠ (T b).2.1) (k n : Nat) {l0 : Launch} {D0 : va_G} {cy0 : Nat → ClassId} (hX : gIs X l0 D0 cy0 "<init>") (hdecl : (T n).1 = own) (hk : k ∈ V.1) (hde : V.2.2 k = .inl (ci, sl)) (hn : n < sl.length) (hc : vwCl[ci]? = some (Cn, T, N)) (hN : n < N) (hin : ∀ w ∈ u_ws Cn T N, w ∈ gWd) (hlink : Cond.fieldLink own index (T n).1 (T n).2.1 (T n).2.2.1 ∈ gWd) (hfin : (T n).2.2.2 = true) (hft : parseFieldDescriptor (T n).2.2.1 = some ft) (hnar : narrow ft (.ref a) = .ref a) (hfit : fits ft (.ref a) = true) (hd : decode cc pc = .ok (.putfield index, 3)) (kk : gJ X (gde V k (.inl (ci, sl.set n (.inr (some a))))) cells slots (pc + 3) lv st I J) : gJ X V cells slots pc lv (.ref a :: .ref (V.2.1 k) :: st) I J := by
  obtain ⟨⟨p, l, e, R, s, m⟩, ⟨args, below, meth, c⟩, ⟨D, cy, A, Q, nL⟩⟩ := X
  obtain ⟨hx, hb, hml, hown, hts, hr, hlk, hK, hA, hnL, hR0⟩ := C
  intro H locs ls hP hD hS hl
  subst hR0
  obtain ⟨ks, ad, de⟩ := V
  obtain ⟨q0, h0, h1⟩ := gW_at (cy := cy) (I := I) (J := J) hk
  rw [hde] at h1
  have hlen : n < (gSl (I k) (J k) 0 sl).length := by rw [gSl_len]; exact hn
  refine va_putF (D := D) hx hb hts hin ty0 hty hnm hown hK.1 hP hD hS q0 h1 hc n hN (hts _ hlink) (fun _ h => h) hfin hX.2.2.2 hdecl hft hnar hfit hlen hd (fun H1 locs1 hP1 hD1 hS1 => ?_)
  have hset : (gW cy (ks, ad, de) I J).set q0 (ad k, .inr (ci, (gSl (I k) (J k) 0 sl).set n (.ref a))) = gW cy (gde (ks, ad, de) k (.inl (ci, sl.set n (.inr (some a))))) I J := by
    refine gW_set hD h0 ?_ (fun k' hk' => by simp only [va_up, hk', if_false])
    simp only [va_up, if_true]
    unfold gE
    show _ = Sum.inr (ci, (gSl (I k) (J k) 0 sl).set n (va_rf (some a)))
    rw [gSl_setR]
  exact kk H1 locs1 ls (by rw [← hset]; exact hP1) (by rw [← hset]; exact hD1) hS1 hl
theorem j_putFN (C : gC X cc own ret nL0 R0) {Cn : String} {T : u_T} {N ci index : Nat} {sl : List (Nat ⊕ Option Nat)} {ft : FieldType} (ty0 : Nat → FieldType) (hty : ∀ k, k < N → parseFieldDescriptor (T k).2.2.1 = some (ty0 k)) (hnm : ∀ a, a < N → ∀ b, b < N → a ≠ b → (T a).2.1 ≠ (T b).2.1) (k n : Nat) {l0 : Launch} {D0 : va_G} {cy0 : Nat → ClassId} (hX : gIs X l0 D0 cy0 "<init>") (hdecl : (T n).1 = own) (hk : k ∈ V.1) (hde : V.2.2 k = .inl (ci, sl)) (hn : n < sl.length) (hc : vwCl[ci]? = some (Cn, T, N)) (hN : n < N) (hin : ∀ w ∈ u_ws Cn T N, w ∈ gWd) (hlink : Cond.fieldLink own index (T n).1 (T n).2.1 (T n).2.2.1 ∈ gWd) (hfin : (T n).2.2.2 = true) (hft : parseFieldDescriptor (T n).2.2.1 = some ft) (hnar : narrow ft (.null) = .null) (hfit : fits ft (.null) = true) (hd : decode cc pc = .ok (.putfield index, 3)) (kk : gJ X (gde V k (.inl (ci, sl.set n (.inr (none))))) cells slots (pc + 3) lv st I J) : gJ X V cells slots pc lv (.null :: .ref (V.2.1 k) :: st) I J := by
  obtain ⟨⟨p, l, e, R, s, m⟩, ⟨args, below, meth, c⟩, ⟨D, cy, A, Q, nL⟩⟩ := X
  obtain ⟨hx, hb, hml, hown, hts, hr, hlk, hK, hA, hnL, hR0⟩ := C
  intro H locs ls hP hD hS hl
  subst hR0
  obtain ⟨ks, ad, de⟩ := V
  obtain ⟨q0, h0, h1⟩ := gW_at (cy := cy) (I := I) (J := J) hk
  rw [hde] at h1
  have hlen : n < (gSl (I k) (J k) 0 sl).length := by rw [gSl_len]; exact hn
  refine va_putF (D := D) hx hb hts hin ty0 hty hnm hown hK.1 hP hD hS q0 h1 hc n hN (hts _ hlink) (fun _ h => h) hfin hX.2.2.2 hdecl hft hnar hfit hlen hd (fun H1 locs1 hP1 hD1 hS1 => ?_)
  have hset : (gW cy (ks, ad, de) I J).set q0 (ad k, .inr (ci, (gSl (I k) (J k) 0 sl).set n (.null))) = gW cy (gde (ks, ad, de) k (.inl (ci, sl.set n (.inr (none))))) I J := by
    refine gW_set hD h0 ?_ (fun k' hk' => by simp only [va_up, hk', if_false])
    simp only [va_up, if_true]
    unfold gE
    show _ = Sum.inr (ci, (gSl (I k) (J k) 0 sl).set n (va_rf (none)))
    rw [gSl_setR]
  exact kk H1 locs1 ls (by rw [← hset]; exact hP1) (by rw [← hset]; exact hD1) hS1 hl
theorem j_putR (C : gC X cc own ret nL0 R0) {Cn : String} {T : u_T} {N ci index : Nat} {sl : List (Nat ⊕ Option Nat)} {a : Nat} {ft : FieldType} (ty0 : Nat → FieldType) (hty : ∀ k, k < N → parseFieldDescriptor (T k).2.2.1 = some (ty0 k)) (hnm : ∀ a, a < N → ∀ b, b < N → a ≠ b → (T a).2.1 ≠ (T b).2.1) (k n : Nat) (hk : k ∈ V.1) (hde : V.2.2 k = .inl (ci, sl)) (hn : n < sl.length) (hc : vwCl[ci]? = some (Cn, T, N)) (hN : n < N) (hin : ∀ w ∈ u_ws Cn T N, w ∈ gWd) (hlink : Cond.fieldLink own index (T n).1 (T n).2.1 (T n).2.2.1 ∈ gWd) (hfin : (T n).2.2.2 = false) (hft : parseFieldDescriptor (T n).2.2.1 = some ft) (hnar : narrow ft (.ref a) = .ref a) (hfit : fits ft (.ref a) = true) (hd : decode cc pc = .ok (.putfield index, 3)) (kk : gJ X (gde V k (.inl (ci, sl.set n (.inr (some a))))) cells slots (pc + 3) lv st I J) : gJ X V cells slots pc lv (.ref a :: .ref (V.2.1 k) :: st) I J := by
  obtain ⟨⟨p, l, e, R, s, m⟩, ⟨args, below, meth, c⟩, ⟨D, cy, A, Q, nL⟩⟩ := X
  obtain ⟨hx, hb, hml, hown, hts, hr, hlk, hK, hA, hnL, hR0⟩ := C
  intro H locs ls hP hD hS hl
  subst hR0
  obtain ⟨ks, ad, de⟩ := V
  obtain ⟨q0, h0, h1⟩ := gW_at (cy := cy) (I := I) (J := J) hk
  rw [hde] at h1
  have hlen : n < (gSl (I k) (J k) 0 sl).length := by rw [gSl_len]; exact hn
  refine va_put (D := D) hx hb hts hin ty0 hty hnm hown hK.1 hP hD hS q0 h1 hc n hN (hts _ hlink) (fun _ h => h) hfin hft hnar hfit hlen hd (fun H1 locs1 hP1 hD1 hS1 => ?_)
  have hset : (gW cy (ks, ad, de) I J).set q0 (ad k, .inr (ci, (gSl (I k) (J k) 0 sl).set n (.ref a))) = gW cy (gde (ks, ad, de) k (.inl (ci, sl.set n (.inr (some a))))) I J := by
    refine gW_set hD h0 ?_ (fun k' hk' => by simp only [va_up, hk', if_false])
    simp only [va_up, if_true]
    unfold gE
    show _ = Sum.inr (ci, (gSl (I k) (J k) 0 sl).set n (va_rf (some a)))
    rw [gSl_setR]
  exact kk H1 locs1 ls (by rw [← hset]; exact hP1) (by rw [← hset]; exact hD1) hS1 hl
theorem j_putN (C : gC X cc own ret nL0 R0) {Cn : String} {T : u_T} {N ci index : Nat} {sl : List (Nat ⊕ Option Nat)} {ft : FieldType} (ty0 : Nat → FieldType) (hty : ∀ k, k < N → parseFieldDescriptor (T k).2.2.1 = some (ty0 k)) (hnm : ∀ a, a < N → ∀ b, b < N → a ≠ b → (T a).2.1 ≠ (T b).2.1) (k n : Nat) (hk : k ∈ V.1) (hde : V.2.2 k = .inl (ci, sl)) (hn : n < sl.length) (hc : vwCl[ci]? = some (Cn, T, N)) (hN : n < N) (hin : ∀ w ∈ u_ws Cn T N, w ∈ gWd) (hlink : Cond.fieldLink own index (T n).1 (T n).2.1 (T n).2.2.1 ∈ gWd) (hfin : (T n).2.2.2 = false) (hft : parseFieldDescriptor (T n).2.2.1 = some ft) (hnar : narrow ft (.null) = .null) (hfit : fits ft (.null) = true) (hd : decode cc pc = .ok (.putfield index, 3)) (kk : gJ X (gde V k (.inl (ci, sl.set n (.inr (none))))) cells slots (pc + 3) lv st I J) : gJ X V cells slots pc lv (.null :: .ref (V.2.1 k) :: st) I J := by
  obtain ⟨⟨p, l, e, R, s, m⟩, ⟨args, below, meth, c⟩, ⟨D, cy, A, Q, nL⟩⟩ := X
  obtain ⟨hx, hb, hml, hown, hts, hr, hlk, hK, hA, hnL, hR0⟩ := C
  intro H locs ls hP hD hS hl
  subst hR0
  obtain ⟨ks, ad, de⟩ := V
  obtain ⟨q0, h0, h1⟩ := gW_at (cy := cy) (I := I) (J := J) hk
  rw [hde] at h1
  have hlen : n < (gSl (I k) (J k) 0 sl).length := by rw [gSl_len]; exact hn
  refine va_put (D := D) hx hb hts hin ty0 hty hnm hown hK.1 hP hD hS q0 h1 hc n hN (hts _ hlink) (fun _ h => h) hfin hft hnar hfit hlen hd (fun H1 locs1 hP1 hD1 hS1 => ?_)
  have hset : (gW cy (ks, ad, de) I J).set q0 (ad k, .inr (ci, (gSl (I k) (J k) 0 sl).set n (.null))) = gW cy (gde (ks, ad, de) k (.inl (ci, sl.set n (.inr (none))))) I J := by
    refine gW_set hD h0 ?_ (fun k' hk' => by simp only [va_up, hk', if_false])
    simp only [va_up, if_true]
    unfold gE
    show _ = Sum.inr (ci, (gSl (I k) (J k) 0 sl).set n (va_rf (none)))
    rw [gSl_setR]
  exact kk H1 locs1 ls (by rw [← hset]; exact hP1) (by rw [← hset]; exact hD1) hS1 hl
theorem j_anew (C : gC X cc own ret nL0 R0) {x : Int32} {N index : Nat} (num : Nat) (hnum : num ∉ V.1) (hx0 : ¬ x < 0) (hN : x.toNatClampNeg = N) (hby : N * 4 ≤ 536870912) (hc : cells + 1 ≤ R0.cells) (hs : slots + N ≤ R0.slots) (hcl : Cond.classLink own index "TileRules$Tally" ∈ gWd) (hd : decode cc pc = .ok (.anewarray index, 3)) (kk : ∀ a : Nat, gJ X (gadd V num a (.inr (5, N, gno))) (cells + 1) (slots + N) (pc + 3) lv (.ref a :: st) I J) : gJ X V cells slots pc lv (.int x :: st) I J := by
  obtain ⟨⟨p, l, e, R, s, m⟩, ⟨args, below, meth, c⟩, ⟨D, cy, A, Q, nL⟩⟩ := X
  obtain ⟨hx, hb, hml, hown, hts, hr, hlk, hK, hA, hnL, hR0⟩ := C
  intro H locs ls hP hD hS hl
  subst hR0
  refine va_newq (D := D) hx hb hown (hts _ hcl) hK.2.2.2.2.2.2.2.1 hK.1 hP hD hS hA hx0 hN hby hc hs hd (fun q cA H1 hK1 hP1 hD1 hS1 => ?_)
  have ecA : cA = cy 5 := by
    obtain ⟨k1, c1, -, -, -, h1⟩ := (hK1.2 6 _ rfl).2
    obtain ⟨k2, c2, -, -, -, h2⟩ := (hK.1.2 5 _ rfl).2
    exact Option.some.inj (Eq.trans (Eq.symm h1) h2)
  subst ecA
  have e := gW_add (cy := cy) (V := V) (a := q) (d := .inr (5, N, gno)) (I := I) (J := J) (I' := I) (J' := J) hnum (fun _ _ => rfl) (fun _ _ => rfl)
  exact kk q H1 locs ls (by rw [e]; exact hP1) (by rw [e]; exact hD1) hS1 hl
theorem j_aast (C : gC X cc own ret nL0 R0) {i : Int32} {len : Nat} {rf : Nat → Option Nat} {sl : List (Nat ⊕ Option Nat)} (k v : Nat) (hk : k ∈ V.1) (hde : V.2.2 k = .inr (5, len, rf)) (hv : v ∈ V.1) (hdv : V.2.2 v = .inl (7, sl)) (hin : vp_in i len) (hd : decode cc pc = .ok (.aastore, 1)) (kk : gJ X (gde V k (.inr (5, len, va_up rf i.toNatClampNeg (some (V.2.1 v))))) cells slots (pc + 1) lv st I J) : gJ X V cells slots pc lv (.ref (V.2.1 v) :: .int i :: .ref (V.2.1 k) :: st) I J := by
  obtain ⟨⟨p, l, e, R, s, m⟩, ⟨args, below, meth, c⟩, ⟨D, cy, A, Q, nL⟩⟩ := X
  obtain ⟨hx, hb, hml, hown, hts, hr, hlk, hK, hA, hnL, hR0⟩ := C
  intro H locs ls hP hD hS hl
  subst hR0
  obtain ⟨ks, ad, de⟩ := V
  obtain ⟨q0, h0, h1⟩ := gW_at (cy := cy) (I := I) (J := J) hk
  obtain ⟨q1, h2, h3⟩ := gW_at (cy := cy) (I := I) (J := J) hv
  rw [hde] at h1
  rw [hdv] at h3
  refine va_astq (D := D) (r := (RX7, TX7, 3)) hx hb hK.1 hP hD hS q0 5 q1 7 (cA := cy 5) (n := len) (f := rf) h1 rfl h3 rfl hin hd (fun H1 locs1 hP1 hD1 hS1 => ?_)
  have hset : (gW cy (ks, ad, de) I J).set q0 (ad k, .inl (cy 5, len, .inr (.inr (.inr (.inr (va_up rf i.toNatClampNeg (some (ad v)))))))) = gW cy (gde (ks, ad, de) k (.inr (5, len, va_up rf i.toNatClampNeg (some (ad v))))) I J := by
    refine gW_set hD h0 ?_ (fun k' hk' => by simp only [va_up, hk', if_false])
    simp only [va_up, if_true]
    rfl
  exact kk H1 locs1 ls (by rw [← hset]; exact hP1) (by rw [← hset]; exact hD1) hS1 hl
theorem j_getRa (C : gC X cc own ret nL0 R0) {Cn : String} {T : u_T} {N ci index a : Nat} {sl : List (Nat ⊕ Option Nat)} (k n : Nat) (hk : k ∈ V.1) (hde : V.2.2 k = .inl (ci, sl)) (hn : sl[n]? = some (.inr (some a))) (hc : vwCl[ci]? = some (Cn, T, N)) (hN : n < N) (hin : ∀ w ∈ u_ws Cn T N, w ∈ gWd) (hlink : Cond.fieldLink own index (T n).1 (T n).2.1 (T n).2.2.1 ∈ gWd) (hd : decode cc pc = .ok (.getfield index, 3)) (kk : gJ X V cells slots (pc + 3) lv (.ref a :: st) I J) : gJ X V cells slots pc lv (.ref (V.2.1 k) :: st) I J := by
  obtain ⟨⟨p, l, e, R, s, m⟩, ⟨args, below, meth, c⟩, ⟨D, cy, A, Q, nL⟩⟩ := X
  obtain ⟨hx, hb, hml, hown, hts, hr, hlk, hK, hA, hnL, hR0⟩ := C
  intro H locs ls hP hD hS hl
  subst hR0
  obtain ⟨q0, h0, h1⟩ := gW_at (cy := cy) (I := I) (J := J) hk
  rw [hde] at h1
  exact va_get (D := D) hx hb hts hin hown hK.1 hP q0 h1 hc n hN (hts _ hlink) (fun _ h => h) (by rw [gSl_get, hn]; simp only [Option.map_some, gSv, va_rf]) hd (kk H locs ls hP hD hS hl)
theorem j_putIF (C : gC X cc own ret nL0 R0) {Cn : String} {T : u_T} {N ci index : Nat} {sl : List (Nat ⊕ Option Nat)} {x : Int32} {ft : FieldType} (ty0 : Nat → FieldType) (hty : ∀ k, k < N → parseFieldDescriptor (T k).2.2.1 = some (ty0 k)) (hnm : ∀ a, a < N → ∀ b, b < N → a ≠ b → (T a).2.1 ≠ (T b).2.1) (k n : Nat) {l0 : Launch} {D0 : va_G} {cy0 : Nat → ClassId} (hX : gIs X l0 D0 cy0 "<init>") (hdecl : (T n).1 = own) (hk : k ∈ V.1) (hde : V.2.2 k = .inl (ci, sl)) (hn : sl[n]? = some (.inl 0)) (hc : vwCl[ci]? = some (Cn, T, N)) (hN : n < N) (hin : ∀ w ∈ u_ws Cn T N, w ∈ gWd) (hlink : Cond.fieldLink own index (T n).1 (T n).2.1 (T n).2.2.1 ∈ gWd) (hfin : (T n).2.2.2 = true) (hft : parseFieldDescriptor (T n).2.2.1 = some ft) (hnar : narrow ft (.int x) = .int x) (hfit : fits ft (.int x) = true) (hd : decode cc pc = .ok (.putfield index, 3)) (kk : gJ X V cells slots (pc + 3) lv st (gup I k n x) J) : gJ X V cells slots pc lv (.int x :: .ref (V.2.1 k) :: st) I J := by
  obtain ⟨⟨p, l, e, R, s, m⟩, ⟨args, below, meth, c⟩, ⟨D, cy, A, Q, nL⟩⟩ := X
  obtain ⟨hx, hb, hml, hown, hts, hr, hlk, hK, hA, hnL, hR0⟩ := C
  intro H locs ls hP hD hS hl
  subst hR0
  obtain ⟨ks, ad, de⟩ := V
  obtain ⟨q0, h0, h1⟩ := gW_at (cy := cy) (I := I) (J := J) hk
  rw [hde] at h1
  have hlen : n < (gSl (I k) (J k) 0 sl).length := by rw [gSl_len]; exact (List.getElem?_eq_some_iff.mp hn).1
  refine va_putF (D := D) hx hb hts hin ty0 hty hnm hown hK.1 hP hD hS q0 h1 hc n hN (hts _ hlink) (fun _ h => h) hfin hX.2.2.2 hdecl hft hnar hfit hlen hd (fun H1 locs1 hP1 hD1 hS1 => ?_)
  have hset : (gW cy (ks, ad, de) I J).set q0 (ad k, .inr (ci, (gSl (I k) (J k) 0 sl).set n (.int x))) = gW cy (ks, ad, de) (gup I k n x) J := by
    refine gW_set hD h0 ?_ (fun k' hk' => gE_I (gup_o hk') rfl)
    show gE cy (gup I k n x) J k (de k) = _
    rw [show de k = .inl (ci, sl) from hde]
    unfold gE
    simp only [gup_s]
    rw [gSl_setI _ _ _ _ _ hn]
  exact kk H1 locs1 ls (by rw [← hset]; exact hP1) (by rw [← hset]; exact hD1) hS1 hl
theorem j_objInit (C : gC X cc own ret nL0 R0) {index a : Nat} (hlink : Cond.methodLink own index Lib.objectInit ∈ gWd) (hinst : Cond.instanceMethod Lib.objectInit ∈ gWd) (hcode : Cond.code Lib.objectInit ⟨#[0xb1]⟩ 1 none ∈ gWd) (hf : 1 ≤ R0.frames) (hlo : (st.map fun v => v.category).sum + 12 ≤ R0.locals) (hd : decode cc pc = .ok (.invokespecial index, 3)) (kk : gJ X V cells slots (pc + 3) lv st I J) : gJ X V cells slots pc lv (.ref a :: st) I J := by
  obtain ⟨⟨p, l, e, R, s, m⟩, ⟨args, below, meth, c⟩, ⟨D, cy, A, Q, nL⟩⟩ := X
  obtain ⟨hx, hb, hml, hown, hts, hr, hlk, hK, hA, hnL, hR0⟩ := C
  intro H locs ls hP hD hS hl
  subst hR0
  refine W.objInit hx hb hown (hts _ hlink) (hts _ hinst) (hts _ hcode) rfl (hl.1.trans hml.symm) rfl hd hf ?_ (kk H locs ls hP hD hS hl)
  show 2 * 0 + _ + 12 ≤ _
  omega
/-- new int[6][K]: the outer array is cell n, its rows are n + 1 .. n + 6 -/
def gmul (V : gV) (n q : Nat) (r : Nat → Nat) (K : Nat) : gV := gadd (gadd (gadd (gadd (gadd (gadd (gadd V n q (.inr (4, 6, fun j => if j < 6 then some (r j) else none))) (n + 1) (r 0) (.inr (0, K, gno))) (n + 2) (r 1) (.inr (0, K, gno))) (n + 3) (r 2) (.inr (0, K, gno))) (n + 4) (r 3) (.inr (0, K, gno))) (n + 5) (r 4) (.inr (0, K, gno))) (n + 6) (r 5) (.inr (0, K, gno))
def gmz (I : gI) (n : Nat) : gI := guc (guc (guc (guc (guc (guc I (n + 1) (fun _ => 0)) (n + 2) (fun _ => 0)) (n + 3) (fun _ => 0)) (n + 4) (fun _ => 0)) (n + 5) (fun _ => 0)) (n + 6) (fun _ => 0)
theorem gmz_o {I : gI} {n k : Nat} (h : k ≤ n ∨ n + 6 < k) : gmz I n k = I k := by
  unfold gmz
  rw [guc_o (by omega), guc_o (by omega), guc_o (by omega), guc_o (by omega), guc_o (by omega), guc_o (by omega)]
theorem gmz_i {I : gI} {n z : Nat} (h : z < 6) : gmz I n (n + 1 + z) = fun _ => 0 := by
  unfold gmz
  rcases (show z = 0 ∨ z = 1 ∨ z = 2 ∨ z = 3 ∨ z = 4 ∨ z = 5 by omega) with rfl | rfl | rfl | rfl | rfl | rfl <;> simp [guc]
theorem gW_addS {cy : Nat → ClassId} {V : gV} {I : gI} {J : gL} {n a : Nat} {d : gD} (hn : n ∉ V.1) : gW cy (gadd V n a d) I J = gW cy V I J ++ [(a, gE cy I J n d)] := gW_add hn (fun _ _ => rfl) (fun _ _ => rfl)
theorem gW_congr {cy : Nat → ClassId} {V : gV} {I I' : gI} {J : gL} (h : ∀ k ∈ V.1, I' k = I k) : gW cy V I' J = gW cy V I J := by
  unfold gW
  apply List.map_congr_left
  intro k hk
  rw [gE_I (h k hk) rfl]
theorem j_multi (C : gC X cc own ret nL0 R0) {index K : Nat} {kx : Int32} (n : Nat) (hnum : ∀ z, z < 7 → n + z ∉ V.1) (hk0 : ¬ kx < 0) (hkK : kx.toNatClampNeg = K) (hKb : K ≤ 100000000) (hce : cells + 7 ≤ R0.cells) (hsl : slots + (6 + 6 * K) ≤ R0.slots) (hcl : Cond.classLink own index "[[I" ∈ gWd) (hac : Cond.arrayClass .int ∈ gWd) (hd : decode cc pc = .ok (.multianewarray index 2, 4)) (kk : ∀ (q : Nat) (r : Nat → Nat), gJ X (gmul V n q r K) (cells + 7) (slots + (6 + 6 * K)) (pc + 4) lv (.ref q :: st) (gmz I n) J) : gJ X V cells slots pc lv (.int kx :: .int 6 :: st) I J := by
  obtain ⟨⟨p, l, e, R, s, m⟩, ⟨args, below, meth, c⟩, ⟨D, cy, A, Q, nL⟩⟩ := X
  obtain ⟨hx, hb, hml, hown, hts, hr, hlk, hK, hA, hnL, hR0⟩ := C
  intro H locs ls hP hD hS hl
  subst hR0
  have hcl2 : (Cond.classLink own index ("[" ++ (FieldType.array FieldType.int).toString)).before args s = true := by
    rw [show ("[" ++ (FieldType.array FieldType.int).toString) = "[[I" from by decide]
    exact hts _ hcl
  have hcy : s.vm.findClass (FieldType.array FieldType.int).toString = some (cy 0) := (hK.1.2 0 _ rfl).2
  refine va_mna (D := D) (X := gW cy V I J) (L := []) (f := fun _ => .inr (0, [])) (ty := .int) (cy := cy 0) (N' := 6) (K' := K) (z := (K, .inl (fun _ => 0))) hx hb hown hcl2 hK.2.2.2.2.2.2.2.2 (hts _ hac) hcy hK.1 (by simpa [va_pl] using hP) (by simpa [va_pl] using hD) hS hA (by decide) hk0 (by decide) hkK (by decide) (by show K * 4 ≤ 536870912; omega) (by omega) rfl rfl (by omega) (by omega) (fun c9 => by rw [vp_cell_i]; exact arrV_new c9 K _) hd (fun q r cA H1 hinj hnl hK1 hP1 hD1 hS1 => ?_)
  have ecA : cA = cy 4 := by
    have h1 := (hK1.2 6 _ rfl).2
    have h2 := (hK.1.2 4 _ rfl).2
    exact Option.some.inj (Eq.trans (Eq.symm h1) h2)
  subst ecA
  have z1 : ∀ z, z < 6 → gE cy (gmz I n) J (n + 1 + z) (.inr (0, K, gno)) = .inl (cy 0, K, .inl (fun _ => 0)) := fun z hz => by
    unfold gE
    rw [gmz_i hz]
    rfl
  have hmem : ∀ k ∈ V.1, k < n ∨ n + 6 < k := fun k hk => by
    rcases Nat.lt_or_ge k n with h | h
    · exact Or.inl h
    · rcases Nat.lt_or_ge (n + 6) k with h2 | h2
      · exact Or.inr h2
      · exact absurd (show n + (k - n) ∈ V.1 by rw [show n + (k - n) = k by omega]; exact hk) (hnum (k - n) (by omega))
  have hnot : ∀ z, z < 7 → n + z ∉ V.1 := hnum
  have hw : gW cy (gmul V n q r K) (gmz I n) J = (gW cy V I J ++ [(q, .inl (cy 4, 6, .inr (.inr (.inr (.inr (fun i => if i < 6 then some (r i) else none))))))]) ++ va_pl ([] ++ (List.range 6).map r) (vr_up (fun _ => .inr (0, [])) ((List.range 6).map r) (.inl (cy 0, (K, .inl (fun _ => 0))))) := by
    have hpl : va_pl ([] ++ (List.range 6).map r) (vr_up (fun _ => .inr (0, [])) ((List.range 6).map r) (.inl (cy 0, (K, .inl (fun _ => 0))))) = [(r 0, .inl (cy 0, (K, .inl (fun _ => 0)))), (r 1, .inl (cy 0, (K, .inl (fun _ => 0)))), (r 2, .inl (cy 0, (K, .inl (fun _ => 0)))), (r 3, .inl (cy 0, (K, .inl (fun _ => 0)))), (r 4, .inl (cy 0, (K, .inl (fun _ => 0)))), (r 5, .inl (cy 0, (K, .inl (fun _ => 0))))] := by
      simp [va_pl, vr_up, List.range, List.range.loop]
    rw [hpl]
    unfold gmul
    have h0 : n ∉ V.1 := hnot 0 (by omega)
    have h1 := hnot 1 (by omega)
    have h2 := hnot 2 (by omega)
    have h3 := hnot 3 (by omega)
    have h4 := hnot 4 (by omega)
    have h5 := hnot 5 (by omega)
    have h6 := hnot 6 (by omega)
    rw [gW_addS (by simp [gadd, h6]), gW_addS (by simp [gadd, h5]), gW_addS (by simp [gadd, h4]), gW_addS (by simp [gadd, h3]), gW_addS (by simp [gadd, h2]), gW_addS (by simp [gadd, h1]), gW_addS h0]
    rw [gW_congr (I := I) (I' := gmz I n) (fun k hk => gmz_o (by have := hmem k hk; omega))]
    rw [show gE cy (gmz I n) J (n + 1) (.inr (0, K, gno)) = _ from z1 0 (by omega), show gE cy (gmz I n) J (n + 2) (.inr (0, K, gno)) = _ from z1 1 (by omega), show gE cy (gmz I n) J (n + 3) (.inr (0, K, gno)) = _ from z1 2 (by omega), show gE cy (gmz I n) J (n + 4) (.inr (0, K, gno)) = _ from z1 3 (by omega), show gE cy (gmz I n) J (n + 5) (.inr (0, K, gno)) = _ from z1 4 (by omega), show gE cy (gmz I n) J (n + 6) (.inr (0, K, gno)) = _ from z1 5 (by omega)]
    simp only [List.append_assoc, List.cons_append, List.nil_append]
    rfl
  refine W.widen (k := cells + 7) (n := slots + (6 + 6 * K)) (by omega) (by omega) ?_
  exact kk q r H1 locs ls (by rw [hw]; exact hP1) (by rw [hw]; exact hD1) hS1 hl
end GAL
