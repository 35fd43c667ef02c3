/-! THE WORLD BY CELL NUMBERS. A cell has a number k (a literal, nearly always); ad k is its address; de k says what it is; I k j and J k j are its ints and longs (a field by its slot, an array by its place). -/
abbrev gD : Type := (Nat × List (Nat ⊕ Option Nat)) ⊕ (Nat × Nat × (Nat → Option Nat))
abbrev gI : Type := Nat → Nat → Int32
abbrev gL : Type := Nat → Nat → Int64
abbrev gV : Type := List Nat × (Nat → Nat) × (Nat → gD)
def gSv (i : Nat → Int32) (j : Nat → Int64) (n : Nat) (q : Nat ⊕ Option Nat) : Value := match q with
  | .inl 0 => .int (i n)
  | .inl _ => .long (j n)
  | .inr o => va_rf o
def gSl (i : Nat → Int32) (j : Nat → Int64) : Nat → List (Nat ⊕ Option Nat) → List Value
  | _, [] => []
  | n, q :: r => gSv i j n q :: gSl i j (n + 1) r
def gE (cy : Nat → ClassId) (I : gI) (J : gL) (k : Nat) (d : gD) : va_E := match d with
  | .inl o => .inr (o.1, gSl (I k) (J k) 0 o.2)
  | .inr a => .inl (cy a.1, a.2.1, if a.1 = 1 then .inr (.inl (J k)) else if a.1 < 4 then .inl (I k) else .inr (.inr (.inr (.inr a.2.2))))
def gW (cy : Nat → ClassId) (V : gV) (I : gI) (J : gL) : va_W := V.1.map fun k => (V.2.1 k, gE cy I J k (V.2.2 k))
/-- ints and longs of the world with one place new -/
def gup {α : Type} (f : Nat → Nat → α) (k j : Nat) (v : α) : Nat → Nat → α := fun k' j' => if k' = k then (if j' = j then v else f k' j') else f k' j'
theorem gup_o {α : Type} {f : Nat → Nat → α} {k j : Nat} {v : α} {k' : Nat} (h : k' ≠ k) : gup f k j v k' = f k' := by funext j'; simp [gup, h]
theorem gup_s {α : Type} {f : Nat → Nat → α} {k j : Nat} {v : α} : gup f k j v k = fun j' => if j' = j then v else f k j' := by funext j'; simp [gup]
theorem gup_at {α : Type} {f : Nat → Nat → α} {k j : Nat} {v : α} : gup f k j v k j = v := by simp [gup]
theorem gup_ne {α : Type} {f : Nat → Nat → α} {k j : Nat} {v : α} {j' : Nat} (h : j' ≠ j) : gup f k j v k j' = f k j' := by simp [gup, h]
/-- a whole cell new -/
def guc {α : Type} (f : Nat → Nat → α) (k : Nat) (g : Nat → α) : Nat → Nat → α := fun k' => if k' = k then g else f k'
theorem guc_o {α : Type} {f : Nat → Nat → α} {k : Nat} {g : Nat → α} {k' : Nat} (h : k' ≠ k) : guc f k g k' = f k' := by simp [guc, h]
theorem guc_s {α : Type} {f : Nat → Nat → α} {k : Nat} {g : Nat → α} : guc f k g k = g := by simp [guc]
theorem gSl_get (i : Nat → Int32) (j : Nat → Int64) : ∀ (l : List (Nat ⊕ Option Nat)) (n k : Nat), (gSl i j n l)[k]? = (l[k]?).map (gSv i j (n + k))
  | [], n, k => by simp [gSl]
  | q :: r, n, 0 => by simp [gSl]
  | q :: r, n, k + 1 => by
    simp only [gSl, List.getElem?_cons_succ]
    rw [gSl_get i j r (n + 1) k, show n + 1 + k = n + (k + 1) by omega]
theorem gSl_len (i : Nat → Int32) (j : Nat → Int64) : ∀ (l : List (Nat ⊕ Option Nat)) (n : Nat), (gSl i j n l).length = l.length
  | [], n => rfl
  | q :: r, n => by simp [gSl, gSl_len i j r (n + 1)]
theorem gSl_setI (i : Nat → Int32) (j : Nat → Int64) (l : List (Nat ⊕ Option Nat)) (k : Nat) (x : Int32) (h : l[k]? = some (.inl 0)) : (gSl i j 0 l).set k (.int x) = gSl (fun a => if a = k then x else i a) j 0 l := by
  apply List.ext_getElem?
  intro n
  rw [List.getElem?_set, gSl_get, gSl_get, gSl_len]
  by_cases e : k = n
  · subst e
    obtain ⟨hl, hv⟩ := List.getElem?_eq_some_iff.mp h
    simp [hl, hv, gSv]
  · simp only [e, if_false]
    cases hq : l[n]? with
    | none => rfl
    | some q =>
      rcases q with a | o
      · cases a <;> simp [gSv, Ne.symm e]
      · simp [gSv]
theorem gSl_setL (i : Nat → Int32) (j : Nat → Int64) (l : List (Nat ⊕ Option Nat)) (k : Nat) (x : Int64) (h : l[k]? = some (.inl 1)) : (gSl i j 0 l).set k (.long x) = gSl i (fun a => if a = k then x else j a) 0 l := by
  apply List.ext_getElem?
  intro n
  rw [List.getElem?_set, gSl_get, gSl_get, gSl_len]
  by_cases e : k = n
  · subst e
    obtain ⟨hl, hv⟩ := List.getElem?_eq_some_iff.mp h
    simp [hl, hv, gSv]
  · simp only [e, if_false]
    cases hq : l[n]? with
    | none => rfl
    | some q =>
      rcases q with a | o
      · cases a <;> simp [gSv, Ne.symm e]
      · simp [gSv]
theorem gSl_setR (i : Nat → Int32) (j : Nat → Int64) (l : List (Nat ⊕ Option Nat)) (k : Nat) (o : Option Nat) : (gSl i j 0 l).set k (va_rf o) = gSl i j 0 (l.set k (.inr o)) := by
  apply List.ext_getElem?
  intro n
  rw [List.getElem?_set, gSl_get, gSl_get, gSl_len, List.getElem?_set]
  by_cases e : k = n
  · subst e
    by_cases hl : k < l.length
    · simp [hl, gSv]
    · simp [hl]
  · simp only [e, if_false]
theorem gW_at {cy : Nat → ClassId} {V : gV} {I : gI} {J : gL} {k : Nat} (h : k ∈ V.1) : ∃ q0 : Nat, V.1[q0]? = some k ∧ (gW cy V I J)[q0]? = some (V.2.1 k, gE cy I J k (V.2.2 k)) := by
  obtain ⟨q0, hq⟩ := List.getElem?_of_mem h
  exact ⟨q0, hq, by simp [gW, hq]⟩
/-- addresses are all that va_D speaks of -/
theorem gW_D {cy : Nat → ClassId} {ks : List Nat} {ad : Nat → Nat} {de de' : Nat → gD} {I I' : gI} {J J' : gL} {A : Nat → Prop} (h : va_D A (gW cy (ks, ad, de) I J)) : va_D A (gW cy (ks, ad, de') I' J') := by
  have key : ∀ (n : Nat) (p : Nat × va_E), (gW cy (ks, ad, de') I' J')[n]? = some p → ∃ q, (gW cy (ks, ad, de) I J)[n]? = some q ∧ q.1 = p.1 := by
    intro n p hp
    simp only [gW, List.getElem?_map] at hp ⊢
    cases hk : ks[n]? with
    | none => rw [hk] at hp; cases hp
    | some k => rw [hk] at hp; cases hp; exact ⟨_, rfl, rfl⟩
  refine ⟨fun i j p q hi hj e => ?_, fun n p hp => ?_⟩
  · obtain ⟨p', h1, e1⟩ := key i p hi
    obtain ⟨q', h2, e2⟩ := key j q hj
    exact h.1 i j p' q' h1 h2 (by rw [e1, e2, e])
  · obtain ⟨p', h1, e1⟩ := key n p hp
    rw [← e1]; exact h.2 n p' h1
theorem gW_inj {cy : Nat → ClassId} {V : gV} {I : gI} {J : gL} {A : Nat → Prop} (h : va_D A (gW cy V I J)) {a b : Nat} (ha : a ∈ V.1) (hb : b ∈ V.1) (e : V.2.1 a = V.2.1 b) : a = b := by
  obtain ⟨i, h1, h2⟩ := gW_at (cy := cy) (I := I) (J := J) ha
  obtain ⟨j, h3, h4⟩ := gW_at (cy := cy) (I := I) (J := J) hb
  have := h.1 i j _ _ h2 h4 e
  subst this
  rw [h1] at h3
  exact Option.some.inj h3
/-- one cell written -/
theorem gW_set {cy : Nat → ClassId} {ks : List Nat} {ad : Nat → Nat} {de de' : Nat → gD} {I I' : gI} {J J' : gL} {A : Nat → Prop} {q0 k : Nat} {x : va_E} (hD : va_D A (gW cy (ks, ad, de) I J)) (hk : ks[q0]? = some k) (hx : gE cy I' J' k (de' k) = x) (ho : ∀ k', k' ≠ k → gE cy I' J' k' (de' k') = gE cy I J k' (de k')) : (gW cy (ks, ad, de) I J).set q0 (ad k, x) = gW cy (ks, ad, de') I' J' := by
  apply List.ext_getElem?
  intro n
  rw [List.getElem?_set]
  by_cases e : q0 = n
  · subst e
    obtain ⟨hl, hv⟩ := List.getElem?_eq_some_iff.mp hk
    simp [gW, hl, hv, hx]
  · simp only [e, if_false, gW, List.getElem?_map]
    cases hn : ks[n]? with
    | none => rfl
    | some k' =>
      have hne : k' ≠ k := by
        intro e2
        subst e2
        have := hD.1 q0 n (ad k', gE cy I J k' (de k')) (ad k', gE cy I J k' (de k')) (by simp [gW, hk]) (by simp [gW, hn]) rfl
        exact e this
      simp [ho k' hne]
theorem gE_I {cy : Nat → ClassId} {I I' : gI} {J J' : gL} {k : Nat} {d : gD} (h : I' k = I k) (h2 : J' k = J k) : gE cy I' J' k d = gE cy I J k d := by unfold gE; rw [h, h2]
/-! what the tables say, that goes along -/
abbrev gT (cy : Nat → ClassId) : List (ClassId × FieldType) := [(cy 0, .int), (cy 1, .long), (cy 2, .byte), (cy 3, .boolean), (cy 4, .array .int), (cy 5, .object "TileRules$Tally")]
/-- the tables know the class of arrays of arrays of t -/
def gAOA (t : FieldType) (U : State) : Prop := (Cond.arrayOver (.array t)).before #[] U = true
def gArrIs (comp : ClassId) (x : Class) : Bool := match x.kind with
  | .array component _ => component == comp
  | _ => false
theorem g_idx_bare (vm : Vm) (comp : ClassId) : vm.bare.classes.findIdx? (gArrIs comp) = vm.classes.findIdx? (gArrIs comp) := by
  simp only [Vm.bare, Array.findIdx?_map]
  rfl
theorem gAOA_spec {t : FieldType} {U : State} (h : gAOA t U) : ∃ comp c k, U.vm.findClass (FieldType.array t).toString = some comp ∧ U.vm.classes.findIdx? (gArrIs comp) = some c ∧ U.vm.classes[c]? = some k ∧ k.kind = .array comp (.array t) ∧ U.vm.findClass ("[" ++ (FieldType.array t).toString) = some c := by
  unfold gAOA Cond.before at h
  simp only [Cond.holds, Cond.value, beq_iff_eq] at h
  cases hc : U.vm.findClass (FieldType.array t).toString with
  | none => simp [hc] at h
  | some comp =>
    simp only [hc, Option.bind_some, Option.bind_eq_some_iff, Option.map_eq_some_iff] at h
    obtain ⟨c, hi, k, hk, hb⟩ := h
    obtain ⟨hlt, hp, -⟩ := Array.findIdx?_eq_some_iff_getElem.mp hi
    have hkk : U.vm.classes[c] = k := (Array.getElem?_eq_some_iff.mp hk).2
    rw [hkk] at hp
    cases hkind : k.kind with
    | array component ty =>
      rw [hkind] at hb hp
      simp at hb hp
      exact ⟨comp, c, k, rfl, hi, hk, by rw [hkind, hp, hb.1], hb.2⟩
    | _ => rw [hkind] at hb; simp at hb
theorem gAOA_moved {t : FieldType} {u U : State} (hvm : u.vm.Alike U.vm) (h : gAOA t u) : gAOA t U := by
  obtain ⟨comp, c, k, h1, h2, h3, h4, h5⟩ := gAOA_spec h
  obtain ⟨k', hk', he⟩ := hvm.2.2 _ _ h3
  have hi : U.vm.classes.findIdx? (gArrIs comp) = some c := by
    rw [← g_idx_bare]
    first | rw [hvm.bare_eq] | rw [← hvm.bare_eq]
    rw [g_idx_bare]
    exact h2
  have hkind : k'.kind = .array comp (.array t) := by rw [he]; exact h4
  have f1 : U.vm.findClass (FieldType.array t).toString = some comp := by rw [hvm.findClass]; exact h1
  have f2 : U.vm.findClass ("[" ++ (FieldType.array t).toString) = some c := by rw [hvm.findClass]; exact h5
  unfold gAOA Cond.before Cond.holds
  simp only [Cond.value]
  rw [f1, Option.bind_some]
  refine (congrArg (fun o : Option Nat => (o.bind (fun c => (U.vm.classes[c]?).map fun (k : Class) => match k.kind with | .array _ ty => decide (ty = FieldType.array t) && decide (U.vm.findClass ("[" ++ (FieldType.array t).toString) = some c) | _ => false) == some true)) hi).trans ?_
  simp [hk', hkind, f2]
def gNw (U : State) : Prop := va_Nw (.methodLinkNest RX9 23 yX8_init RX9) U ∧ va_Nw (.methodLinkNest RX9 30 yX4_init RX9) U ∧ va_Nw (.methodLinkNest RX9 37 yX0_init RX9) U ∧ va_Nw (.methodLinkNest RX9 44 yX1_init RX9) U ∧ va_Nw (.methodLinkNest RX5 74 yX9_power RX9) U ∧ va_Nw (.methodLinkNest RX0 47 yX9_power RX9) U ∧ va_AO "TileRules$Tally" U ∧ gAOA .int U
def gK (D : va_G) (cy : Nat → ClassId) (U : State) : Prop := va_K D vwCl (gT cy) U ∧ gNw U
theorem gNw_warm {s U : State} (hW : s.WarmedH U.vm) (h : gNw s) : gNw U := ⟨va_Nw.warmM hW h.1, va_Nw.warmM hW h.2.1, va_Nw.warmM hW h.2.2.1, va_Nw.warmM hW h.2.2.2.1, va_Nw.warmM hW h.2.2.2.2.1, va_Nw.warmM hW h.2.2.2.2.2.1, va_AO.moved hW.alike h.2.2.2.2.2.2.1, gAOA_moved hW.alike h.2.2.2.2.2.2.2⟩
theorem gNw_same {s U : State} (hW : s.vm = U.vm) (h : gNw s) : gNw U := ⟨va_Nw.same rfl hW h.1, va_Nw.same rfl hW h.2.1, va_Nw.same rfl hW h.2.2.1, va_Nw.same rfl hW h.2.2.2.1, va_Nw.same rfl hW h.2.2.2.2.1, va_Nw.same rfl hW h.2.2.2.2.2.1, va_AO.moved (hW ▸ Vm.Alike.refl _) h.2.2.2.2.2.2.1, gAOA_moved (hW ▸ Vm.Alike.refl _) h.2.2.2.2.2.2.2⟩
theorem gK_warm {D : va_G} {cy : Nat → ClassId} {s U : State} (hW : s.WarmedH U.vm) (h : gK D cy s) : gK D cy U := ⟨va_K.moved hW.alike h.1, gNw_warm hW h.2⟩
theorem gWd_good {a b : Cond} (hb : b ∈ gWd) : GoodIn (a :: gWd) (b :: gWd) := by
  intro w hw
  have h1 : w ∈ gWd := by
    rcases List.mem_cons.mp hw with h | h
    · rw [h]; exact hb
    · exact h
  exact ⟨List.mem_cons_of_mem _ h1, good_of_word (List.mem_filter.mp h1).2⟩
theorem gWd_good0 {b : Cond} (hb : b ∈ gWd) : GoodIn lw_tbl (b :: gWd) := by
  intro w hw
  have h1 : w ∈ gWd := by
    rcases List.mem_cons.mp hw with h | h
    · rw [h]; exact hb
    · exact h
  exact ⟨(List.mem_filter.mp h1).1, good_of_word (List.mem_filter.mp h1).2⟩
