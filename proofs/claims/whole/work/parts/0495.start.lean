/-! from the law's entry: what the tables give -/
def gV0 : gV := ([], fun _ => 0, fun _ => .inl (0, []))
def gI0 : gI := fun _ _ => 0
def gL0 : gL := fun _ _ => 0
/-- THE PURE CLAIM: what is left when the machine is walked -/
def PureLaw : Prop := ∀ (L : Nat) (xs : Nat → Int32) (b : Nat), L ≤ 3072 → wA_L_law L xs () b gV0 gI0 gL0
set_option maxRecDepth 100000 in
set_option maxHeartbeats 4000000 in
theorem whole_start_open (hpure : PureLaw) {p : Program} {e : Env} {s : State} {m : MethodId} {below : List Frame} {meth : Method} {c : Code} (l : Launch) {b L : Nat} {xs : Nat → Int32} (hL : L ≤ 3072) (C0 : lw_At p s m meth c b L xs) : W p l e room_1 s m #[Value.ref b] below meth c s.heap [] 0 0 (lw_Z below #[Value.ref b] s) (entryFrame m ([Value.ref b] : List Value).toArray 4) := by
  obtain ⟨hx, hb, hr, hml, hown, hts, hX, hbl, hlocks, hgv⟩ := id C0
  have htg : ∀ w ∈ gWd, w.before #[Value.ref b] s = true := fun w hw => hts w (List.mem_filter.mp hw).1
  have kn : ∀ {C : String} {T : u_T} {N : Nat}, (∀ w ∈ u_ws C T N, w ∈ gWd) → Cond.instantiable C N ∈ gWd → ∃ (cC : ClassId) (iS : Nat → Nat), u_Kn s C T N cC iS := fun h1 h2 => u_known htg h1 (htg _ h2)
  obtain ⟨c0, i0, k0⟩ := kn inw_X0 wd_179
  obtain ⟨c1, i1, k1⟩ := kn inw_X1 wd_213
  obtain ⟨c2, i2, k2⟩ := kn inw_X2 wd_610
  obtain ⟨c3, i3, k3⟩ := kn inw_X3 wd_774
  obtain ⟨c4, i4, k4⟩ := kn inw_X4 wd_123
  obtain ⟨c5, i5, k5⟩ := kn inw_X5 wd_310
  obtain ⟨c6, i6, k6⟩ := kn inw_X6 wd_321
  obtain ⟨c7, i7, k7⟩ := kn inw_X7 wd_335
  obtain ⟨c8, i8, k8⟩ := kn inw_X8 wd_94
  obtain ⟨c9, i9, k9⟩ := kn inw_X9 wd_86
  obtain ⟨c10, i10, k10⟩ := kn inw_X10 wd_959
  obtain ⟨dC, dI, hKc⟩ : ∃ (dC : Nat → ClassId) (dI : Nat → Nat → Nat), ∀ (k : Nat) (q : vw_C), vwCl[k]? = some q → u_Kn s q.1 q.2.1 q.2.2 (dC k) (dI k) := by
    refine ⟨fun k => match k with | 0 => c0 | 1 => c1 | 2 => c2 | 3 => c3 | 4 => c4 | 5 => c5 | 6 => c6 | 7 => c7 | 8 => c8 | 9 => c9 | _ => c10, fun k => match k with | 0 => i0 | 1 => i1 | 2 => i2 | 3 => i3 | 4 => i4 | 5 => i5 | 6 => i6 | 7 => i7 | 8 => i8 | 9 => i9 | _ => i10, ?_⟩
    intro k q hq
    match k, hq with
    | 0, hq => cases hq; exact k0
    | 1, hq => cases hq; exact k1
    | 2, hq => cases hq; exact k2
    | 3, hq => cases hq; exact k3
    | 4, hq => cases hq; exact k4
    | 5, hq => cases hq; exact k5
    | 6, hq => cases hq; exact k6
    | 7, hq => cases hq; exact k7
    | 8, hq => cases hq; exact k8
    | 9, hq => cases hq; exact k9
    | 10, hq => cases hq; exact k10
    | k + 11, hq => simp [vwCl] at hq
  have hAO : va_AO "TileRules$Tally" s := va_AO.of (hts (.arrayOver (.object "TileRules$Tally")) (by decide +kernel))
  have hAOA : gAOA .int s := (hts (.arrayOver (.array .int)) (by decide +kernel) :)
  have ac : ∀ {t : FieldType}, Cond.arrayClass t ∈ gWd → (∀ C, t ≠ .object C) → ∃ cA : ClassId, ArrOfT s cA t ∧ va_RA s cA t := fun {t} h ho => by
    obtain ⟨cA, k, comp, h1, h2, h3⟩ := Cond.arrayClass_spec (htg _ h)
    refine ⟨cA, fun N z => ⟨(fun q hq => by cases hq), k, h2, comp, h3⟩, ?_⟩
    cases t <;> first | exact h1 | exact absurd rfl (ho _)
  obtain ⟨y0, hy0⟩ := ac wd_121 (fun C h => by cases h)
  obtain ⟨y1, hy1⟩ := ac wd_211 (fun C h => by cases h)
  obtain ⟨y2, hy2⟩ := ac wd_1103 (fun C h => by cases h)
  obtain ⟨y3, hy3⟩ := ac wd_1102 (fun C h => by cases h)
  obtain ⟨y4, hy4⟩ : ∃ cA : ClassId, ArrOfT s cA (.array .int) ∧ va_RA s cA (.array .int) := by
    obtain ⟨comp, cA, k, h1, h2, h3, h4, h5⟩ := gAOA_spec hAOA
    exact ⟨cA, fun N z => ⟨(fun q hq => by cases hq), k, h3, comp, h4⟩, h5⟩
  obtain ⟨y5, hy5⟩ : ∃ cA : ClassId, ArrOfT s cA (.object "TileRules$Tally") ∧ va_RA s cA (.object "TileRules$Tally") := by
    obtain ⟨comp, cA, k, h1, h2, h3, h4, h5⟩ := Cond.arrayOver_spec hAO
    exact ⟨cA, fun N z => ⟨(fun q hq => by cases hq), k, h3, comp, h4⟩, ⟨k, comp, h3, h4, h1, h5⟩⟩
  obtain ⟨cy, hT⟩ : ∃ cy : Nat → ClassId, ∀ (k : Nat) (q : ClassId × FieldType), (gT cy)[k]? = some q → ArrOfT s q.1 q.2 ∧ va_RA s q.1 q.2 := by
    refine ⟨fun k => match k with | 0 => y0 | 1 => y1 | 2 => y2 | 3 => y3 | 4 => y4 | _ => y5, ?_⟩
    intro k q hq
    match k, hq with
    | 0, hq => cases hq; exact hy0
    | 1, hq => cases hq; exact hy1
    | 2, hq => cases hq; exact hy2
    | 3, hq => cases hq; exact hy3
    | 4, hq => cases hq; exact hy4
    | 5, hq => cases hq; exact hy5
    | k + 6, hq => simp at hq
  have hK : gK (dC, dI) cy s := ⟨⟨hKc, hT⟩, va_Nw.of rfl (hts (.methodLinkNest RX9 23 yX8_init RX9) (by decide +kernel)), va_Nw.of rfl (hts (.methodLinkNest RX9 30 yX4_init RX9) (by decide +kernel)), va_Nw.of rfl (hts (.methodLinkNest RX9 37 yX0_init RX9) (by decide +kernel)), va_Nw.of rfl (hts (.methodLinkNest RX9 44 yX1_init RX9) (by decide +kernel)), va_Nw.of rfl (hts (.methodLinkNest RX5 74 yX9_power RX9) (by decide +kernel)), va_Nw.of rfl (hts (.methodLinkNest RX0 47 yX9_power RX9) (by decide +kernel)), hAO, hAOA⟩
  rw [lg_entry_eq]
  have hl := lv_entry ([.ref b]) (n := 4) (Nat.le_of_ble_eq_true rfl)
  exact n_L_law (X := ((p, l, e, room_1, s, m), (#[Value.ref b], below, meth, c), ((dC, dI), cy, (fun q : Nat => s.heap.size ≤ q), lw_Z below #[Value.ref b] s, 4))) (l := l) (D := (dC, dI)) (cy := cy) (b := b) (L := L) (xs := xs) ⟨hx, hb, hml, hown, htg, hr, hlocks, hK, fun _ h => h, rfl, rfl⟩ ⟨rfl, rfl, rfl, rfl⟩ ⟨rfl, hX, hbl, rfl, rfl, rfl⟩ (hpure L xs b hL) s.heap [] _ (fun k q h => by simp [gW, gV0] at h) ⟨fun i j p q h => by simp [gW, gV0] at h, fun k q h => by simp [gW, gV0] at h⟩ va_S.rf hl
