/-! TileRulesModel(): step by step, the world a variable with what is known of it -/
def mSlot : Nat → Option Nat
  | 1 => some 0
  | 2 => some 1
  | 3 => some 2
  | 4 => some 3
  | 6 => some 4
  | 7 => some 5
  | 8 => some 6
  | 9 => some 7
  | 10 => some 8
  | 12 => some 9
  | 18 => some 10
  | 19 => some 11
  | 20 => some 12
  | 21 => some 13
  | 22 => some 14
  | 23 => some 15
  | 24 => some 16
  | 25 => some 17
  | 26 => some 18
  | 27 => some 19
  | 28 => some 20
  | 33 => some 21
  | 34 => some 22
  | 35 => some 23
  | 36 => some 24
  | 37 => some 25
  | 38 => some 26
  | 39 => some 27
  | 42 => some 28
  | 43 => some 29
  | _ => none
def mTc : Nat → Nat
  | 0 => 0
  | 1 => 0
  | 2 => 0
  | 3 => 0
  | 4 => 0
  | 5 => 1
  | 6 => 3
  | 7 => 1
  | 8 => 1
  | 9 => 0
  | 10 => 0
  | 11 => 0
  | 12 => 0
  | 13 => 0
  | 14 => 0
  | 15 => 1
  | 16 => 2
  | 17 => 3
  | 18 => 0
  | 19 => 0
  | 20 => 0
  | 21 => 0
  | 22 => 1
  | 23 => 1
  | 24 => 0
  | 25 => 0
  | 26 => 0
  | 27 => 3
  | 28 => 0
  | 29 => 0
  | _ => 0
def mLen : Nat → Nat
  | 0 => 32
  | 1 => 4096
  | 2 => 4096
  | 3 => 4096
  | 4 => 4
  | 5 => 50000
  | 6 => 10000
  | 7 => 10000
  | 8 => 10000
  | 9 => 6
  | 10 => 1200
  | 11 => 7
  | 12 => 1200
  | 13 => 1200
  | 14 => 22
  | 15 => 1048576
  | 16 => 1048576
  | 17 => 1048576
  | 18 => 8
  | 19 => 8
  | 20 => 8
  | 21 => 54
  | 22 => 6
  | 23 => 6
  | 24 => 78
  | 25 => 6
  | 26 => 6
  | 27 => 1296
  | 28 => 6
  | 29 => 20
  | _ => 0
def mSl (qf : Nat → Nat) (m : Nat) : List (Nat ⊕ Option Nat) := (List.range 45).map (fun t => match mSlot t with
  | some i => if i < m then .inr (some (qf i)) else .inr none
  | none => if t = 29 then .inl 1 else .inl 0)
def mIn (V : gV) (I : gI) (J : gL) (b0 m : Nat) (qf : Nat → Nat) (Vk : gV) (Ik : gI) (Jk : gL) : Prop :=
  Vk.1 = V.1 ++ (List.range m).map (fun i => 201 + i) ∧ Vk.2.1 200 = b0 ∧ Vk.2.2 200 = .inl (10, mSl qf m) ∧ (∀ i, i < m → Vk.2.1 (201 + i) = qf i ∧ Vk.2.2 (201 + i) = .inr (mTc i, mLen i, gno)) ∧ (∀ k, k ≠ 200 → (k < 201 ∨ 201 + m ≤ k) → Vk.2.1 k = V.2.1 k ∧ Vk.2.2 k = V.2.2 k) ∧ (∀ k, (k < 201 ∨ 201 + m ≤ k) → Ik k = I k ∧ Jk k = J k) ∧ ∀ i, i < m → (mTc i ≠ 1 → Ik (201 + i) = fun _ => 0) ∧ (mTc i = 1 → Jk (201 + i) = fun _ => 0)
theorem mSl_set {qf : Nat → Nat} {m t q : Nat} (ht : mSlot t = some m) (htl : t < 45) (hinj : ∀ u, u < 45 → mSlot u = some m → u = t) : (mSl qf m).set t (.inr (some q)) = mSl (va_up qf m q) (m + 1) := by
  apply List.ext_getElem?
  intro u
  rw [List.getElem?_set]
  unfold mSl
  rw [List.length_map, List.length_range, List.getElem?_map, List.getElem?_map]
  by_cases e : t = u
  · subst e
    rw [if_pos rfl, if_pos htl, List.getElem?_range htl]
    simp [ht, va_up]
  · rw [if_neg e]
    by_cases hu : u < 45
    · rw [List.getElem?_range hu]
      simp only [Option.map_some]
      cases hs : mSlot u with
      | none => rfl
      | some i =>
        have hne : i ≠ m := fun h => e (hinj u hu (by rw [hs, h])).symm
        by_cases h1 : i < m
        · simp [h1, va_up, hne, Nat.lt_succ_of_lt h1]
        · simp [h1, show ¬ i < m + 1 by omega]
    · rw [List.getElem?_eq_none (by simp; omega)]
      rfl
theorem mIn_mem {V Vk : gV} {I Ik : gI} {J Jk : gL} {b0 m : Nat} {qf : Nat → Nat} (h : mIn V I J b0 m qf Vk Ik Jk) (h0 : 200 ∈ V.1) : 200 ∈ Vk.1 := by rw [h.1]; exact List.mem_append_left _ h0
theorem mIn_new {V Vk : gV} {I Ik : gI} {J Jk : gL} {b0 m : Nat} {qf : Nat → Nat} (h : mIn V I J b0 m qf Vk Ik Jk) (hf : ∀ k, 201 ≤ k → k ∉ V.1) : 201 + m ∉ Vk.1 := by
  rw [h.1, List.mem_append, not_or]
  refine ⟨hf _ (by omega), fun w => ?_⟩
  obtain ⟨i, hi, e⟩ := List.mem_map.mp w
  have := List.mem_range.mp hi
  omega
theorem mIn_step {V Vk : gV} {I Ik Ik' : gI} {J Jk Jk' : gL} {b0 m q t : Nat} {qf : Nat → Nat} (h : mIn V I J b0 m qf Vk Ik Jk) (ht : mSlot t = some m) (htl : t < 45) (hinj : ∀ u, u < 45 → mSlot u = some m → u = t) (hI : (mTc m ≠ 1 ∧ Ik' = guc Ik (201 + m) (fun _ => 0) ∧ Jk' = Jk) ∨ (mTc m = 1 ∧ Ik' = Ik ∧ Jk' = guc Jk (201 + m) (fun _ => 0))) : mIn V I J b0 (m + 1) (va_up qf m q) (gde (gadd Vk (201 + m) q (.inr (mTc m, mLen m, gno))) 200 (.inl (10, (mSl qf m).set t (.inr (some q))))) Ik' Jk' := by
  obtain ⟨h1, h2, h3, h4, h5, h6, h7⟩ := h
  refine ⟨?_, ?_, ?_, fun i hi => ?_, fun k hk hk2 => ?_, fun k hk => ?_, fun i hi => ?_⟩
  · show Vk.1 ++ [201 + m] = _
    rw [h1, List.range_succ, List.map_append, List.append_assoc]
    rfl
  · show va_up Vk.2.1 (201 + m) q 200 = b0
    rw [← h2]
    simp [va_up]; omega
  · have e9 : (gde (gadd Vk (201 + m) q (.inr (mTc m, mLen m, gno))) 200 (.inl (10, (mSl qf m).set t (.inr (some q))))).2.2 200 = .inl (10, (mSl qf m).set t (.inr (some q))) := by simp [gde, va_up]
    rw [e9, mSl_set ht htl hinj]
  · show va_up Vk.2.1 (201 + m) q (201 + i) = _ ∧ va_up (va_up Vk.2.2 (201 + m) _) 200 _ (201 + i) = _
    by_cases e : i = m
    · subst e; simp [va_up]; omega
    · have := h4 i (by omega)
      refine ⟨?_, ?_⟩
      · simp [va_up, e]; exact this.1
      · have e200 : ¬ 201 + i = 200 := by omega
        simp [va_up, e, e200]; exact this.2
  · show va_up Vk.2.1 (201 + m) q k = _ ∧ va_up (va_up Vk.2.2 (201 + m) _) 200 _ k = _
    have e1 : ¬ k = 201 + m := by omega
    have := h5 k hk (by omega)
    simp only [va_up, e1, hk, if_false]
    exact this
  · have e1 : k ≠ 201 + m := by omega
    have := h6 k (by omega)
    rcases hI with ⟨-, rfl, rfl⟩ | ⟨-, rfl, rfl⟩
    · rw [guc_o e1]; exact this
    · rw [guc_o e1]; exact this
  · by_cases e : i = m
    · subst e
      rcases hI with ⟨hc, rfl, rfl⟩ | ⟨hc, rfl, rfl⟩
      · exact ⟨fun _ => guc_s, fun w => absurd w hc⟩
      · exact ⟨fun w => absurd hc w, fun _ => guc_s⟩
    · have hne : 201 + i ≠ 201 + m := by omega
      have := h7 i (by omega)
      rcases hI with ⟨-, rfl, rfl⟩ | ⟨-, rfl, rfl⟩
      · rw [guc_o hne]; exact this
      · rw [guc_o hne]; exact this
set_option maxRecDepth 100000 in
set_option maxHeartbeats 4000000 in
theorem s_X10_init {mc ms b0 : Nat} {V : gV} {I : gI} {J : gL} {Po : gV → gI → gL → Prop} (hc : 30 ≤ mc) (hs : 3243189 ≤ ms) (h0 : 200 ∈ V.1) (ha : V.2.1 200 = b0) (hd : V.2.2 200 = .inl (10, [.inl 0, .inr none, .inr none, .inr none, .inr none, .inl 0, .inr none, .inr none, .inr none, .inr none, .inr none, .inl 0, .inr none, .inl 0, .inl 0, .inl 0, .inl 0, .inl 0, .inr none, .inr none, .inr none, .inr none, .inr none, .inr none, .inr none, .inr none, .inr none, .inr none, .inr none, .inl 1, .inl 0, .inl 0, .inl 0, .inr none, .inr none, .inr none, .inr none, .inr none, .inr none, .inr none, .inl 0, .inl 0, .inr none, .inr none, .inl 0])) (hf : ∀ k, 201 ≤ k → k ∉ V.1)
    (hPo : ∀ (V' : gV) (I' : gI) (J' : gL) (qf : Nat → Nat), mIn V I J b0 30 qf V' (fun k => if k = 200 then I 200 else I' k) J' → I' 200 13 = 1 → I' 200 14 = 1 → I' 200 16 = 1 → I' 200 17 = 1 → I' 200 31 = 1 → I' 200 32 = 2 → I' 200 40 = 1 → (∀ j, j ∉ [13, 14, 16, 17, 31, 32, 40] → I' 200 j = I 200 j) → Po V' I' J') : wA_X10_init mc ms b0 V I J Po := by
  have M0 : mIn V I J b0 0 (fun _ => 0) V I J := ⟨by simp, ha, hd, fun i hi => absurd hi (by omega), fun k _ _ => ⟨rfl, rfl⟩, fun k _ => ⟨rfl, rfl⟩, fun i hi => absurd hi (by omega)⟩
  unfold wA_X10_init
  refine ⟨32, mIn_new M0 hf, by decide, by decide, by decide, by omega, by omega, ?_⟩
  intro q0 A0 eA0 B0 eB0
  refine ⟨mSl _ 0, by rw [eA0]; exact List.mem_append_left _ (mIn_mem M0 h0), by rw [eA0, gadd_o1 (by decide)]; exact M0.2.1, by rw [eA0, gadd_o2 (by decide)]; exact M0.2.2.1, by simp [mSl], ?_⟩
  intro C0 eC0
  have M1 := mIn_step (q := q0) (t := 1) (Ik' := B0) (Jk' := _) M0 rfl (by decide) (by decide) (Or.inl ⟨by decide, eB0, rfl⟩)
  rw [show gadd _ (201 + 0) q0 (.inr (mTc 0, mLen 0, gno)) = A0 from eA0.symm, ← eC0] at M1
  clear M0 eA0 eB0 eC0
  refine ⟨4096, mIn_new M1 hf, by decide, by decide, by decide, by omega, by omega, ?_⟩
  intro q1 A1 eA1 B1 eB1
  refine ⟨mSl _ 1, by rw [eA1]; exact List.mem_append_left _ (mIn_mem M1 h0), by rw [eA1, gadd_o1 (by decide)]; exact M1.2.1, by rw [eA1, gadd_o2 (by decide)]; exact M1.2.2.1, by simp [mSl], ?_⟩
  intro C1 eC1
  have M2 := mIn_step (q := q1) (t := 2) (Ik' := B1) (Jk' := _) M1 rfl (by decide) (by decide) (Or.inl ⟨by decide, eB1, rfl⟩)
  rw [show gadd _ (201 + 1) q1 (.inr (mTc 1, mLen 1, gno)) = A1 from eA1.symm, ← eC1] at M2
  clear M1 eA1 eB1 eC1
  refine ⟨4096, mIn_new M2 hf, by decide, by decide, by decide, by omega, by omega, ?_⟩
  intro q2 A2 eA2 B2 eB2
  refine ⟨mSl _ 2, by rw [eA2]; exact List.mem_append_left _ (mIn_mem M2 h0), by rw [eA2, gadd_o1 (by decide)]; exact M2.2.1, by rw [eA2, gadd_o2 (by decide)]; exact M2.2.2.1, by simp [mSl], ?_⟩
  intro C2 eC2
  have M3 := mIn_step (q := q2) (t := 3) (Ik' := B2) (Jk' := _) M2 rfl (by decide) (by decide) (Or.inl ⟨by decide, eB2, rfl⟩)
  rw [show gadd _ (201 + 2) q2 (.inr (mTc 2, mLen 2, gno)) = A2 from eA2.symm, ← eC2] at M3
  clear M2 eA2 eB2 eC2
  refine ⟨4096, mIn_new M3 hf, by decide, by decide, by decide, by omega, by omega, ?_⟩
  intro q3 A3 eA3 B3 eB3
  refine ⟨mSl _ 3, by rw [eA3]; exact List.mem_append_left _ (mIn_mem M3 h0), by rw [eA3, gadd_o1 (by decide)]; exact M3.2.1, by rw [eA3, gadd_o2 (by decide)]; exact M3.2.2.1, by simp [mSl], ?_⟩
  intro C3 eC3
  have M4 := mIn_step (q := q3) (t := 4) (Ik' := B3) (Jk' := _) M3 rfl (by decide) (by decide) (Or.inl ⟨by decide, eB3, rfl⟩)
  rw [show gadd _ (201 + 3) q3 (.inr (mTc 3, mLen 3, gno)) = A3 from eA3.symm, ← eC3] at M4
  clear M3 eA3 eB3 eC3
  refine ⟨4, mIn_new M4 hf, by decide, by decide, by decide, by omega, by omega, ?_⟩
  intro q4 A4 eA4 B4 eB4
  refine ⟨mSl _ 4, by rw [eA4]; exact List.mem_append_left _ (mIn_mem M4 h0), by rw [eA4, gadd_o1 (by decide)]; exact M4.2.1, by rw [eA4, gadd_o2 (by decide)]; exact M4.2.2.1, by simp [mSl], ?_⟩
  intro C4 eC4
  have M5 := mIn_step (q := q4) (t := 6) (Ik' := B4) (Jk' := _) M4 rfl (by decide) (by decide) (Or.inl ⟨by decide, eB4, rfl⟩)
  rw [show gadd _ (201 + 4) q4 (.inr (mTc 4, mLen 4, gno)) = A4 from eA4.symm, ← eC4] at M5
  clear M4 eA4 eB4 eC4
  refine ⟨50000, mIn_new M5 hf, by decide, by decide, by decide, by omega, by omega, ?_⟩
  intro q5 A5 eA5 B5 eB5
  refine ⟨mSl _ 5, by rw [eA5]; exact List.mem_append_left _ (mIn_mem M5 h0), by rw [eA5, gadd_o1 (by decide)]; exact M5.2.1, by rw [eA5, gadd_o2 (by decide)]; exact M5.2.2.1, by simp [mSl], ?_⟩
  intro C5 eC5
  have M6 := mIn_step (q := q5) (t := 7) (Ik' := _) (Jk' := B5) M5 rfl (by decide) (by decide) (Or.inr ⟨rfl, rfl, eB5⟩)
  rw [show gadd _ (201 + 5) q5 (.inr (mTc 5, mLen 5, gno)) = A5 from eA5.symm, ← eC5] at M6
  clear M5 eA5 eB5 eC5
  refine ⟨10000, mIn_new M6 hf, by decide, by decide, by decide, by omega, by omega, ?_⟩
  intro q6 A6 eA6 B6 eB6
  refine ⟨mSl _ 6, by rw [eA6]; exact List.mem_append_left _ (mIn_mem M6 h0), by rw [eA6, gadd_o1 (by decide)]; exact M6.2.1, by rw [eA6, gadd_o2 (by decide)]; exact M6.2.2.1, by simp [mSl], ?_⟩
  intro C6 eC6
  have M7 := mIn_step (q := q6) (t := 8) (Ik' := B6) (Jk' := _) M6 rfl (by decide) (by decide) (Or.inl ⟨by decide, eB6, rfl⟩)
  rw [show gadd _ (201 + 6) q6 (.inr (mTc 6, mLen 6, gno)) = A6 from eA6.symm, ← eC6] at M7
  clear M6 eA6 eB6 eC6
  refine ⟨10000, mIn_new M7 hf, by decide, by decide, by decide, by omega, by omega, ?_⟩
  intro q7 A7 eA7 B7 eB7
  refine ⟨mSl _ 7, by rw [eA7]; exact List.mem_append_left _ (mIn_mem M7 h0), by rw [eA7, gadd_o1 (by decide)]; exact M7.2.1, by rw [eA7, gadd_o2 (by decide)]; exact M7.2.2.1, by simp [mSl], ?_⟩
  intro C7 eC7
  have M8 := mIn_step (q := q7) (t := 9) (Ik' := _) (Jk' := B7) M7 rfl (by decide) (by decide) (Or.inr ⟨rfl, rfl, eB7⟩)
  rw [show gadd _ (201 + 7) q7 (.inr (mTc 7, mLen 7, gno)) = A7 from eA7.symm, ← eC7] at M8
  clear M7 eA7 eB7 eC7
  refine ⟨10000, mIn_new M8 hf, by decide, by decide, by decide, by omega, by omega, ?_⟩
  intro q8 A8 eA8 B8 eB8
  refine ⟨mSl _ 8, by rw [eA8]; exact List.mem_append_left _ (mIn_mem M8 h0), by rw [eA8, gadd_o1 (by decide)]; exact M8.2.1, by rw [eA8, gadd_o2 (by decide)]; exact M8.2.2.1, by simp [mSl], ?_⟩
  intro C8 eC8
  have M9 := mIn_step (q := q8) (t := 10) (Ik' := _) (Jk' := B8) M8 rfl (by decide) (by decide) (Or.inr ⟨rfl, rfl, eB8⟩)
  rw [show gadd _ (201 + 8) q8 (.inr (mTc 8, mLen 8, gno)) = A8 from eA8.symm, ← eC8] at M9
  clear M8 eA8 eB8 eC8
  refine ⟨6, mIn_new M9 hf, by decide, by decide, by decide, by omega, by omega, ?_⟩
  intro q9 A9 eA9 B9 eB9
  refine ⟨mSl _ 9, by rw [eA9]; exact List.mem_append_left _ (mIn_mem M9 h0), by rw [eA9, gadd_o1 (by decide)]; exact M9.2.1, by rw [eA9, gadd_o2 (by decide)]; exact M9.2.2.1, by simp [mSl], ?_⟩
  intro C9 eC9
  have M10 := mIn_step (q := q9) (t := 12) (Ik' := B9) (Jk' := _) M9 rfl (by decide) (by decide) (Or.inl ⟨by decide, eB9, rfl⟩)
  rw [show gadd _ (201 + 9) q9 (.inr (mTc 9, mLen 9, gno)) = A9 from eA9.symm, ← eC9] at M10
  clear M9 eA9 eB9 eC9
  refine ⟨1200, mIn_new M10 hf, by decide, by decide, by decide, by omega, by omega, ?_⟩
  intro q10 A10 eA10 B10 eB10
  refine ⟨mSl _ 10, by rw [eA10]; exact List.mem_append_left _ (mIn_mem M10 h0), by rw [eA10, gadd_o1 (by decide)]; exact M10.2.1, by rw [eA10, gadd_o2 (by decide)]; exact M10.2.2.1, by simp [mSl], ?_⟩
  intro C10 eC10
  have M11 := mIn_step (q := q10) (t := 18) (Ik' := B10) (Jk' := _) M10 rfl (by decide) (by decide) (Or.inl ⟨by decide, eB10, rfl⟩)
  rw [show gadd _ (201 + 10) q10 (.inr (mTc 10, mLen 10, gno)) = A10 from eA10.symm, ← eC10] at M11
  clear M10 eA10 eB10 eC10
  refine ⟨7, mIn_new M11 hf, by decide, by decide, by decide, by omega, by omega, ?_⟩
  intro q11 A11 eA11 B11 eB11
  refine ⟨mSl _ 11, by rw [eA11]; exact List.mem_append_left _ (mIn_mem M11 h0), by rw [eA11, gadd_o1 (by decide)]; exact M11.2.1, by rw [eA11, gadd_o2 (by decide)]; exact M11.2.2.1, by simp [mSl], ?_⟩
  intro C11 eC11
  have M12 := mIn_step (q := q11) (t := 19) (Ik' := B11) (Jk' := _) M11 rfl (by decide) (by decide) (Or.inl ⟨by decide, eB11, rfl⟩)
  rw [show gadd _ (201 + 11) q11 (.inr (mTc 11, mLen 11, gno)) = A11 from eA11.symm, ← eC11] at M12
  clear M11 eA11 eB11 eC11
  refine ⟨1200, mIn_new M12 hf, by decide, by decide, by decide, by omega, by omega, ?_⟩
  intro q12 A12 eA12 B12 eB12
  refine ⟨mSl _ 12, by rw [eA12]; exact List.mem_append_left _ (mIn_mem M12 h0), by rw [eA12, gadd_o1 (by decide)]; exact M12.2.1, by rw [eA12, gadd_o2 (by decide)]; exact M12.2.2.1, by simp [mSl], ?_⟩
  intro C12 eC12
  have M13 := mIn_step (q := q12) (t := 20) (Ik' := B12) (Jk' := _) M12 rfl (by decide) (by decide) (Or.inl ⟨by decide, eB12, rfl⟩)
  rw [show gadd _ (201 + 12) q12 (.inr (mTc 12, mLen 12, gno)) = A12 from eA12.symm, ← eC12] at M13
  clear M12 eA12 eB12 eC12
  refine ⟨1200, mIn_new M13 hf, by decide, by decide, by decide, by omega, by omega, ?_⟩
  intro q13 A13 eA13 B13 eB13
  refine ⟨mSl _ 13, by rw [eA13]; exact List.mem_append_left _ (mIn_mem M13 h0), by rw [eA13, gadd_o1 (by decide)]; exact M13.2.1, by rw [eA13, gadd_o2 (by decide)]; exact M13.2.2.1, by simp [mSl], ?_⟩
  intro C13 eC13
  have M14 := mIn_step (q := q13) (t := 21) (Ik' := B13) (Jk' := _) M13 rfl (by decide) (by decide) (Or.inl ⟨by decide, eB13, rfl⟩)
  rw [show gadd _ (201 + 13) q13 (.inr (mTc 13, mLen 13, gno)) = A13 from eA13.symm, ← eC13] at M14
  clear M13 eA13 eB13 eC13
  refine ⟨22, mIn_new M14 hf, by decide, by decide, by decide, by omega, by omega, ?_⟩
  intro q14 A14 eA14 B14 eB14
  refine ⟨mSl _ 14, by rw [eA14]; exact List.mem_append_left _ (mIn_mem M14 h0), by rw [eA14, gadd_o1 (by decide)]; exact M14.2.1, by rw [eA14, gadd_o2 (by decide)]; exact M14.2.2.1, by simp [mSl], ?_⟩
  intro C14 eC14
  have M15 := mIn_step (q := q14) (t := 22) (Ik' := B14) (Jk' := _) M14 rfl (by decide) (by decide) (Or.inl ⟨by decide, eB14, rfl⟩)
  rw [show gadd _ (201 + 14) q14 (.inr (mTc 14, mLen 14, gno)) = A14 from eA14.symm, ← eC14] at M15
  clear M14 eA14 eB14 eC14
  refine ⟨1048576, mIn_new M15 hf, by decide, by decide, by decide, by omega, by omega, ?_⟩
  intro q15 A15 eA15 B15 eB15
  refine ⟨mSl _ 15, by rw [eA15]; exact List.mem_append_left _ (mIn_mem M15 h0), by rw [eA15, gadd_o1 (by decide)]; exact M15.2.1, by rw [eA15, gadd_o2 (by decide)]; exact M15.2.2.1, by simp [mSl], ?_⟩
  intro C15 eC15
  have M16 := mIn_step (q := q15) (t := 23) (Ik' := _) (Jk' := B15) M15 rfl (by decide) (by decide) (Or.inr ⟨rfl, rfl, eB15⟩)
  rw [show gadd _ (201 + 15) q15 (.inr (mTc 15, mLen 15, gno)) = A15 from eA15.symm, ← eC15] at M16
  clear M15 eA15 eB15 eC15
  refine ⟨1048576, mIn_new M16 hf, by decide, by decide, by decide, by omega, by omega, ?_⟩
  intro q16 A16 eA16 B16 eB16
  refine ⟨mSl _ 16, by rw [eA16]; exact List.mem_append_left _ (mIn_mem M16 h0), by rw [eA16, gadd_o1 (by decide)]; exact M16.2.1, by rw [eA16, gadd_o2 (by decide)]; exact M16.2.2.1, by simp [mSl], ?_⟩
  intro C16 eC16
  have M17 := mIn_step (q := q16) (t := 24) (Ik' := B16) (Jk' := _) M16 rfl (by decide) (by decide) (Or.inl ⟨by decide, eB16, rfl⟩)
  rw [show gadd _ (201 + 16) q16 (.inr (mTc 16, mLen 16, gno)) = A16 from eA16.symm, ← eC16] at M17
  clear M16 eA16 eB16 eC16
  refine ⟨1048576, mIn_new M17 hf, by decide, by decide, by decide, by omega, by omega, ?_⟩
  intro q17 A17 eA17 B17 eB17
  refine ⟨mSl _ 17, by rw [eA17]; exact List.mem_append_left _ (mIn_mem M17 h0), by rw [eA17, gadd_o1 (by decide)]; exact M17.2.1, by rw [eA17, gadd_o2 (by decide)]; exact M17.2.2.1, by simp [mSl], ?_⟩
  intro C17 eC17
  have M18 := mIn_step (q := q17) (t := 25) (Ik' := B17) (Jk' := _) M17 rfl (by decide) (by decide) (Or.inl ⟨by decide, eB17, rfl⟩)
  rw [show gadd _ (201 + 17) q17 (.inr (mTc 17, mLen 17, gno)) = A17 from eA17.symm, ← eC17] at M18
  clear M17 eA17 eB17 eC17
  refine ⟨8, mIn_new M18 hf, by decide, by decide, by decide, by omega, by omega, ?_⟩
  intro q18 A18 eA18 B18 eB18
  refine ⟨mSl _ 18, by rw [eA18]; exact List.mem_append_left _ (mIn_mem M18 h0), by rw [eA18, gadd_o1 (by decide)]; exact M18.2.1, by rw [eA18, gadd_o2 (by decide)]; exact M18.2.2.1, by simp [mSl], ?_⟩
  intro C18 eC18
  have M19 := mIn_step (q := q18) (t := 26) (Ik' := B18) (Jk' := _) M18 rfl (by decide) (by decide) (Or.inl ⟨by decide, eB18, rfl⟩)
  rw [show gadd _ (201 + 18) q18 (.inr (mTc 18, mLen 18, gno)) = A18 from eA18.symm, ← eC18] at M19
  clear M18 eA18 eB18 eC18
  refine ⟨8, mIn_new M19 hf, by decide, by decide, by decide, by omega, by omega, ?_⟩
  intro q19 A19 eA19 B19 eB19
  refine ⟨mSl _ 19, by rw [eA19]; exact List.mem_append_left _ (mIn_mem M19 h0), by rw [eA19, gadd_o1 (by decide)]; exact M19.2.1, by rw [eA19, gadd_o2 (by decide)]; exact M19.2.2.1, by simp [mSl], ?_⟩
  intro C19 eC19
  have M20 := mIn_step (q := q19) (t := 27) (Ik' := B19) (Jk' := _) M19 rfl (by decide) (by decide) (Or.inl ⟨by decide, eB19, rfl⟩)
  rw [show gadd _ (201 + 19) q19 (.inr (mTc 19, mLen 19, gno)) = A19 from eA19.symm, ← eC19] at M20
  clear M19 eA19 eB19 eC19
  refine ⟨8, mIn_new M20 hf, by decide, by decide, by decide, by omega, by omega, ?_⟩
  intro q20 A20 eA20 B20 eB20
  refine ⟨mSl _ 20, by rw [eA20]; exact List.mem_append_left _ (mIn_mem M20 h0), by rw [eA20, gadd_o1 (by decide)]; exact M20.2.1, by rw [eA20, gadd_o2 (by decide)]; exact M20.2.2.1, by simp [mSl], ?_⟩
  intro C20 eC20
  have M21 := mIn_step (q := q20) (t := 28) (Ik' := B20) (Jk' := _) M20 rfl (by decide) (by decide) (Or.inl ⟨by decide, eB20, rfl⟩)
  rw [show gadd _ (201 + 20) q20 (.inr (mTc 20, mLen 20, gno)) = A20 from eA20.symm, ← eC20] at M21
  clear M20 eA20 eB20 eC20
  refine ⟨54, mIn_new M21 hf, by decide, by decide, by decide, by omega, by omega, ?_⟩
  intro q21 A21 eA21 B21 eB21
  refine ⟨mSl _ 21, by rw [eA21]; exact List.mem_append_left _ (mIn_mem M21 h0), by rw [eA21, gadd_o1 (by decide)]; exact M21.2.1, by rw [eA21, gadd_o2 (by decide)]; exact M21.2.2.1, by simp [mSl], ?_⟩
  intro C21 eC21
  have M22 := mIn_step (q := q21) (t := 33) (Ik' := B21) (Jk' := _) M21 rfl (by decide) (by decide) (Or.inl ⟨by decide, eB21, rfl⟩)
  rw [show gadd _ (201 + 21) q21 (.inr (mTc 21, mLen 21, gno)) = A21 from eA21.symm, ← eC21] at M22
  clear M21 eA21 eB21 eC21
  refine ⟨6, mIn_new M22 hf, by decide, by decide, by decide, by omega, by omega, ?_⟩
  intro q22 A22 eA22 B22 eB22
  refine ⟨mSl _ 22, by rw [eA22]; exact List.mem_append_left _ (mIn_mem M22 h0), by rw [eA22, gadd_o1 (by decide)]; exact M22.2.1, by rw [eA22, gadd_o2 (by decide)]; exact M22.2.2.1, by simp [mSl], ?_⟩
  intro C22 eC22
  have M23 := mIn_step (q := q22) (t := 34) (Ik' := _) (Jk' := B22) M22 rfl (by decide) (by decide) (Or.inr ⟨rfl, rfl, eB22⟩)
  rw [show gadd _ (201 + 22) q22 (.inr (mTc 22, mLen 22, gno)) = A22 from eA22.symm, ← eC22] at M23
  clear M22 eA22 eB22 eC22
  refine ⟨6, mIn_new M23 hf, by decide, by decide, by decide, by omega, by omega, ?_⟩
  intro q23 A23 eA23 B23 eB23
  refine ⟨mSl _ 23, by rw [eA23]; exact List.mem_append_left _ (mIn_mem M23 h0), by rw [eA23, gadd_o1 (by decide)]; exact M23.2.1, by rw [eA23, gadd_o2 (by decide)]; exact M23.2.2.1, by simp [mSl], ?_⟩
  intro C23 eC23
  have M24 := mIn_step (q := q23) (t := 35) (Ik' := _) (Jk' := B23) M23 rfl (by decide) (by decide) (Or.inr ⟨rfl, rfl, eB23⟩)
  rw [show gadd _ (201 + 23) q23 (.inr (mTc 23, mLen 23, gno)) = A23 from eA23.symm, ← eC23] at M24
  clear M23 eA23 eB23 eC23
  refine ⟨78, mIn_new M24 hf, by decide, by decide, by decide, by omega, by omega, ?_⟩
  intro q24 A24 eA24 B24 eB24
  refine ⟨mSl _ 24, by rw [eA24]; exact List.mem_append_left _ (mIn_mem M24 h0), by rw [eA24, gadd_o1 (by decide)]; exact M24.2.1, by rw [eA24, gadd_o2 (by decide)]; exact M24.2.2.1, by simp [mSl], ?_⟩
  intro C24 eC24
  have M25 := mIn_step (q := q24) (t := 36) (Ik' := B24) (Jk' := _) M24 rfl (by decide) (by decide) (Or.inl ⟨by decide, eB24, rfl⟩)
  rw [show gadd _ (201 + 24) q24 (.inr (mTc 24, mLen 24, gno)) = A24 from eA24.symm, ← eC24] at M25
  clear M24 eA24 eB24 eC24
  refine ⟨6, mIn_new M25 hf, by decide, by decide, by decide, by omega, by omega, ?_⟩
  intro q25 A25 eA25 B25 eB25
  refine ⟨mSl _ 25, by rw [eA25]; exact List.mem_append_left _ (mIn_mem M25 h0), by rw [eA25, gadd_o1 (by decide)]; exact M25.2.1, by rw [eA25, gadd_o2 (by decide)]; exact M25.2.2.1, by simp [mSl], ?_⟩
  intro C25 eC25
  have M26 := mIn_step (q := q25) (t := 37) (Ik' := B25) (Jk' := _) M25 rfl (by decide) (by decide) (Or.inl ⟨by decide, eB25, rfl⟩)
  rw [show gadd _ (201 + 25) q25 (.inr (mTc 25, mLen 25, gno)) = A25 from eA25.symm, ← eC25] at M26
  clear M25 eA25 eB25 eC25
  refine ⟨6, mIn_new M26 hf, by decide, by decide, by decide, by omega, by omega, ?_⟩
  intro q26 A26 eA26 B26 eB26
  refine ⟨mSl _ 26, by rw [eA26]; exact List.mem_append_left _ (mIn_mem M26 h0), by rw [eA26, gadd_o1 (by decide)]; exact M26.2.1, by rw [eA26, gadd_o2 (by decide)]; exact M26.2.2.1, by simp [mSl], ?_⟩
  intro C26 eC26
  have M27 := mIn_step (q := q26) (t := 38) (Ik' := B26) (Jk' := _) M26 rfl (by decide) (by decide) (Or.inl ⟨by decide, eB26, rfl⟩)
  rw [show gadd _ (201 + 26) q26 (.inr (mTc 26, mLen 26, gno)) = A26 from eA26.symm, ← eC26] at M27
  clear M26 eA26 eB26 eC26
  refine ⟨1296, mIn_new M27 hf, by decide, by decide, by decide, by omega, by omega, ?_⟩
  intro q27 A27 eA27 B27 eB27
  refine ⟨mSl _ 27, by rw [eA27]; exact List.mem_append_left _ (mIn_mem M27 h0), by rw [eA27, gadd_o1 (by decide)]; exact M27.2.1, by rw [eA27, gadd_o2 (by decide)]; exact M27.2.2.1, by simp [mSl], ?_⟩
  intro C27 eC27
  have M28 := mIn_step (q := q27) (t := 39) (Ik' := B27) (Jk' := _) M27 rfl (by decide) (by decide) (Or.inl ⟨by decide, eB27, rfl⟩)
  rw [show gadd _ (201 + 27) q27 (.inr (mTc 27, mLen 27, gno)) = A27 from eA27.symm, ← eC27] at M28
  clear M27 eA27 eB27 eC27
  refine ⟨6, mIn_new M28 hf, by decide, by decide, by decide, by omega, by omega, ?_⟩
  intro q28 A28 eA28 B28 eB28
  refine ⟨mSl _ 28, by rw [eA28]; exact List.mem_append_left _ (mIn_mem M28 h0), by rw [eA28, gadd_o1 (by decide)]; exact M28.2.1, by rw [eA28, gadd_o2 (by decide)]; exact M28.2.2.1, by simp [mSl], ?_⟩
  intro C28 eC28
  have M29 := mIn_step (q := q28) (t := 42) (Ik' := B28) (Jk' := _) M28 rfl (by decide) (by decide) (Or.inl ⟨by decide, eB28, rfl⟩)
  rw [show gadd _ (201 + 28) q28 (.inr (mTc 28, mLen 28, gno)) = A28 from eA28.symm, ← eC28] at M29
  clear M28 eA28 eB28 eC28
  refine ⟨20, mIn_new M29 hf, by decide, by decide, by decide, by omega, by omega, ?_⟩
  intro q29 A29 eA29 B29 eB29
  refine ⟨mSl _ 29, by rw [eA29]; exact List.mem_append_left _ (mIn_mem M29 h0), by rw [eA29, gadd_o1 (by decide)]; exact M29.2.1, by rw [eA29, gadd_o2 (by decide)]; exact M29.2.2.1, by simp [mSl], ?_⟩
  intro C29 eC29
  have M30 := mIn_step (q := q29) (t := 43) (Ik' := B29) (Jk' := _) M29 rfl (by decide) (by decide) (Or.inl ⟨by decide, eB29, rfl⟩)
  rw [show gadd _ (201 + 29) q29 (.inr (mTc 29, mLen 29, gno)) = A29 from eA29.symm, ← eC29] at M30
  clear M29 eA29 eB29 eC29
  refine ⟨mSl _ 30, mIn_mem M30 h0, M30.2.1, M30.2.2.1, by rfl, ?_⟩
  intro E0 eE0
  refine ⟨mSl _ 30, mIn_mem M30 h0, M30.2.1, M30.2.2.1, by rfl, ?_⟩
  intro E1 eE1
  refine ⟨mSl _ 30, mIn_mem M30 h0, M30.2.1, M30.2.2.1, by rfl, ?_⟩
  intro E2 eE2
  refine ⟨mSl _ 30, mIn_mem M30 h0, M30.2.1, M30.2.2.1, by rfl, ?_⟩
  intro E3 eE3
  refine ⟨mSl _ 30, mIn_mem M30 h0, M30.2.1, M30.2.2.1, by rfl, ?_⟩
  intro E4 eE4
  refine ⟨mSl _ 30, mIn_mem M30 h0, M30.2.1, M30.2.2.1, by rfl, ?_⟩
  intro E5 eE5
  refine ⟨mSl _ 30, mIn_mem M30 h0, M30.2.1, M30.2.2.1, by rfl, ?_⟩
  intro E6 eE6
  have z200 : B29 200 = I 200 := (M30.2.2.2.2.2.1 200 (by omega)).1
  have hoth : ∀ k, k ≠ 200 → E6 k = B29 k := fun k hk => by rw [eE6, gup_o hk, eE5, gup_o hk, eE4, gup_o hk, eE3, gup_o hk, eE2, gup_o hk, eE1, gup_o hk, eE0, gup_o hk]
  have e200 : E6 200 = fun j => if j = 40 then 1 else if j = 32 then 2 else if j = 31 then 1 else if j = 17 then 1 else if j = 16 then 1 else if j = 14 then 1 else if j = 13 then 1 else I 200 j := by
    funext j
    simp only [eE6, eE5, eE4, eE3, eE2, eE1, eE0, gup, if_true]
    rw [z200]
  have hI : (fun k => if k = 200 then I 200 else E6 k) = B29 := by
    funext k
    by_cases e : k = 200
    · subst e; rw [if_pos rfl, z200]
    · rw [if_neg e]; exact hoth k e
  rw [← hI] at M30
  refine hPo _ _ _ _ M30 (by rw [e200]; rfl) (by rw [e200]; rfl) (by rw [e200]; rfl) (by rw [e200]; rfl) (by rw [e200]; rfl) (by rw [e200]; rfl) (by rw [e200]; rfl) ?_
  · intro j hj
    simp only [List.mem_cons, List.not_mem_nil, or_false, not_or] at hj
    rw [e200]
    simp [hj]
theorem gModM_of {V V' : gV} {I I' : gI} {J J' : gL} {b0 : Nat} {qf : Nat → Nat} (h : mIn V I J b0 30 qf V' I' J') (h0 : 200 ∈ V.1) : gModM V' := by
  obtain ⟨h1, h2, h3, h4, h5, h6, h7⟩ := h
  have hm : ∀ i, i < 30 → 201 + i ∈ V'.1 := fun i hi => by rw [h1]; exact List.mem_append_right _ (List.mem_map.mpr ⟨i, List.mem_range.mpr hi, rfl⟩)
  have hsl : mSl qf 30 = mSl (fun i => V'.2.1 (201 + i)) 30 := by
    unfold mSl
    apply List.map_congr_left
    intro t _
    cases hs : mSlot t with
    | none => rfl
    | some i =>
      by_cases hi : i < 30
      · simp only [hi, if_true]; rw [(h4 i hi).1]
      · simp only [hi, if_false]
  intro q hq
  simp only [gLsM, List.mem_cons, List.not_mem_nil, or_false] at hq
  rcases hq with rfl | rfl | rfl | rfl | rfl | rfl | rfl | rfl | rfl | rfl | rfl | rfl | rfl | rfl | rfl | rfl | rfl | rfl | rfl | rfl | rfl | rfl | rfl | rfl | rfl | rfl | rfl | rfl | rfl | rfl | rfl
  · exact ⟨by rw [h1]; exact List.mem_append_left _ h0, by rw [h3, hsl]; rfl⟩
  · exact ⟨hm 0 (by decide), (h4 0 (by decide)).2⟩
  · exact ⟨hm 1 (by decide), (h4 1 (by decide)).2⟩
  · exact ⟨hm 2 (by decide), (h4 2 (by decide)).2⟩
  · exact ⟨hm 3 (by decide), (h4 3 (by decide)).2⟩
  · exact ⟨hm 4 (by decide), (h4 4 (by decide)).2⟩
  · exact ⟨hm 5 (by decide), (h4 5 (by decide)).2⟩
  · exact ⟨hm 6 (by decide), (h4 6 (by decide)).2⟩
  · exact ⟨hm 7 (by decide), (h4 7 (by decide)).2⟩
  · exact ⟨hm 8 (by decide), (h4 8 (by decide)).2⟩
  · exact ⟨hm 9 (by decide), (h4 9 (by decide)).2⟩
  · exact ⟨hm 10 (by decide), (h4 10 (by decide)).2⟩
  · exact ⟨hm 11 (by decide), (h4 11 (by decide)).2⟩
  · exact ⟨hm 12 (by decide), (h4 12 (by decide)).2⟩
  · exact ⟨hm 13 (by decide), (h4 13 (by decide)).2⟩
  · exact ⟨hm 14 (by decide), (h4 14 (by decide)).2⟩
  · exact ⟨hm 15 (by decide), (h4 15 (by decide)).2⟩
  · exact ⟨hm 16 (by decide), (h4 16 (by decide)).2⟩
  · exact ⟨hm 17 (by decide), (h4 17 (by decide)).2⟩
  · exact ⟨hm 18 (by decide), (h4 18 (by decide)).2⟩
  · exact ⟨hm 19 (by decide), (h4 19 (by decide)).2⟩
  · exact ⟨hm 20 (by decide), (h4 20 (by decide)).2⟩
  · exact ⟨hm 21 (by decide), (h4 21 (by decide)).2⟩
  · exact ⟨hm 22 (by decide), (h4 22 (by decide)).2⟩
  · exact ⟨hm 23 (by decide), (h4 23 (by decide)).2⟩
  · exact ⟨hm 24 (by decide), (h4 24 (by decide)).2⟩
  · exact ⟨hm 25 (by decide), (h4 25 (by decide)).2⟩
  · exact ⟨hm 26 (by decide), (h4 26 (by decide)).2⟩
  · exact ⟨hm 27 (by decide), (h4 27 (by decide)).2⟩
  · exact ⟨hm 28 (by decide), (h4 28 (by decide)).2⟩
  · exact ⟨hm 29 (by decide), (h4 29 (by decide)).2⟩
