/-! TileRules(): the class's world when it is new -/
abbrev gCls : List Nat := [10, 11, 12, 13, 14, 20, 21, 22, 23, 24, 25, 26, 27, 28, 29, 30, 31, 32, 33, 34, 35, 36, 37, 40, 41, 42, 43, 44, 45, 46, 47, 48, 49, 50, 51, 60, 61, 62]
/-- what the class's ints are when it is new -/
def gNewC (I : gI) : Prop := I 10 4 = 0 ∧ I 20 0 = 0 ∧ I 20 1 = 1 ∧ I 20 2 = 1 ∧ I 20 3 = 0 ∧ I 20 4 = 1 ∧ I 20 5 = 1 ∧ I 20 6 = 1 ∧ I 20 7 = 0 ∧ I 40 0 = 1 ∧ I 40 1 = 2 ∧ (∀ l, l < 6 → I (42 + l) = fun _ => 0) ∧ I 60 0 = 0 ∧ I 60 1 = 1 ∧ I 60 5 = 0
theorem gde_o {V : gV} {n k : Nat} {d : gD} (h : k ≠ n) : (gde V n d).2.2 k = V.2.2 k := by simp [gde, va_up, h]
theorem gadd_o1 {V : gV} {n k a : Nat} {d : gD} (h : k ≠ n) : (gadd V n a d).2.1 k = V.2.1 k := by simp [gadd, va_up, h]
theorem gadd_o2 {V : gV} {n k a : Nat} {d : gD} (h : k ≠ n) : (gadd V n a d).2.2 k = V.2.2 k := by simp [gadd, va_up, h]
theorem gSt_kp {S : List Nat} {V V' : gV} {k : Nat} (h : gKp S V V') (hS : k ∉ S) (hm : k ∈ V'.1) : gSt k V V' := ⟨hm, (h k hS).1, (h k hS).2⟩
set_option maxRecDepth 100000 in
set_option maxHeartbeats 4000000 in
theorem s_X9_init {mc ms b0 : Nat} {V : gV} {I : gI} {J : gL} {Po : gV → gI → gL → Prop} (hc : 38 ≤ mc) (hs : 1282 ≤ ms) (h0 : 0 ∈ V.1) (ha : V.2.1 0 = b0) (hd : V.2.2 0 = .inl (9, [.inr none, .inr none, .inr none, .inr none, .inr none, .inr none, .inr none])) (hf : ∀ k ∈ gCls, k ∉ V.1)
    (hPo : ∀ (V' : gV) (I' : gI) (J' : gL), V'.1 = V.1 ++ gCls → V'.2.1 0 = b0 → gModT none none none V' → gModTS V' → gModJG V' → gModBL V' → gModCO V' → gKp (0 :: gCls) V V' → gNewC I' → gSm gCls I I' → gJm gCls J J' → Po V' I' J') : wA_X9_init mc ms b0 V I J Po := by
  unfold wA_X9_init
  refine ⟨_, h0, ha, hd, by simp, ?_⟩
  intro W1 hW1
  have a1 : W1.1 = V.1 := by rw [hW1]; rfl
  have b1 : ∀ k, W1.2.1 k = V.2.1 k := fun k => by rw [hW1]; rfl
  have c1 : W1.2.2 0 = .inl (9, [.inr none, .inr none, .inr none, .inr none, .inr none, .inr none, .inr none]) := by rw [hW1]; rfl
  have d1 : ∀ k, k ≠ 0 → W1.2.2 k = V.2.2 k := fun k hk => by rw [hW1]; exact gde_o hk
  refine ⟨_, by rw [a1]; exact h0, by rw [b1]; exact ha, c1, by simp, ?_⟩
  intro W2 hW2
  have a2 : W2.1 = V.1 := by rw [hW2]; exact a1
  have b2 : ∀ k, W2.2.1 k = V.2.1 k := fun k => by rw [hW2]; exact b1 k
  have c2 : W2.2.2 0 = .inl (9, [.inr none, .inr none, .inr none, .inr none, .inr none, .inr none, .inr none]) := by rw [hW2]; rfl
  have d2 : ∀ k, k ≠ 0 → W2.2.2 k = V.2.2 k := fun k hk => by rw [hW2, gde_o hk]; exact d1 k hk
  clear hW1 hW2 a1 b1 c1 d1
  refine ⟨_, by rw [a2]; exact h0, by rw [b2]; exact ha, c2, by simp, ?_⟩
  intro W3 hW3
  have a3 : W3.1 = V.1 := by rw [hW3]; exact a2
  have b3 : ∀ k, W3.2.1 k = V.2.1 k := fun k => by rw [hW3]; exact b2 k
  have c3 : W3.2.2 0 = .inl (9, [.inr none, .inr none, .inr none, .inr none, .inr none, .inr none, .inr none]) := by rw [hW3]; rfl
  have d3 : ∀ k, k ≠ 0 → W3.2.2 k = V.2.2 k := fun k hk => by rw [hW3, gde_o hk]; exact d2 k hk
  clear hW3 a2 b2 c2 d2
  refine ⟨by rw [a3]; exact hf 10 (by decide), by omega, by omega, ?_⟩
  intro q10 X1 hX1 I1 J1 hI1 hJ1
  refine ⟨4, 32, by omega, by omega, ?_⟩
  refine s_X8_init (by omega) (by omega) (by rw [hX1]; simp [gadd]) (by rw [hX1]; simp [gadd, va_up]) (by rw [hX1]; rfl) (fun k k1 k2 => by rw [hX1]; simp only [gadd, a3, List.mem_append, List.mem_singleton, not_or]; exact ⟨hf k (by rcases (show k = 11 ∨ k = 12 ∨ k = 13 ∨ k = 14 by omega) with rfl | rfl | rfl | rfl <;> decide), by omega⟩) ?_
  intro X2 I2 mTS e10 ks2 kp2 s0 _ _ _ _ _ sm2
  have m2 : X2.1 = V.1 ++ [10, 11, 12, 13, 14] := by rw [ks2, hX1]; simp [gadd, a3]
  have n2 : ∀ k, k ∉ [10, 11, 12, 13, 14] → X2.2.1 k = V.2.1 k := fun k hk => by rw [(kp2 k hk).1, hX1, gadd_o1 (by intro e; subst e; simp at hk), b3]
  have o2 : ∀ k, k ≠ 0 → k ∉ [10, 11, 12, 13, 14] → X2.2.2 k = V.2.2 k := fun k h hk => by rw [(kp2 k hk).2, hX1, gadd_o2 (by intro e; subst e; simp at hk), d3 k h]
  have p2 : X2.2.2 0 = .inl (9, [.inr none, .inr none, .inr none, .inr none, .inr none, .inr none, .inr none]) := by rw [(kp2 0 (by decide)).2, hX1, gadd_o2 (by decide), c3]
  have i2 : gSm [10, 11, 12, 13, 14] I I2 := fun k hk => by rw [sm2 k hk, hI1, guc_o (by intro e; subst e; simp at hk)]
  have j1 : gJm [10] J J1 := fun k hk => by rw [hJ1, guc_o (by simpa using hk)]
  clear kp2 hX1 ks2 sm2 hI1 hJ1
  refine ⟨_, by rw [m2]; simp [h0], by rw [n2 0 (by decide)]; exact ha, p2, by simp, ?_⟩
  intro X3 hX3
  have m3 : X3.1 = V.1 ++ [10, 11, 12, 13, 14] := by rw [hX3]; exact m2
  have t3 : gModTS X3 := kp_TS mTS (fun k hk => ⟨by rw [m3]; simp only [List.mem_append]; exact Or.inr hk, by rw [hX3]; rfl, by rw [hX3]; exact gde_o (by intro e; subst e; simp at hk)⟩)
  have n3 : ∀ k, k ∉ [10, 11, 12, 13, 14] → X3.2.1 k = V.2.1 k := fun k hk => by rw [hX3]; exact n2 k hk
  have e3 : X3.2.1 10 = q10 := by rw [hX3]; exact e10
  have o3 : ∀ k, k ≠ 0 → k ∉ [10, 11, 12, 13, 14] → X3.2.2 k = V.2.2 k := fun k h hk => by rw [hX3, gde_o h]; exact o2 k h hk
  have p3 : X3.2.2 0 = .inl (9, [.inr (some q10), .inr none, .inr none, .inr none, .inr none, .inr none, .inr none]) := by rw [hX3]; rfl
  clear hX3 m2 n2 o2 p2 mTS e10
  refine ⟨by rw [m3]; simp only [List.mem_append, not_or]; exact ⟨hf 20 (by decide), by decide⟩, by omega, by omega, ?_⟩
  intro q20 X4 hX4 I4 J4 hI4 hJ4
  refine ⟨17, 1108, by omega, by omega, ?_⟩
  refine s_X4_init (by omega) (by omega) (by rw [hX4]; simp [gadd]) (by rw [hX4]; simp [gadd, va_up]) (by rw [hX4]; rfl) (fun k k1 k2 => by rw [hX4]; simp only [gadd, m3, List.mem_append, List.mem_singleton, not_or]; exact ⟨⟨hf k (by simp only [gCls, List.mem_cons]; omega), by simp only [List.mem_cons, List.not_mem_nil, or_false]; omega⟩, by omega⟩) ?_
  intro X5 I5 mJG e20 ks5 kp5 g0 g1 g2 g3 g4 g5 g6 g7 _ _ _ _ _ _ _ _ _ _ _ _ _ _ _ _ sm5
  have m5 : X5.1 = V.1 ++ [10, 11, 12, 13, 14, 20, 21, 22, 23, 24, 25, 26, 27, 28, 29, 30, 31, 32, 33, 34, 35, 36, 37] := by rw [ks5, hX4]; simp [gadd, m3]
  have u5 : ∀ k, k ∉ [20, 21, 22, 23, 24, 25, 26, 27, 28, 29, 30, 31, 32, 33, 34, 35, 36, 37] → X5.2.1 k = X3.2.1 k ∧ X5.2.2 k = X3.2.2 k := fun k hk => by rw [(kp5 k hk).1, (kp5 k hk).2, hX4]; exact ⟨gadd_o1 (by intro e; subst e; simp at hk), gadd_o2 (by intro e; subst e; simp at hk)⟩
  have i5 : ∀ k, k ∉ [20, 21, 22, 23, 24, 25, 26, 27, 28, 29, 30, 31, 32, 33, 34, 35, 36, 37] → I5 k = I2 k := fun k hk => by rw [sm5 k hk, hI4, guc_o (by intro e; subst e; simp at hk)]
  have j4 : gJm [10, 20] J J4 := fun k hk => by
    simp only [List.mem_cons, List.not_mem_nil, or_false, not_or] at hk
    rw [hJ4, guc_o hk.2, j1 k (by simpa using hk.1)]
  clear kp5 hX4 ks5 sm5 hI4 hJ4 j1
  refine ⟨_, by rw [m5]; simp [h0], by rw [(u5 0 (by decide)).1, n3 0 (by decide)]; exact ha, by rw [(u5 0 (by decide)).2]; exact p3, by simp, ?_⟩
  intro X6 hX6
  have m6 : X6.1 = X5.1 := by rw [hX6]; rfl
  have w6 : ∀ k, X6.2.1 k = X5.2.1 k := fun k => by rw [hX6]; rfl
  have v6 : ∀ k, k ≠ 0 → X6.2.2 k = X5.2.2 k := fun k h => by rw [hX6]; exact gde_o h
  have p6 : X6.2.2 0 = .inl (9, [.inr (some q10), .inr (some q20), .inr none, .inr none, .inr none, .inr none, .inr none]) := by rw [hX6]; rfl
  clear hX6
  refine ⟨by rw [m6, m5]; simp only [List.mem_append, not_or]; exact ⟨hf 40 (by decide), by decide⟩, by omega, by omega, ?_⟩
  intro q40 X7 hX7 I7 J7 hI7 hJ7
  refine ⟨11, 84, by omega, by omega, ?_⟩
  refine s_X0_init (by omega) (by omega) (by rw [hX7]; simp [gadd]) (by rw [hX7]; simp [gadd, va_up]) (by rw [hX7]; rfl) (fun k k1 k2 => by rw [hX7]; simp only [gadd, m6, m5, List.mem_append, List.mem_singleton, not_or]; exact ⟨⟨hf k (by simp only [gCls, List.mem_cons]; omega), by simp only [List.mem_cons, List.not_mem_nil, or_false]; omega⟩, by omega⟩) ?_
  intro X8 I8 J8 mBL e40 ks8 kp8 f0 f1 _ z0 z1 z2 z3 z4 z5 _ _ _ _ sm8 jm8
  have m8 : X8.1 = V.1 ++ [10, 11, 12, 13, 14, 20, 21, 22, 23, 24, 25, 26, 27, 28, 29, 30, 31, 32, 33, 34, 35, 36, 37, 40, 41, 42, 43, 44, 45, 46, 47, 48, 49, 50, 51] := by rw [ks8, hX7]; simp [gadd, m6, m5]
  have u8 : ∀ k, k ∉ [40, 41, 42, 43, 44, 45, 46, 47, 48, 49, 50, 51] → X8.2.1 k = X6.2.1 k ∧ X8.2.2 k = X6.2.2 k := fun k hk => by rw [(kp8 k hk).1, (kp8 k hk).2, hX7]; exact ⟨gadd_o1 (by intro e; subst e; simp at hk), gadd_o2 (by intro e; subst e; simp at hk)⟩
  have i8 : ∀ k, k ∉ [40, 41, 42, 43, 44, 45, 46, 47, 48, 49, 50, 51] → I8 k = I5 k := fun k hk => by rw [sm8 k hk, hI7, guc_o (by intro e; subst e; simp at hk)]
  have j8 : gJm gCls J J8 := fun k hk => by
    rw [jm8 k (fun h => hk (by simp only [gCls, List.mem_cons, List.not_mem_nil, or_false] at h ⊢; omega)), hJ7, guc_o (by intro e; subst e; simp at hk), j4 k (fun h => hk (by simp only [gCls, List.mem_cons, List.not_mem_nil, or_false] at h ⊢; omega))]
  clear kp8 hX7 ks8 sm8 jm8 hI7 hJ7 j4
  refine ⟨_, by rw [m8]; simp [h0], by rw [(u8 0 (by decide)).1, w6, (u5 0 (by decide)).1, n3 0 (by decide)]; exact ha, by rw [(u8 0 (by decide)).2]; exact p6, by simp, ?_⟩
  intro X9 hX9
  have m9 : X9.1 = X8.1 := by rw [hX9]; rfl
  have w9 : ∀ k, X9.2.1 k = X8.2.1 k := fun k => by rw [hX9]; rfl
  have v9 : ∀ k, k ≠ 0 → X9.2.2 k = X8.2.2 k := fun k h => by rw [hX9]; exact gde_o h
  have p9 : X9.2.2 0 = .inl (9, [.inr (some q10), .inr (some q20), .inr (some q40), .inr none, .inr none, .inr none, .inr none]) := by rw [hX9]; rfl
  clear hX9
  refine ⟨by rw [m9, m8]; simp only [List.mem_append, not_or]; exact ⟨hf 60 (by decide), by decide⟩, by omega, by omega, ?_⟩
  intro q60 Y1 hY1 K1 L1 hK1 hL1
  refine ⟨2, 24, by omega, by omega, ?_⟩
  refine s_X1_init (by omega) (by omega) (by rw [hY1]; simp [gadd]) (by rw [hY1]; simp [gadd, va_up]) (by rw [hY1]; rfl) (fun k k1 k2 => by rw [hY1]; simp only [gadd, m9, m8, List.mem_append, List.mem_singleton, not_or]; exact ⟨⟨hf k (by simp only [gCls, List.mem_cons]; omega), by simp only [List.mem_cons, List.not_mem_nil, or_false]; omega⟩, by omega⟩) ?_
  intro Y2 K2 mCO e60 ksY kpY y0 y1 _ y5 _ _ _ _ _ _ smY
  have mY : Y2.1 = V.1 ++ gCls := by rw [ksY, hY1]; simp [gadd, m9, m8]
  have uY : ∀ k, k ∉ [60, 61, 62] → Y2.2.1 k = X9.2.1 k ∧ Y2.2.2 k = X9.2.2 k := fun k hk => by rw [(kpY k hk).1, (kpY k hk).2, hY1]; exact ⟨gadd_o1 (by intro e; subst e; simp at hk), gadd_o2 (by intro e; subst e; simp at hk)⟩
  have iY : ∀ k, k ∉ [60, 61, 62] → K2 k = I8 k := fun k hk => by rw [smY k hk, hK1, guc_o (by intro e; subst e; simp at hk)]
  have jY : gJm gCls J L1 := fun k hk => by rw [hL1, guc_o (by intro e; subst e; simp at hk), j8 k hk]
  clear kpY hY1 ksY smY hK1 hL1
  refine ⟨_, by rw [mY]; simp [h0], by rw [(uY 0 (by decide)).1, w9, (u8 0 (by decide)).1, w6, (u5 0 (by decide)).1, n3 0 (by decide)]; exact ha, by rw [(uY 0 (by decide)).2]; exact p9, by simp, ?_⟩
  intro Z hZ
  have mZ : Z.1 = V.1 ++ gCls := by rw [hZ]; exact mY
  have wZ : ∀ k, Z.2.1 k = Y2.2.1 k := fun k => by rw [hZ]; rfl
  have vZ : ∀ k, k ≠ 0 → Z.2.2 k = Y2.2.2 k := fun k h => by rw [hZ]; exact gde_o h
  have pZ : Z.2.2 0 = .inl (9, [.inr (some q10), .inr (some q20), .inr (some q40), .inr (some q60), .inr none, .inr none, .inr none]) := by rw [hZ]; rfl
  clear hZ
  have inZ : ∀ k, k ∈ gCls → k ∈ Z.1 := fun k hk => by rw [mZ]; exact List.mem_append_right _ hk
  have r60 : Z.2.1 60 = q60 := by rw [wZ]; exact e60
  have r40 : Z.2.1 40 = q40 := by rw [wZ, (uY 40 (by decide)).1, w9]; exact e40
  have r20 : Z.2.1 20 = q20 := by rw [wZ, (uY 20 (by decide)).1, w9, (u8 20 (by decide)).1, w6]; exact e20
  have r10 : Z.2.1 10 = q10 := by rw [wZ, (uY 10 (by decide)).1, w9, (u8 10 (by decide)).1, w6, (u5 10 (by decide)).1]; exact e3
  have r0 : Z.2.1 0 = b0 := by rw [wZ, (uY 0 (by decide)).1, w9, (u8 0 (by decide)).1, w6, (u5 0 (by decide)).1, n3 0 (by decide)]; exact ha
  refine hPo Z K2 L1 mZ r0 ⟨by rw [mZ]; exact List.mem_append_left _ h0, by rw [pZ, r10, r20, r40, r60]⟩ ?_ ?_ ?_ ?_ ?_ ?_ ?_ jY
  · refine kp_TS t3 (fun k hk => ⟨inZ k (by simp only [gCls, List.mem_cons, List.not_mem_nil, or_false] at hk ⊢; omega), ?_, ?_⟩)
    · simp only [List.mem_cons, List.not_mem_nil, or_false] at hk
      rw [wZ, (uY k (by simp only [List.mem_cons, List.not_mem_nil, or_false]; omega)).1, w9, (u8 k (by simp only [List.mem_cons, List.not_mem_nil, or_false]; omega)).1, w6, (u5 k (by simp only [List.mem_cons, List.not_mem_nil, or_false]; omega)).1]
    · simp only [List.mem_cons, List.not_mem_nil, or_false] at hk
      rw [vZ k (by omega), (uY k (by simp only [List.mem_cons, List.not_mem_nil, or_false]; omega)).2, v9 k (by omega), (u8 k (by simp only [List.mem_cons, List.not_mem_nil, or_false]; omega)).2, v6 k (by omega), (u5 k (by simp only [List.mem_cons, List.not_mem_nil, or_false]; omega)).2]
  · refine kp_JG mJG (fun k hk => ⟨inZ k (by simp only [gCls, List.mem_cons, List.not_mem_nil, or_false] at hk ⊢; omega), ?_, ?_⟩)
    · simp only [List.mem_cons, List.not_mem_nil, or_false] at hk
      rw [wZ, (uY k (by simp only [List.mem_cons, List.not_mem_nil, or_false]; omega)).1, w9, (u8 k (by simp only [List.mem_cons, List.not_mem_nil, or_false]; omega)).1, w6]
    · simp only [List.mem_cons, List.not_mem_nil, or_false] at hk
      rw [vZ k (by omega), (uY k (by simp only [List.mem_cons, List.not_mem_nil, or_false]; omega)).2, v9 k (by omega), (u8 k (by simp only [List.mem_cons, List.not_mem_nil, or_false]; omega)).2, v6 k (by omega)]
  · refine kp_BL mBL (fun k hk => ⟨inZ k (by simp only [gCls, List.mem_cons, List.not_mem_nil, or_false] at hk ⊢; omega), ?_, ?_⟩)
    · simp only [List.mem_cons, List.not_mem_nil, or_false] at hk
      rw [wZ, (uY k (by simp only [List.mem_cons, List.not_mem_nil, or_false]; omega)).1, w9]
    · simp only [List.mem_cons, List.not_mem_nil, or_false] at hk
      rw [vZ k (by omega), (uY k (by simp only [List.mem_cons, List.not_mem_nil, or_false]; omega)).2, v9 k (by omega)]
  · refine kp_CO mCO (fun k hk => ⟨inZ k (by simp only [gCls, List.mem_cons, List.not_mem_nil, or_false] at hk ⊢; omega), wZ k, ?_⟩)
    simp only [List.mem_cons, List.not_mem_nil, or_false] at hk
    exact vZ k (by omega)
  · intro k hk
    simp only [gCls, List.mem_cons, List.not_mem_nil, or_false, not_or] at hk
    constructor
    · rw [wZ, (uY k (by simp [hk])).1, w9, (u8 k (by simp [hk])).1, w6, (u5 k (by simp [hk])).1, n3 k (by simp [hk])]
    · rw [vZ k hk.1, (uY k (by simp [hk])).2, v9 k hk.1, (u8 k (by simp [hk])).2, v6 k hk.1, (u5 k (by simp [hk])).2, o3 k hk.1 (by simp [hk])]
  · refine ⟨?_, ?_, ?_, ?_, ?_, ?_, ?_, ?_, ?_, ?_, ?_, ?_, y0, y1, y5⟩
    · rw [iY 10 (by decide), i8 10 (by decide), i5 10 (by decide)]; exact s0
    · rw [iY 20 (by decide), i8 20 (by decide)]; exact g0
    · rw [iY 20 (by decide), i8 20 (by decide)]; exact g1
    · rw [iY 20 (by decide), i8 20 (by decide)]; exact g2
    · rw [iY 20 (by decide), i8 20 (by decide)]; exact g3
    · rw [iY 20 (by decide), i8 20 (by decide)]; exact g4
    · rw [iY 20 (by decide), i8 20 (by decide)]; exact g5
    · rw [iY 20 (by decide), i8 20 (by decide)]; exact g6
    · rw [iY 20 (by decide), i8 20 (by decide)]; exact g7
    · rw [iY 40 (by decide)]; exact f0
    · rw [iY 40 (by decide)]; exact f1
    · intro l hl
      rcases (show l = 0 ∨ l = 1 ∨ l = 2 ∨ l = 3 ∨ l = 4 ∨ l = 5 by omega) with rfl | rfl | rfl | rfl | rfl | rfl
      · rw [iY 42 (by decide)]; exact z0
      · rw [iY 43 (by decide)]; exact z1
      · rw [iY 44 (by decide)]; exact z2
      · rw [iY 45 (by decide)]; exact z3
      · rw [iY 46 (by decide)]; exact z4
      · rw [iY 47 (by decide)]; exact z5
  · intro k hk
    simp only [gCls, List.mem_cons, List.not_mem_nil, or_false, not_or] at hk
    rw [iY k (by simp [hk]), i8 k (by simp [hk]), i5 k (by simp [hk]), i2 k (by simp [hk])]
