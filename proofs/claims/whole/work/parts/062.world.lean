/-! THE LAW'S WORLD, and its start -/
def gWl (v1 v2 : Nat) (r cv gr : Bool) (room : Nat) (V : gV) : Prop := V.1.Nodup ∧ V.2.1 0 = v1 ∧ V.2.1 200 = v2 ∧ gModT (if r then some (V.2.1 70) else none) (if cv then some (V.2.1 94) else none) (if gr then some (V.2.1 99) else none) V ∧ gModTS V ∧ gModJG V ∧ gModBL V ∧ gModCO V ∧ gModM V ∧ (r = true → gModRG room V) ∧ (r = false → ∀ k, 70 ≤ k → k ≤ 93 → k ∉ V.1) ∧ (cv = true → gModCV V) ∧ (cv = false → ∀ k, 94 ≤ k → k ≤ 98 → k ∉ V.1) ∧ (gr = true → gModGR V) ∧ (gr = false → ∀ k, 99 ≤ k → k ≤ 103 → k ∉ V.1)
/-- what the model's ints are when it is new -/
def gNewM (I : gI) : Prop := I 200 13 = 1 ∧ I 200 14 = 1 ∧ I 200 16 = 1 ∧ I 200 17 = 1 ∧ I 200 31 = 1 ∧ I 200 32 = 2 ∧ I 200 40 = 1 ∧ (∀ j, j ∉ [13, 14, 16, 17, 31, 32, 40] → I 200 j = 0) ∧ ∀ i, i < 30 → mTc i ≠ 1 → I (201 + i) = fun _ => 0
set_option maxRecDepth 100000 in
set_option maxHeartbeats 4000000 in
theorem law_start {L : Nat} {xs : Nat → Int32} {b : Nat} (hl : ∀ (v1 v2 : Nat) (V : gV) (c s : Nat) (I : gI) (J : gL), c ≤ 100 → s ≤ 3300000 → gWl v1 v2 false false false 0 V → gNewC I → gNewM I → wA_L_law_18 L xs () v1 v2 (0 : Int32) V c s I J) : wA_L_law L xs () b gV0 gI0 gL0 := by
  unfold wA_L_law
  refine ⟨by simp [gV0], by decide, by decide, ?_⟩
  intro b5 V4 e4 I6 J7 e6 e7
  refine ⟨38, 1282, by decide, by decide, ?_⟩
  refine s_X9_init (Nat.le_refl _) (Nat.le_refl _) (by rw [e4]; simp [gadd]) (by rw [e4]; simp [gadd, va_up]) (by rw [e4]; rfl) (fun k hk => by rw [e4]; show k ∉ [] ++ [0]; intro h; simp at h; subst h; simp at hk) ?_
  intro V12 I13 J14 ks ha mT mTS mJG mBL mCO kp hn smm jm
  have m12 : V12.1 = 0 :: gCls := by rw [ks, e4]; rfl
  refine ⟨by rw [m12]; decide, by decide, by decide, ?_⟩
  intro b19 V18 e18 I20 J21 e20 e21
  have m18 : V18.1 = 0 :: gCls ++ [200] := by rw [e18]; show V12.1 ++ [200] = _; rw [m12]
  refine ⟨30, 3243189, by decide, by decide, ?_⟩
  refine s_X10_init (Nat.le_refl _) (Nat.le_refl _) (by rw [m18]; decide) (by rw [e18]; simp [gadd, va_up]) (by rw [e18]; rfl) (fun k hk => by rw [m18]; simp only [gCls, List.cons_append, List.nil_append, List.mem_cons, List.not_mem_nil, or_false]; omega) ?_
  intro V' I' J' qf hM p13 p14 p16 p17 p31 p32 p40 poth
  have hMM := gModM_of hM (by rw [m18]; decide)
  obtain ⟨h1, h2, h3, h4, h5, h6, h7⟩ := hM
  have mV : V'.1 = (0 :: gCls ++ [200]) ++ (List.range 30).map (fun i => 201 + i) := by rw [h1, m18]
  have keep : ∀ k, k < 200 → V'.2.1 k = V12.2.1 k ∧ V'.2.2 k = V12.2.2 k := fun k hk => by
    rw [(h5 k (by omega) (by omega)).1, (h5 k (by omega) (by omega)).2, e18]
    exact ⟨gadd_o1 (by omega), gadd_o2 (by omega)⟩
  have stt : ∀ k, k < 200 → k ∈ gCls → gSt k V12 V' := fun k hk hm => ⟨by rw [mV]; exact List.mem_append_left _ (List.mem_append_left _ (List.mem_cons_of_mem _ hm)), (keep k hk).1, (keep k hk).2⟩
  have int0 : ∀ k, k ≠ 200 → I' k = if k < 201 ∨ 231 ≤ k then I20 k else I' k := fun k hk => by
    by_cases c : k < 201 ∨ 231 ≤ k
    · rw [if_pos c]
      have t : (if k = 200 then I20 200 else I' k) = I20 k := (h6 k (by omega)).1
      rw [if_neg hk] at t
      exact t
    · rw [if_neg c]
  have iC : ∀ k, k < 200 → I' k = I13 k := fun k hk => by rw [int0 k (by omega), if_pos (by omega), e20, guc_o (by omega)]
  refine hl b5 b19 V' _ _ I' J' (by decide) (by decide) ⟨?_, ?_, h2, ?_, ?_, ?_, ?_, ?_, hMM, fun h => absurd h (by decide), fun _ k k1 k2 => ?_, fun h => absurd h (by decide), fun _ k k1 k2 => ?_, fun h => absurd h (by decide), fun _ k k1 k2 => ?_⟩ ?_ ?_
  · rw [mV]; decide
  · rw [(keep 0 (by omega)).1]; exact ha
  · exact kp_T mT ⟨by rw [mV]; simp, (keep 0 (by omega)).1, (keep 0 (by omega)).2⟩ (keep 10 (by omega)).1 (keep 20 (by omega)).1 (keep 40 (by omega)).1 (keep 60 (by omega)).1
  · exact kp_TS mTS (fun k hk => stt k (by simp only [List.mem_cons, List.not_mem_nil, or_false] at hk; omega) (by simp only [gCls, List.mem_cons, List.not_mem_nil, or_false] at hk ⊢; omega))
  · exact kp_JG mJG (fun k hk => stt k (by simp only [List.mem_cons, List.not_mem_nil, or_false] at hk; omega) (by simp only [gCls, List.mem_cons, List.not_mem_nil, or_false] at hk ⊢; omega))
  · exact kp_BL mBL (fun k hk => stt k (by simp only [List.mem_cons, List.not_mem_nil, or_false] at hk; omega) (by simp only [gCls, List.mem_cons, List.not_mem_nil, or_false] at hk ⊢; omega))
  · exact kp_CO mCO (fun k hk => stt k (by simp only [List.mem_cons, List.not_mem_nil, or_false] at hk; omega) (by simp only [gCls, List.mem_cons, List.not_mem_nil, or_false] at hk ⊢; omega))
  · rw [mV]
    simp only [gCls, List.cons_append, List.nil_append, List.mem_cons, List.mem_append, List.mem_map, List.mem_range, List.not_mem_nil, or_false, not_or]
    refine ⟨by omega, by omega, by omega, by omega, by omega, by omega, by omega, by omega, by omega, by omega, by omega, by omega, by omega, by omega, by omega, by omega, by omega, by omega, by omega, by omega, by omega, by omega, by omega, by omega, by omega, by omega, by omega, by omega, by omega, by omega, by omega, by omega, by omega, by omega, by omega, by omega, by omega, by omega, by omega, by omega, ?_⟩
    rintro ⟨i, _, e⟩
    omega
  · rw [mV]
    simp only [gCls, List.cons_append, List.nil_append, List.mem_cons, List.mem_append, List.mem_map, List.mem_range, List.not_mem_nil, or_false, not_or]
    refine ⟨by omega, by omega, by omega, by omega, by omega, by omega, by omega, by omega, by omega, by omega, by omega, by omega, by omega, by omega, by omega, by omega, by omega, by omega, by omega, by omega, by omega, by omega, by omega, by omega, by omega, by omega, by omega, by omega, by omega, by omega, by omega, by omega, by omega, by omega, by omega, by omega, by omega, by omega, by omega, by omega, ?_⟩
    rintro ⟨i, _, e⟩
    omega
  · rw [mV]
    simp only [gCls, List.cons_append, List.nil_append, List.mem_cons, List.mem_append, List.mem_map, List.mem_range, List.not_mem_nil, or_false, not_or]
    refine ⟨by omega, by omega, by omega, by omega, by omega, by omega, by omega, by omega, by omega, by omega, by omega, by omega, by omega, by omega, by omega, by omega, by omega, by omega, by omega, by omega, by omega, by omega, by omega, by omega, by omega, by omega, by omega, by omega, by omega, by omega, by omega, by omega, by omega, by omega, by omega, by omega, by omega, by omega, by omega, by omega, ?_⟩
    rintro ⟨i, _, e⟩
    omega
  · obtain ⟨n1, n2, n3, n4, n5, n6, n7, n8, n9, n10, n11, n12, n13, n14, n15⟩ := hn
    exact ⟨by rw [iC 10 (by omega)]; exact n1, by rw [iC 20 (by omega)]; exact n2, by rw [iC 20 (by omega)]; exact n3, by rw [iC 20 (by omega)]; exact n4, by rw [iC 20 (by omega)]; exact n5, by rw [iC 20 (by omega)]; exact n6, by rw [iC 20 (by omega)]; exact n7, by rw [iC 20 (by omega)]; exact n8, by rw [iC 20 (by omega)]; exact n9, by rw [iC 40 (by omega)]; exact n10, by rw [iC 40 (by omega)]; exact n11, fun l hl => by rw [iC (42 + l) (by omega)]; exact n12 l hl, by rw [iC 60 (by omega)]; exact n13, by rw [iC 60 (by omega)]; exact n14, by rw [iC 60 (by omega)]; exact n15⟩
  · refine ⟨p13, p14, p16, p17, p31, p32, p40, fun j hj => ?_, fun i hi hc => ?_⟩
    · rw [poth j hj, e20, guc_s]
    · have t : (if 201 + i = 200 then I20 200 else I' (201 + i)) = fun _ => 0 := (h7 i hi).1 hc
      rw [if_neg (by omega)] at t
      exact t
