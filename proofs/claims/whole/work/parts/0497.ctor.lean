/-! CONSTRUCTORS: what there is behind them -/
/-- nothing but these cells has changed -/
def gSm (S : List Nat) (I I' : gI) : Prop := ∀ k, k ∉ S → I' k = I k
/-- but for the cells S, addresses and descriptors are as they were -/
def gKp (S : List Nat) (V V' : gV) : Prop := ∀ k, k ∉ S → V'.2.1 k = V.2.1 k ∧ V'.2.2 k = V.2.2 k
def gJm (S : List Nat) (J J' : gL) : Prop := ∀ k, k ∉ S → J' k = J k
theorem gfam_r {r ad : Nat → Nat} {b : Nat} (h : ∀ j, j < 6 → ad (b + j) = r j) : (fun j => if j < 6 then some (r j) else none) = gfam ad b 6 := by
  funext j
  unfold gfam
  by_cases hj : j < 6
  · simp [hj, h j hj]
  · simp [hj]
set_option maxRecDepth 100000 in
set_option maxHeartbeats 4000000 in
theorem s_X8_init {mc ms b0 : Nat}  {V : gV} {I : gI} {J : gL} {Po : gV → gI → gL → Prop} (hc : 4 ≤ mc) (hs : 32 ≤ ms) (h0 : 10 ∈ V.1) (ha : V.2.1 10 = b0) (hd : V.2.2 10 = .inl (8, [.inr none, .inr none, .inr none, .inr none, .inl 0])) (hf : ∀ k, 11 ≤ k → k ≤ 14 → k ∉ V.1)
    (hPo : ∀ (V' : gV) (I' : gI), gModTS V' → V'.2.1 10 = b0 → V'.1 = V.1 ++ [11, 12, 13, 14] → gKp [10, 11, 12, 13, 14] V V' → I' 10 4 = 0 → (∀ j, j ∉ [4] → I' 10 j = I 10 j) → I' 11 = (fun _ => 0) → I' 12 = (fun _ => 0) → I' 13 = (fun _ => 0) → I' 14 = (fun _ => 0) → gSm [10, 11, 12, 13, 14] I I' → Po V' I' J) : wA_X8_init mc ms b0  V I J Po := by
  have f11 := hf 11 (by omega) (by omega)
  have f12 := hf 12 (by omega) (by omega)
  have f13 := hf 13 (by omega) (by omega)
  have f14 := hf 14 (by omega) (by omega)
  unfold wA_X8_init
  refine ⟨8, by simp [gadd, gde, gmul, f11], by decide, by decide, by decide, by omega, by omega, ?_⟩
  rintro q11 _ rfl _ rfl
  refine ⟨_, by simp [gadd, gde, gmul, h0], by simp [gadd, gde, gmul, va_up, ha], (show _ = _ from by first | exact hd | (simp only [gadd, gde, gmul, va_up]; simp; exact hd)), by simp, ?_⟩
  rintro _ rfl
  refine ⟨8, by simp [gadd, gde, gmul, f12], by decide, by decide, by decide, by omega, by omega, ?_⟩
  rintro q12 _ rfl _ rfl
  refine ⟨_, by simp [gadd, gde, gmul, h0], by simp [gadd, gde, gmul, va_up, ha], rfl, by simp, ?_⟩
  rintro _ rfl
  refine ⟨8, by simp [gadd, gde, gmul, f13], by decide, by decide, by decide, by omega, by omega, ?_⟩
  rintro q13 _ rfl _ rfl
  refine ⟨_, by simp [gadd, gde, gmul, h0], by simp [gadd, gde, gmul, va_up, ha], rfl, by simp, ?_⟩
  rintro _ rfl
  refine ⟨8, by simp [gadd, gde, gmul, f14], by decide, by decide, by decide, by omega, by omega, ?_⟩
  rintro q14 _ rfl _ rfl
  refine ⟨_, by simp [gadd, gde, gmul, h0], by simp [gadd, gde, gmul, va_up, ha], rfl, by simp, ?_⟩
  rintro _ rfl
  refine ⟨_, by simp [gadd, gde, gmul, h0], by simp [gadd, gde, gmul, va_up, ha], rfl, (by first | rfl | simp), ?_⟩
  rintro _ rfl
  refine hPo _ _ ?_ ?_ ?_ ?_ ?_ ?_ ?_ ?_ ?_ ?_ ?_
  · intro q hq
    simp only [gLsTS, List.mem_cons, List.not_mem_nil, or_false] at hq
    rcases hq with rfl | rfl | rfl | rfl | rfl
    · exact ⟨by simp [gadd, gde, gmul, h0], by first | rfl | (simp [gadd, gde, gmul, va_up, gfam]; done) | (simp only [gadd, gde, gmul, va_up]; simp; rfl) | (simp [gadd, gde, gmul, va_up]; funext j; unfold gfam; by_cases hj : j < 6; · rcases (show j = 0 ∨ j = 1 ∨ j = 2 ∨ j = 3 ∨ j = 4 ∨ j = 5 by omega) with rfl | rfl | rfl | rfl | rfl | rfl <;> simp; · simp [hj])⟩
    · exact ⟨by simp [gadd, gde, gmul, h0], by first | rfl | (simp [gadd, gde, gmul, va_up, gfam]; done) | (simp only [gadd, gde, gmul, va_up]; simp; rfl) | (simp [gadd, gde, gmul, va_up]; funext j; unfold gfam; by_cases hj : j < 6; · rcases (show j = 0 ∨ j = 1 ∨ j = 2 ∨ j = 3 ∨ j = 4 ∨ j = 5 by omega) with rfl | rfl | rfl | rfl | rfl | rfl <;> simp; · simp [hj])⟩
    · exact ⟨by simp [gadd, gde, gmul, h0], by first | rfl | (simp [gadd, gde, gmul, va_up, gfam]; done) | (simp only [gadd, gde, gmul, va_up]; simp; rfl) | (simp [gadd, gde, gmul, va_up]; funext j; unfold gfam; by_cases hj : j < 6; · rcases (show j = 0 ∨ j = 1 ∨ j = 2 ∨ j = 3 ∨ j = 4 ∨ j = 5 by omega) with rfl | rfl | rfl | rfl | rfl | rfl <;> simp; · simp [hj])⟩
    · exact ⟨by simp [gadd, gde, gmul, h0], by first | rfl | (simp [gadd, gde, gmul, va_up, gfam]; done) | (simp only [gadd, gde, gmul, va_up]; simp; rfl) | (simp [gadd, gde, gmul, va_up]; funext j; unfold gfam; by_cases hj : j < 6; · rcases (show j = 0 ∨ j = 1 ∨ j = 2 ∨ j = 3 ∨ j = 4 ∨ j = 5 by omega) with rfl | rfl | rfl | rfl | rfl | rfl <;> simp; · simp [hj])⟩
    · exact ⟨by simp [gadd, gde, gmul, h0], by first | rfl | (simp [gadd, gde, gmul, va_up, gfam]; done) | (simp only [gadd, gde, gmul, va_up]; simp; rfl) | (simp [gadd, gde, gmul, va_up]; funext j; unfold gfam; by_cases hj : j < 6; · rcases (show j = 0 ∨ j = 1 ∨ j = 2 ∨ j = 3 ∨ j = 4 ∨ j = 5 by omega) with rfl | rfl | rfl | rfl | rfl | rfl <;> simp; · simp [hj])⟩
  · simp [gadd, gde, gmul, va_up, ha]
  · simp [gadd, gde, gmul]
  · intro k hk
    simp only [List.mem_cons, List.not_mem_nil, or_false, not_or] at hk
    simp [gadd, gde, gmul, va_up, hk]
  · simp [gup, guc, gmz]
  · intro j hj
    simp only [List.mem_cons, List.not_mem_nil, or_false, not_or] at hj
    simp [gup, guc, gmz, hj]
  · funext j
    simp [gup, guc, gmz]
  · funext j
    simp [gup, guc, gmz]
  · funext j
    simp [gup, guc, gmz]
  · funext j
    simp [gup, guc, gmz]
  · intro k hk
    simp only [List.mem_cons, List.not_mem_nil, or_false, not_or] at hk
    funext j
    simp [gup, guc, gmz, hk]
set_option maxRecDepth 100000 in
set_option maxHeartbeats 4000000 in
theorem s_X1_init {mc ms b0 : Nat}  {V : gV} {I : gI} {J : gL} {Po : gV → gI → gL → Prop} (hc : 2 ≤ mc) (hs : 24 ≤ ms) (h0 : 60 ∈ V.1) (ha : V.2.1 60 = b0) (hd : V.2.2 60 = .inl (1, [.inl 0, .inl 0, .inl 0, .inr none, .inr none, .inl 0, .inl 0, .inl 0, .inl 0])) (hf : ∀ k, 61 ≤ k → k ≤ 62 → k ∉ V.1)
    (hPo : ∀ (V' : gV) (I' : gI), gModCO V' → V'.2.1 60 = b0 → V'.1 = V.1 ++ [61, 62] → gKp [60, 61, 62] V V' → I' 60 0 = 0 → I' 60 1 = 1 → I' 60 2 = 0 → I' 60 5 = 0 → I' 60 6 = 0 → I' 60 7 = -1 → I' 60 8 = 0 → (∀ j, j ∉ [0, 1, 2, 5, 6, 7, 8] → I' 60 j = I 60 j) → I' 61 = (fun _ => 0) → I' 62 = (fun _ => 0) → gSm [60, 61, 62] I I' → Po V' I' J) : wA_X1_init mc ms b0  V I J Po := by
  have f61 := hf 61 (by omega) (by omega)
  have f62 := hf 62 (by omega) (by omega)
  unfold wA_X1_init
  refine ⟨_, by simp [gadd, gde, gmul, h0], by simp [gadd, gde, gmul, va_up, ha], (show _ = _ from by first | exact hd | (simp only [gadd, gde, gmul, va_up]; simp; exact hd)), (by first | rfl | simp), ?_⟩
  rintro _ rfl
  refine ⟨_, by simp [gadd, gde, gmul, h0], by simp [gadd, gde, gmul, va_up, ha], (show _ = _ from by first | exact hd | (simp only [gadd, gde, gmul, va_up]; simp; exact hd)), (by first | rfl | simp), ?_⟩
  rintro _ rfl
  refine ⟨_, by simp [gadd, gde, gmul, h0], by simp [gadd, gde, gmul, va_up, ha], (show _ = _ from by first | exact hd | (simp only [gadd, gde, gmul, va_up]; simp; exact hd)), (by first | rfl | simp), ?_⟩
  rintro _ rfl
  refine ⟨18, by simp [gadd, gde, gmul, f61], by decide, by decide, by decide, by omega, by omega, ?_⟩
  rintro q61 _ rfl _ rfl
  refine ⟨_, by simp [gadd, gde, gmul, h0], by simp [gadd, gde, gmul, va_up, ha], (show _ = _ from by first | exact hd | (simp only [gadd, gde, gmul, va_up]; simp; exact hd)), by simp, ?_⟩
  rintro _ rfl
  refine ⟨6, by simp [gadd, gde, gmul, f62], by decide, by decide, by decide, by omega, by omega, ?_⟩
  rintro q62 _ rfl _ rfl
  refine ⟨_, by simp [gadd, gde, gmul, h0], by simp [gadd, gde, gmul, va_up, ha], rfl, by simp, ?_⟩
  rintro _ rfl
  refine ⟨_, by simp [gadd, gde, gmul, h0], by simp [gadd, gde, gmul, va_up, ha], rfl, (by first | rfl | simp), ?_⟩
  rintro _ rfl
  refine ⟨_, by simp [gadd, gde, gmul, h0], by simp [gadd, gde, gmul, va_up, ha], rfl, (by first | rfl | simp), ?_⟩
  rintro _ rfl
  refine ⟨_, by simp [gadd, gde, gmul, h0], by simp [gadd, gde, gmul, va_up, ha], rfl, (by first | rfl | simp), ?_⟩
  rintro _ rfl
  refine ⟨_, by simp [gadd, gde, gmul, h0], by simp [gadd, gde, gmul, va_up, ha], rfl, (by first | rfl | simp), ?_⟩
  rintro _ rfl
  refine hPo _ _ ?_ ?_ ?_ ?_ ?_ ?_ ?_ ?_ ?_ ?_ ?_ ?_ ?_ ?_ ?_
  · intro q hq
    simp only [gLsCO, List.mem_cons, List.not_mem_nil, or_false] at hq
    rcases hq with rfl | rfl | rfl
    · exact ⟨by simp [gadd, gde, gmul, h0], by first | rfl | (simp [gadd, gde, gmul, va_up, gfam]; done) | (simp only [gadd, gde, gmul, va_up]; simp; rfl) | (simp [gadd, gde, gmul, va_up]; funext j; unfold gfam; by_cases hj : j < 6; · rcases (show j = 0 ∨ j = 1 ∨ j = 2 ∨ j = 3 ∨ j = 4 ∨ j = 5 by omega) with rfl | rfl | rfl | rfl | rfl | rfl <;> simp; · simp [hj])⟩
    · exact ⟨by simp [gadd, gde, gmul, h0], by first | rfl | (simp [gadd, gde, gmul, va_up, gfam]; done) | (simp only [gadd, gde, gmul, va_up]; simp; rfl) | (simp [gadd, gde, gmul, va_up]; funext j; unfold gfam; by_cases hj : j < 6; · rcases (show j = 0 ∨ j = 1 ∨ j = 2 ∨ j = 3 ∨ j = 4 ∨ j = 5 by omega) with rfl | rfl | rfl | rfl | rfl | rfl <;> simp; · simp [hj])⟩
    · exact ⟨by simp [gadd, gde, gmul, h0], by first | rfl | (simp [gadd, gde, gmul, va_up, gfam]; done) | (simp only [gadd, gde, gmul, va_up]; simp; rfl) | (simp [gadd, gde, gmul, va_up]; funext j; unfold gfam; by_cases hj : j < 6; · rcases (show j = 0 ∨ j = 1 ∨ j = 2 ∨ j = 3 ∨ j = 4 ∨ j = 5 by omega) with rfl | rfl | rfl | rfl | rfl | rfl <;> simp; · simp [hj])⟩
  · simp [gadd, gde, gmul, va_up, ha]
  · simp [gadd, gde, gmul]
  · intro k hk
    simp only [List.mem_cons, List.not_mem_nil, or_false, not_or] at hk
    simp [gadd, gde, gmul, va_up, hk]
  · simp [gup, guc, gmz]
  · simp [gup, guc, gmz]
  · simp [gup, guc, gmz]
  · simp [gup, guc, gmz]
  · simp [gup, guc, gmz]
  · simp [gup, guc, gmz]
  · simp [gup, guc, gmz]
  · intro j hj
    simp only [List.mem_cons, List.not_mem_nil, or_false, not_or] at hj
    simp [gup, guc, gmz, hj]
  · funext j
    simp [gup, guc, gmz]
  · funext j
    simp [gup, guc, gmz]
  · intro k hk
    simp only [List.mem_cons, List.not_mem_nil, or_false, not_or] at hk
    funext j
    simp [gup, guc, gmz, hk]
set_option maxRecDepth 100000 in
set_option maxHeartbeats 4000000 in
theorem s_X3_init {mc ms b0 : Nat} {b1 : Nat} {V : gV} {I : gI} {J : gL} {Po : gV → gI → gL → Prop} (hc : 2 ≤ mc) (hs : 42 ≤ ms) (h0 : 99 ∈ V.1) (ha : V.2.1 99 = b0) (hd : V.2.2 99 = .inl (3, [.inr none, .inl 0, .inl 1, .inl 1, .inr none, .inr none])) (hb1 : V.2.1 40 = b1) (hf : ∀ k, 102 ≤ k → k ≤ 103 → k ∉ V.1)
    (hPo : ∀ (V' : gV) (I' : gI) (J' : gL), gModGR V' → V'.2.1 99 = b0 → V'.1 = V.1 ++ [102, 103] → gKp [99, 102, 103] V V' → I' 99 1 = 0 → (∀ j, j ∉ [1] → I' 99 j = I 99 j) → J' 102 = (fun _ => 0) → J' 103 = (fun _ => 0) → gSm [99, 102, 103] I I' → gJm [99, 102, 103] J J' → J' 99 2 = 0 → J' 99 3 = 0 → Po V' I' J') : wA_X3_init mc ms b0 b1 V I J Po := by
  have f102 := hf 102 (by omega) (by omega)
  have f103 := hf 103 (by omega) (by omega)
  unfold wA_X3_init
  refine ⟨_, by simp [gadd, gde, gmul, h0], by simp [gadd, gde, gmul, va_up, ha], (show _ = _ from by first | exact hd | (simp only [gadd, gde, gmul, va_up]; simp; exact hd)), (by first | rfl | simp), ?_⟩
  rintro _ rfl
  refine ⟨_, by simp [gadd, gde, gmul, h0], by simp [gadd, gde, gmul, va_up, ha], (show _ = _ from by first | exact hd | (simp only [gadd, gde, gmul, va_up]; simp; exact hd)), (by first | rfl | simp), ?_⟩
  rintro _ rfl
  refine ⟨_, by simp [gadd, gde, gmul, h0], by simp [gadd, gde, gmul, va_up, ha], (show _ = _ from by first | exact hd | (simp only [gadd, gde, gmul, va_up]; simp; exact hd)), (by first | rfl | simp), ?_⟩
  rintro _ rfl
  refine ⟨21, by simp [gadd, gde, gmul, f102], by decide, by decide, by decide, by omega, by omega, ?_⟩
  rintro q102 _ rfl _ rfl
  refine ⟨_, by simp [gadd, gde, gmul, h0], by simp [gadd, gde, gmul, va_up, ha], (show _ = _ from by first | exact hd | (simp only [gadd, gde, gmul, va_up]; simp; exact hd)), by simp, ?_⟩
  rintro _ rfl
  refine ⟨21, by simp [gadd, gde, gmul, f103], by decide, by decide, by decide, by omega, by omega, ?_⟩
  rintro q103 _ rfl _ rfl
  refine ⟨_, by simp [gadd, gde, gmul, h0], by simp [gadd, gde, gmul, va_up, ha], rfl, by simp, ?_⟩
  rintro _ rfl
  refine ⟨_, by simp [gadd, gde, gmul, h0], by simp [gadd, gde, gmul, va_up, ha], rfl, by simp, ?_⟩
  rintro _ rfl
  refine hPo _ _ _ ?_ ?_ ?_ ?_ ?_ ?_ ?_ ?_ ?_ ?_ ?_ ?_
  · intro q hq
    simp only [gLsGR, List.mem_cons, List.not_mem_nil, or_false] at hq
    rcases hq with rfl | rfl | rfl
    · exact ⟨by simp [gadd, gde, gmul, h0], by first | rfl | (simp [gadd, gde, gmul, va_up, hb1, gfam]; done) | (simp only [gadd, gde, gmul, va_up, hb1]; simp; rfl) | (simp [gadd, gde, gmul, va_up]; funext j; unfold gfam; by_cases hj : j < 6; · rcases (show j = 0 ∨ j = 1 ∨ j = 2 ∨ j = 3 ∨ j = 4 ∨ j = 5 by omega) with rfl | rfl | rfl | rfl | rfl | rfl <;> simp; · simp [hj])⟩
    · exact ⟨by simp [gadd, gde, gmul, h0], by first | rfl | (simp [gadd, gde, gmul, va_up, hb1, gfam]; done) | (simp only [gadd, gde, gmul, va_up, hb1]; simp; rfl) | (simp [gadd, gde, gmul, va_up]; funext j; unfold gfam; by_cases hj : j < 6; · rcases (show j = 0 ∨ j = 1 ∨ j = 2 ∨ j = 3 ∨ j = 4 ∨ j = 5 by omega) with rfl | rfl | rfl | rfl | rfl | rfl <;> simp; · simp [hj])⟩
    · exact ⟨by simp [gadd, gde, gmul, h0], by first | rfl | (simp [gadd, gde, gmul, va_up, hb1, gfam]; done) | (simp only [gadd, gde, gmul, va_up, hb1]; simp; rfl) | (simp [gadd, gde, gmul, va_up]; funext j; unfold gfam; by_cases hj : j < 6; · rcases (show j = 0 ∨ j = 1 ∨ j = 2 ∨ j = 3 ∨ j = 4 ∨ j = 5 by omega) with rfl | rfl | rfl | rfl | rfl | rfl <;> simp; · simp [hj])⟩
  · simp [gadd, gde, gmul, va_up, ha]
  · simp [gadd, gde, gmul]
  · intro k hk
    simp only [List.mem_cons, List.not_mem_nil, or_false, not_or] at hk
    simp [gadd, gde, gmul, va_up, hk]
  · simp [gup, guc, gmz]
  · intro j hj
    simp only [List.mem_cons, List.not_mem_nil, or_false, not_or] at hj
    simp [gup, guc, gmz, hj]
  · funext j
    simp [gup, guc, gmz]
  · funext j
    simp [gup, guc, gmz]
  · intro k hk
    simp only [List.mem_cons, List.not_mem_nil, or_false, not_or] at hk
    funext j
    simp [gup, guc, gmz, hk]
  · intro k hk
    simp only [List.mem_cons, List.not_mem_nil, or_false, not_or] at hk
    funext j
    simp [gup, guc, gmz, hk]
  · simp [gup, guc, gmz]
  · simp [gup, guc, gmz]
set_option maxRecDepth 100000 in
set_option maxHeartbeats 4000000 in
theorem s_X2_init {mc ms b0 : Nat} {b1 : Nat} {V : gV} {I : gI} {J : gL} {Po : gV → gI → gL → Prop} (hc : 4 ≤ mc) (hs : 32896 ≤ ms) (h0 : 94 ∈ V.1) (ha : V.2.1 94 = b0) (hd : V.2.2 94 = .inl (2, [.inr none, .inr none, .inr none, .inr none, .inr none, .inl 0, .inl 0, .inl 0, .inl 0, .inl 0])) (hb1 : V.2.1 20 = b1) (hf : ∀ k, 95 ≤ k → k ≤ 98 → k ∉ V.1)
    (hPo : ∀ (V' : gV) (I' : gI) (J' : gL), gModCV V' → V'.2.1 94 = b0 → V'.1 = V.1 ++ [95, 96, 97, 98] → gKp [94, 95, 96, 97, 98] V V' → I' 94 5 = 0 → I' 94 6 = 0 → I' 94 7 = 0 → I' 94 8 = 0 → I' 94 9 = 0 → (∀ j, j ∉ [5, 6, 7, 8, 9] → I' 94 j = I 94 j) → J' 95 = (fun _ => 0) → J' 96 = (fun _ => 0) → I' 97 = (fun _ => 0) → I' 98 = (fun _ => 0) → gSm [94, 95, 96, 97, 98] I I' → gJm [94, 95, 96, 97, 98] J J' → Po V' I' J') : wA_X2_init mc ms b0 b1 V I J Po := by
  have f95 := hf 95 (by omega) (by omega)
  have f96 := hf 96 (by omega) (by omega)
  have f97 := hf 97 (by omega) (by omega)
  have f98 := hf 98 (by omega) (by omega)
  unfold wA_X2_init
  refine ⟨16384, by simp [gadd, gde, gmul, f95], by decide, by decide, by decide, by omega, by omega, ?_⟩
  rintro q95 _ rfl _ rfl
  refine ⟨_, by simp [gadd, gde, gmul, h0], by simp [gadd, gde, gmul, va_up, ha], (show _ = _ from by first | exact hd | (simp only [gadd, gde, gmul, va_up]; simp; exact hd)), by simp, ?_⟩
  rintro _ rfl
  refine ⟨16384, by simp [gadd, gde, gmul, f96], by decide, by decide, by decide, by omega, by omega, ?_⟩
  rintro q96 _ rfl _ rfl
  refine ⟨_, by simp [gadd, gde, gmul, h0], by simp [gadd, gde, gmul, va_up, ha], rfl, by simp, ?_⟩
  rintro _ rfl
  refine ⟨64, by simp [gadd, gde, gmul, f97], by decide, by decide, by decide, by omega, by omega, ?_⟩
  rintro q97 _ rfl _ rfl
  refine ⟨_, by simp [gadd, gde, gmul, h0], by simp [gadd, gde, gmul, va_up, ha], rfl, by simp, ?_⟩
  rintro _ rfl
  refine ⟨64, by simp [gadd, gde, gmul, f98], by decide, by decide, by decide, by omega, by omega, ?_⟩
  rintro q98 _ rfl _ rfl
  refine ⟨_, by simp [gadd, gde, gmul, h0], by simp [gadd, gde, gmul, va_up, ha], rfl, by simp, ?_⟩
  rintro _ rfl
  refine ⟨_, by simp [gadd, gde, gmul, h0], by simp [gadd, gde, gmul, va_up, ha], rfl, (by first | rfl | simp), ?_⟩
  rintro _ rfl
  refine ⟨_, by simp [gadd, gde, gmul, h0], by simp [gadd, gde, gmul, va_up, ha], rfl, (by first | rfl | simp), ?_⟩
  rintro _ rfl
  refine ⟨_, by simp [gadd, gde, gmul, h0], by simp [gadd, gde, gmul, va_up, ha], rfl, (by first | rfl | simp), ?_⟩
  rintro _ rfl
  refine ⟨_, by simp [gadd, gde, gmul, h0], by simp [gadd, gde, gmul, va_up, ha], rfl, (by first | rfl | simp), ?_⟩
  rintro _ rfl
  refine ⟨_, by simp [gadd, gde, gmul, h0], by simp [gadd, gde, gmul, va_up, ha], rfl, (by first | rfl | simp), ?_⟩
  rintro _ rfl
  refine ⟨_, by simp [gadd, gde, gmul, h0], by simp [gadd, gde, gmul, va_up, ha], rfl, by simp, ?_⟩
  rintro _ rfl
  refine hPo _ _ _ ?_ ?_ ?_ ?_ ?_ ?_ ?_ ?_ ?_ ?_ ?_ ?_ ?_ ?_ ?_ ?_
  · intro q hq
    simp only [gLsCV, List.mem_cons, List.not_mem_nil, or_false] at hq
    rcases hq with rfl | rfl | rfl | rfl | rfl
    · exact ⟨by simp [gadd, gde, gmul, h0], by first | rfl | (simp [gadd, gde, gmul, va_up, hb1, gfam]; done) | (simp only [gadd, gde, gmul, va_up, hb1]; simp; rfl) | (simp [gadd, gde, gmul, va_up]; funext j; unfold gfam; by_cases hj : j < 6; · rcases (show j = 0 ∨ j = 1 ∨ j = 2 ∨ j = 3 ∨ j = 4 ∨ j = 5 by omega) with rfl | rfl | rfl | rfl | rfl | rfl <;> simp; · simp [hj])⟩
    · exact ⟨by simp [gadd, gde, gmul, h0], by first | rfl | (simp [gadd, gde, gmul, va_up, hb1, gfam]; done) | (simp only [gadd, gde, gmul, va_up, hb1]; simp; rfl) | (simp [gadd, gde, gmul, va_up]; funext j; unfold gfam; by_cases hj : j < 6; · rcases (show j = 0 ∨ j = 1 ∨ j = 2 ∨ j = 3 ∨ j = 4 ∨ j = 5 by omega) with rfl | rfl | rfl | rfl | rfl | rfl <;> simp; · simp [hj])⟩
    · exact ⟨by simp [gadd, gde, gmul, h0], by first | rfl | (simp [gadd, gde, gmul, va_up, hb1, gfam]; done) | (simp only [gadd, gde, gmul, va_up, hb1]; simp; rfl) | (simp [gadd, gde, gmul, va_up]; funext j; unfold gfam; by_cases hj : j < 6; · rcases (show j = 0 ∨ j = 1 ∨ j = 2 ∨ j = 3 ∨ j = 4 ∨ j = 5 by omega) with rfl | rfl | rfl | rfl | rfl | rfl <;> simp; · simp [hj])⟩
    · exact ⟨by simp [gadd, gde, gmul, h0], by first | rfl | (simp [gadd, gde, gmul, va_up, hb1, gfam]; done) | (simp only [gadd, gde, gmul, va_up, hb1]; simp; rfl) | (simp [gadd, gde, gmul, va_up]; funext j; unfold gfam; by_cases hj : j < 6; · rcases (show j = 0 ∨ j = 1 ∨ j = 2 ∨ j = 3 ∨ j = 4 ∨ j = 5 by omega) with rfl | rfl | rfl | rfl | rfl | rfl <;> simp; · simp [hj])⟩
    · exact ⟨by simp [gadd, gde, gmul, h0], by first | rfl | (simp [gadd, gde, gmul, va_up, hb1, gfam]; done) | (simp only [gadd, gde, gmul, va_up, hb1]; simp; rfl) | (simp [gadd, gde, gmul, va_up]; funext j; unfold gfam; by_cases hj : j < 6; · rcases (show j = 0 ∨ j = 1 ∨ j = 2 ∨ j = 3 ∨ j = 4 ∨ j = 5 by omega) with rfl | rfl | rfl | rfl | rfl | rfl <;> simp; · simp [hj])⟩
  · simp [gadd, gde, gmul, va_up, ha]
  · simp [gadd, gde, gmul]
  · intro k hk
    simp only [List.mem_cons, List.not_mem_nil, or_false, not_or] at hk
    simp [gadd, gde, gmul, va_up, hk]
  · simp [gup, guc, gmz]
  · simp [gup, guc, gmz]
  · simp [gup, guc, gmz]
  · simp [gup, guc, gmz]
  · simp [gup, guc, gmz]
  · intro j hj
    simp only [List.mem_cons, List.not_mem_nil, or_false, not_or] at hj
    simp [gup, guc, gmz, hj]
  · funext j
    simp [gup, guc, gmz]
  · funext j
    simp [gup, guc, gmz]
  · funext j
    simp [gup, guc, gmz]
  · funext j
    simp [gup, guc, gmz]
  · intro k hk
    simp only [List.mem_cons, List.not_mem_nil, or_false, not_or] at hk
    funext j
    simp [gup, guc, gmz, hk]
  · intro k hk
    simp only [List.mem_cons, List.not_mem_nil, or_false, not_or] at hk
    funext j
    simp [gup, guc, gmz, hk]
set_option maxRecDepth 100000 in
set_option maxHeartbeats 4000000 in
theorem s_X0_init {mc ms b0 : Nat}  {V : gV} {I : gI} {J : gL} {Po : gV → gI → gL → Prop} (hc : 11 ≤ mc) (hs : 84 ≤ ms) (h0 : 40 ∈ V.1) (ha : V.2.1 40 = b0) (hd : V.2.2 40 = .inl (0, [.inl 0, .inl 0, .inr none, .inr none, .inr none, .inr none, .inr none])) (hf : ∀ k, 41 ≤ k → k ≤ 51 → k ∉ V.1)
    (hPo : ∀ (V' : gV) (I' : gI) (J' : gL), gModBL V' → V'.2.1 40 = b0 → V'.1 = V.1 ++ [41, 42, 43, 44, 45, 46, 47, 48, 49, 50, 51] → gKp [40, 41, 42, 43, 44, 45, 46, 47, 48, 49, 50, 51] V V' → I' 40 0 = 1 → I' 40 1 = 2 → (∀ j, j ∉ [0, 1] → I' 40 j = I 40 j) → I' 42 = (fun _ => 0) → I' 43 = (fun _ => 0) → I' 44 = (fun _ => 0) → I' 45 = (fun _ => 0) → I' 46 = (fun _ => 0) → I' 47 = (fun _ => 0) → J' 48 = (fun _ => 0) → J' 49 = (fun _ => 0) → I' 50 = (fun _ => 0) → I' 51 = (fun _ => 0) → gSm [40, 41, 42, 43, 44, 45, 46, 47, 48, 49, 50, 51] I I' → gJm [40, 41, 42, 43, 44, 45, 46, 47, 48, 49, 50, 51] J J' → Po V' I' J') : wA_X0_init mc ms b0  V I J Po := by
  have f41 := hf 41 (by omega) (by omega)
  have f42 := hf 42 (by omega) (by omega)
  have f43 := hf 43 (by omega) (by omega)
  have f44 := hf 44 (by omega) (by omega)
  have f45 := hf 45 (by omega) (by omega)
  have f46 := hf 46 (by omega) (by omega)
  have f47 := hf 47 (by omega) (by omega)
  have f48 := hf 48 (by omega) (by omega)
  have f49 := hf 49 (by omega) (by omega)
  have f50 := hf 50 (by omega) (by omega)
  have f51 := hf 51 (by omega) (by omega)
  unfold wA_X0_init
  refine ⟨_, by simp [gadd, gde, gmul, h0], by simp [gadd, gde, gmul, va_up, ha], (show _ = _ from by first | exact hd | (simp only [gadd, gde, gmul, va_up]; simp; exact hd)), (by first | rfl | simp), ?_⟩
  rintro _ rfl
  refine ⟨_, by simp [gadd, gde, gmul, h0], by simp [gadd, gde, gmul, va_up, ha], (show _ = _ from by first | exact hd | (simp only [gadd, gde, gmul, va_up]; simp; exact hd)), (by first | rfl | simp), ?_⟩
  rintro _ rfl
  refine ⟨?_, by omega, by omega, ?_⟩
  · intro z hz
    rcases (show z = 0 ∨ z = 1 ∨ z = 2 ∨ z = 3 ∨ z = 4 ∨ z = 5 ∨ z = 6 by omega) with rfl | rfl | rfl | rfl | rfl | rfl | rfl <;> simp [gadd, gde, gmul, f41, f42, f43, f44, f45, f46, f47]
  rintro q41 r41 _ rfl _ rfl
  refine ⟨_, by simp [gadd, gde, gmul, h0], by simp [gadd, gde, gmul, va_up, ha], (show _ = _ from by first | exact hd | (simp only [gadd, gde, gmul, va_up]; simp; exact hd)), by simp, ?_⟩
  rintro _ rfl
  refine ⟨6, by simp [gadd, gde, gmul, f48], by decide, by decide, by decide, by omega, by omega, ?_⟩
  rintro q48 _ rfl _ rfl
  refine ⟨_, by simp [gadd, gde, gmul, h0], by simp [gadd, gde, gmul, va_up, ha], rfl, by simp, ?_⟩
  rintro _ rfl
  refine ⟨6, by simp [gadd, gde, gmul, f49], by decide, by decide, by decide, by omega, by omega, ?_⟩
  rintro q49 _ rfl _ rfl
  refine ⟨_, by simp [gadd, gde, gmul, h0], by simp [gadd, gde, gmul, va_up, ha], rfl, by simp, ?_⟩
  rintro _ rfl
  refine ⟨6, by simp [gadd, gde, gmul, f50], by decide, by decide, by decide, by omega, by omega, ?_⟩
  rintro q50 _ rfl _ rfl
  refine ⟨_, by simp [gadd, gde, gmul, h0], by simp [gadd, gde, gmul, va_up, ha], rfl, by simp, ?_⟩
  rintro _ rfl
  refine ⟨6, by simp [gadd, gde, gmul, f51], by decide, by decide, by decide, by omega, by omega, ?_⟩
  rintro q51 _ rfl _ rfl
  refine ⟨_, by simp [gadd, gde, gmul, h0], by simp [gadd, gde, gmul, va_up, ha], rfl, by simp, ?_⟩
  rintro _ rfl
  refine hPo _ _ _ ?_ ?_ ?_ ?_ ?_ ?_ ?_ ?_ ?_ ?_ ?_ ?_ ?_ ?_ ?_ ?_ ?_ ?_ ?_
  · intro q hq
    simp only [gLsBL, List.mem_cons, List.not_mem_nil, or_false] at hq
    rcases hq with rfl | rfl | rfl | rfl | rfl | rfl | rfl | rfl | rfl | rfl | rfl | rfl
    · exact ⟨by simp [gadd, gde, gmul, h0], by first | rfl | (simp [gadd, gde, gmul, va_up, gfam]; done) | (simp only [gadd, gde, gmul, va_up]; simp; rfl) | (simp [gadd, gde, gmul, va_up]; funext j; unfold gfam; by_cases hj : j < 6; · rcases (show j = 0 ∨ j = 1 ∨ j = 2 ∨ j = 3 ∨ j = 4 ∨ j = 5 by omega) with rfl | rfl | rfl | rfl | rfl | rfl <;> simp; · simp [hj])⟩
    · exact ⟨by simp [gadd, gde, gmul, h0], congrArg (fun z => (Sum.inr (4, 6, z) : gD)) (gfam_r (fun j hj => by rcases (show j = 0 ∨ j = 1 ∨ j = 2 ∨ j = 3 ∨ j = 4 ∨ j = 5 by omega) with rfl | rfl | rfl | rfl | rfl | rfl <;> rfl))⟩
    · exact ⟨by simp [gadd, gde, gmul, h0], by first | rfl | (simp [gadd, gde, gmul, va_up, gfam]; done) | (simp only [gadd, gde, gmul, va_up]; simp; rfl) | (simp [gadd, gde, gmul, va_up]; funext j; unfold gfam; by_cases hj : j < 6; · rcases (show j = 0 ∨ j = 1 ∨ j = 2 ∨ j = 3 ∨ j = 4 ∨ j = 5 by omega) with rfl | rfl | rfl | rfl | rfl | rfl <;> simp; · simp [hj])⟩
    · exact ⟨by simp [gadd, gde, gmul, h0], by first | rfl | (simp [gadd, gde, gmul, va_up, gfam]; done) | (simp only [gadd, gde, gmul, va_up]; simp; rfl) | (simp [gadd, gde, gmul, va_up]; funext j; unfold gfam; by_cases hj : j < 6; · rcases (show j = 0 ∨ j = 1 ∨ j = 2 ∨ j = 3 ∨ j = 4 ∨ j = 5 by omega) with rfl | rfl | rfl | rfl | rfl | rfl <;> simp; · simp [hj])⟩
    · exact ⟨by simp [gadd, gde, gmul, h0], by first | rfl | (simp [gadd, gde, gmul, va_up, gfam]; done) | (simp only [gadd, gde, gmul, va_up]; simp; rfl) | (simp [gadd, gde, gmul, va_up]; funext j; unfold gfam; by_cases hj : j < 6; · rcases (show j = 0 ∨ j = 1 ∨ j = 2 ∨ j = 3 ∨ j = 4 ∨ j = 5 by omega) with rfl | rfl | rfl | rfl | rfl | rfl <;> simp; · simp [hj])⟩
    · exact ⟨by simp [gadd, gde, gmul, h0], by first | rfl | (simp [gadd, gde, gmul, va_up, gfam]; done) | (simp only [gadd, gde, gmul, va_up]; simp; rfl) | (simp [gadd, gde, gmul, va_up]; funext j; unfold gfam; by_cases hj : j < 6; · rcases (show j = 0 ∨ j = 1 ∨ j = 2 ∨ j = 3 ∨ j = 4 ∨ j = 5 by omega) with rfl | rfl | rfl | rfl | rfl | rfl <;> simp; · simp [hj])⟩
    · exact ⟨by simp [gadd, gde, gmul, h0], by first | rfl | (simp [gadd, gde, gmul, va_up, gfam]; done) | (simp only [gadd, gde, gmul, va_up]; simp; rfl) | (simp [gadd, gde, gmul, va_up]; funext j; unfold gfam; by_cases hj : j < 6; · rcases (show j = 0 ∨ j = 1 ∨ j = 2 ∨ j = 3 ∨ j = 4 ∨ j = 5 by omega) with rfl | rfl | rfl | rfl | rfl | rfl <;> simp; · simp [hj])⟩
    · exact ⟨by simp [gadd, gde, gmul, h0], by first | rfl | (simp [gadd, gde, gmul, va_up, gfam]; done) | (simp only [gadd, gde, gmul, va_up]; simp; rfl) | (simp [gadd, gde, gmul, va_up]; funext j; unfold gfam; by_cases hj : j < 6; · rcases (show j = 0 ∨ j = 1 ∨ j = 2 ∨ j = 3 ∨ j = 4 ∨ j = 5 by omega) with rfl | rfl | rfl | rfl | rfl | rfl <;> simp; · simp [hj])⟩
    · exact ⟨by simp [gadd, gde, gmul, h0], by first | rfl | (simp [gadd, gde, gmul, va_up, gfam]; done) | (simp only [gadd, gde, gmul, va_up]; simp; rfl) | (simp [gadd, gde, gmul, va_up]; funext j; unfold gfam; by_cases hj : j < 6; · rcases (show j = 0 ∨ j = 1 ∨ j = 2 ∨ j = 3 ∨ j = 4 ∨ j = 5 by omega) with rfl | rfl | rfl | rfl | rfl | rfl <;> simp; · simp [hj])⟩
    · exact ⟨by simp [gadd, gde, gmul, h0], by first | rfl | (simp [gadd, gde, gmul, va_up, gfam]; done) | (simp only [gadd, gde, gmul, va_up]; simp; rfl) | (simp [gadd, gde, gmul, va_up]; funext j; unfold gfam; by_cases hj : j < 6; · rcases (show j = 0 ∨ j = 1 ∨ j = 2 ∨ j = 3 ∨ j = 4 ∨ j = 5 by omega) with rfl | rfl | rfl | rfl | rfl | rfl <;> simp; · simp [hj])⟩
    · exact ⟨by simp [gadd, gde, gmul, h0], by first | rfl | (simp [gadd, gde, gmul, va_up, gfam]; done) | (simp only [gadd, gde, gmul, va_up]; simp; rfl) | (simp [gadd, gde, gmul, va_up]; funext j; unfold gfam; by_cases hj : j < 6; · rcases (show j = 0 ∨ j = 1 ∨ j = 2 ∨ j = 3 ∨ j = 4 ∨ j = 5 by omega) with rfl | rfl | rfl | rfl | rfl | rfl <;> simp; · simp [hj])⟩
    · exact ⟨by simp [gadd, gde, gmul, h0], by first | rfl | (simp [gadd, gde, gmul, va_up, gfam]; done) | (simp only [gadd, gde, gmul, va_up]; simp; rfl) | (simp [gadd, gde, gmul, va_up]; funext j; unfold gfam; by_cases hj : j < 6; · rcases (show j = 0 ∨ j = 1 ∨ j = 2 ∨ j = 3 ∨ j = 4 ∨ j = 5 by omega) with rfl | rfl | rfl | rfl | rfl | rfl <;> simp; · simp [hj])⟩
  · simp [gadd, gde, gmul, va_up, ha]
  · simp [gadd, gde, gmul]
  · intro k hk
    simp only [List.mem_cons, List.not_mem_nil, or_false, not_or] at hk
    simp [gadd, gde, gmul, va_up, hk]
  · simp [gup, guc, gmz]
  · simp [gup, guc, gmz]
  · intro j hj
    simp only [List.mem_cons, List.not_mem_nil, or_false, not_or] at hj
    simp [gup, guc, gmz, hj]
  · funext j
    simp [gup, guc, gmz]
  · funext j
    simp [gup, guc, gmz]
  · funext j
    simp [gup, guc, gmz]
  · funext j
    simp [gup, guc, gmz]
  · funext j
    simp [gup, guc, gmz]
  · funext j
    simp [gup, guc, gmz]
  · funext j
    simp [gup, guc, gmz]
  · funext j
    simp [gup, guc, gmz]
  · funext j
    simp [gup, guc, gmz]
  · funext j
    simp [gup, guc, gmz]
  · intro k hk
    simp only [List.mem_cons, List.not_mem_nil, or_false, not_or] at hk
    funext j
    simp [gup, guc, gmz, hk]
  · intro k hk
    simp only [List.mem_cons, List.not_mem_nil, or_false, not_or] at hk
    funext j
    simp [gup, guc, gmz, hk]
set_option maxRecDepth 100000 in
set_option maxHeartbeats 4000000 in
theorem s_X4_init {mc ms b0 : Nat}  {V : gV} {I : gI} {J : gL} {Po : gV → gI → gL → Prop} (hc : 17 ≤ mc) (hs : 1108 ≤ ms) (h0 : 20 ∈ V.1) (ha : V.2.1 20 = b0) (hd : V.2.2 20 = .inl (4, [.inl 0, .inl 0, .inl 0, .inl 0, .inl 0, .inl 0, .inl 0, .inl 0, .inr none, .inr none, .inr none, .inr none, .inr none])) (hf : ∀ k, 21 ≤ k → k ≤ 37 → k ∉ V.1)
    (hPo : ∀ (V' : gV) (I' : gI), gModJG V' → V'.2.1 20 = b0 → V'.1 = V.1 ++ [21, 22, 23, 24, 25, 26, 27, 28, 29, 30, 31, 32, 33, 34, 35, 36, 37] → gKp [20, 21, 22, 23, 24, 25, 26, 27, 28, 29, 30, 31, 32, 33, 34, 35, 36, 37] V V' → I' 20 0 = 0 → I' 20 1 = 1 → I' 20 2 = 1 → I' 20 3 = 0 → I' 20 4 = 1 → I' 20 5 = 1 → I' 20 6 = 1 → I' 20 7 = 0 → (∀ j, j ∉ [0, 1, 2, 3, 4, 5, 6, 7] → I' 20 j = I 20 j) → I' 21 = (fun _ => 0) → I' 23 = (fun _ => 0) → I' 24 = (fun _ => 0) → I' 25 = (fun _ => 0) → I' 26 = (fun _ => 0) → I' 27 = (fun _ => 0) → I' 28 = (fun _ => 0) → I' 30 = (fun _ => 0) → I' 31 = (fun _ => 0) → I' 32 = (fun _ => 0) → I' 33 = (fun _ => 0) → I' 34 = (fun _ => 0) → I' 35 = (fun _ => 0) → I' 36 = (fun _ => 0) → I' 37 = (fun _ => 0) → gSm [20, 21, 22, 23, 24, 25, 26, 27, 28, 29, 30, 31, 32, 33, 34, 35, 36, 37] I I' → Po V' I' J) : wA_X4_init mc ms b0  V I J Po := by
  have f21 := hf 21 (by omega) (by omega)
  have f22 := hf 22 (by omega) (by omega)
  have f23 := hf 23 (by omega) (by omega)
  have f24 := hf 24 (by omega) (by omega)
  have f25 := hf 25 (by omega) (by omega)
  have f26 := hf 26 (by omega) (by omega)
  have f27 := hf 27 (by omega) (by omega)
  have f28 := hf 28 (by omega) (by omega)
  have f29 := hf 29 (by omega) (by omega)
  have f30 := hf 30 (by omega) (by omega)
  have f31 := hf 31 (by omega) (by omega)
  have f32 := hf 32 (by omega) (by omega)
  have f33 := hf 33 (by omega) (by omega)
  have f34 := hf 34 (by omega) (by omega)
  have f35 := hf 35 (by omega) (by omega)
  have f36 := hf 36 (by omega) (by omega)
  have f37 := hf 37 (by omega) (by omega)
  unfold wA_X4_init
  refine ⟨_, by simp [gadd, gde, gmul, h0], by simp [gadd, gde, gmul, va_up, ha], (show _ = _ from by first | exact hd | (simp only [gadd, gde, gmul, va_up]; simp; exact hd)), (by first | rfl | simp), ?_⟩
  rintro _ rfl
  refine ⟨_, by simp [gadd, gde, gmul, h0], by simp [gadd, gde, gmul, va_up, ha], (show _ = _ from by first | exact hd | (simp only [gadd, gde, gmul, va_up]; simp; exact hd)), (by first | rfl | simp), ?_⟩
  rintro _ rfl
  refine ⟨_, by simp [gadd, gde, gmul, h0], by simp [gadd, gde, gmul, va_up, ha], (show _ = _ from by first | exact hd | (simp only [gadd, gde, gmul, va_up]; simp; exact hd)), (by first | rfl | simp), ?_⟩
  rintro _ rfl
  refine ⟨_, by simp [gadd, gde, gmul, h0], by simp [gadd, gde, gmul, va_up, ha], (show _ = _ from by first | exact hd | (simp only [gadd, gde, gmul, va_up]; simp; exact hd)), (by first | rfl | simp), ?_⟩
  rintro _ rfl
  refine ⟨_, by simp [gadd, gde, gmul, h0], by simp [gadd, gde, gmul, va_up, ha], (show _ = _ from by first | exact hd | (simp only [gadd, gde, gmul, va_up]; simp; exact hd)), (by first | rfl | simp), ?_⟩
  rintro _ rfl
  refine ⟨_, by simp [gadd, gde, gmul, h0], by simp [gadd, gde, gmul, va_up, ha], (show _ = _ from by first | exact hd | (simp only [gadd, gde, gmul, va_up]; simp; exact hd)), (by first | rfl | simp), ?_⟩
  rintro _ rfl
  refine ⟨_, by simp [gadd, gde, gmul, h0], by simp [gadd, gde, gmul, va_up, ha], (show _ = _ from by first | exact hd | (simp only [gadd, gde, gmul, va_up]; simp; exact hd)), (by first | rfl | simp), ?_⟩
  rintro _ rfl
  refine ⟨_, by simp [gadd, gde, gmul, h0], by simp [gadd, gde, gmul, va_up, ha], (show _ = _ from by first | exact hd | (simp only [gadd, gde, gmul, va_up]; simp; exact hd)), (by first | rfl | simp), ?_⟩
  rintro _ rfl
  refine ⟨6, by simp [gadd, gde, gmul, f21], by decide, by decide, by decide, by omega, by omega, ?_⟩
  rintro q21 _ rfl _ rfl
  refine ⟨_, by simp [gadd, gde, gmul, h0], by simp [gadd, gde, gmul, va_up, ha], (show _ = _ from by first | exact hd | (simp only [gadd, gde, gmul, va_up]; simp; exact hd)), by simp, ?_⟩
  rintro _ rfl
  refine ⟨?_, by omega, by omega, ?_⟩
  · intro z hz
    rcases (show z = 0 ∨ z = 1 ∨ z = 2 ∨ z = 3 ∨ z = 4 ∨ z = 5 ∨ z = 6 by omega) with rfl | rfl | rfl | rfl | rfl | rfl | rfl <;> simp [gadd, gde, gmul, f22, f23, f24, f25, f26, f27, f28]
  rintro q22 r22 _ rfl _ rfl
  refine ⟨_, by simp [gadd, gde, gmul, h0], by simp [gadd, gde, gmul, va_up, ha], rfl, by simp, ?_⟩
  rintro _ rfl
  refine ⟨?_, by omega, by omega, ?_⟩
  · intro z hz
    rcases (show z = 0 ∨ z = 1 ∨ z = 2 ∨ z = 3 ∨ z = 4 ∨ z = 5 ∨ z = 6 by omega) with rfl | rfl | rfl | rfl | rfl | rfl | rfl <;> simp [gadd, gde, gmul, f29, f30, f31, f32, f33, f34, f35]
  rintro q29 r29 _ rfl _ rfl
  refine ⟨_, by simp [gadd, gde, gmul, h0], by simp [gadd, gde, gmul, va_up, ha], rfl, by simp, ?_⟩
  rintro _ rfl
  refine ⟨5, by simp [gadd, gde, gmul, f36], by decide, by decide, by decide, by omega, by omega, ?_⟩
  rintro q36 _ rfl _ rfl
  refine ⟨_, by simp [gadd, gde, gmul, h0], by simp [gadd, gde, gmul, va_up, ha], rfl, by simp, ?_⟩
  rintro _ rfl
  refine ⟨5, by simp [gadd, gde, gmul, f37], by decide, by decide, by decide, by omega, by omega, ?_⟩
  rintro q37 _ rfl _ rfl
  refine ⟨_, by simp [gadd, gde, gmul, h0], by simp [gadd, gde, gmul, va_up, ha], rfl, by simp, ?_⟩
  rintro _ rfl
  refine hPo _ _ ?_ ?_ ?_ ?_ ?_ ?_ ?_ ?_ ?_ ?_ ?_ ?_ ?_ ?_ ?_ ?_ ?_ ?_ ?_ ?_ ?_ ?_ ?_ ?_ ?_ ?_ ?_ ?_ ?_
  · intro q hq
    simp only [gLsJG, List.mem_cons, List.not_mem_nil, or_false] at hq
    rcases hq with rfl | rfl | rfl | rfl | rfl | rfl | rfl | rfl | rfl | rfl | rfl | rfl | rfl | rfl | rfl | rfl | rfl | rfl
    · exact ⟨by simp [gadd, gde, gmul, h0], by first | rfl | (simp [gadd, gde, gmul, va_up, gfam]; done) | (simp only [gadd, gde, gmul, va_up]; simp; rfl) | (simp [gadd, gde, gmul, va_up]; funext j; unfold gfam; by_cases hj : j < 6; · rcases (show j = 0 ∨ j = 1 ∨ j = 2 ∨ j = 3 ∨ j = 4 ∨ j = 5 by omega) with rfl | rfl | rfl | rfl | rfl | rfl <;> simp; · simp [hj])⟩
    · exact ⟨by simp [gadd, gde, gmul, h0], by first | rfl | (simp [gadd, gde, gmul, va_up, gfam]; done) | (simp only [gadd, gde, gmul, va_up]; simp; rfl) | (simp [gadd, gde, gmul, va_up]; funext j; unfold gfam; by_cases hj : j < 6; · rcases (show j = 0 ∨ j = 1 ∨ j = 2 ∨ j = 3 ∨ j = 4 ∨ j = 5 by omega) with rfl | rfl | rfl | rfl | rfl | rfl <;> simp; · simp [hj])⟩
    · exact ⟨by simp [gadd, gde, gmul, h0], congrArg (fun z => (Sum.inr (4, 6, z) : gD)) (gfam_r (fun j hj => by rcases (show j = 0 ∨ j = 1 ∨ j = 2 ∨ j = 3 ∨ j = 4 ∨ j = 5 by omega) with rfl | rfl | rfl | rfl | rfl | rfl <;> rfl))⟩
    · exact ⟨by simp [gadd, gde, gmul, h0], by first | rfl | (simp [gadd, gde, gmul, va_up, gfam]; done) | (simp only [gadd, gde, gmul, va_up]; simp; rfl) | (simp [gadd, gde, gmul, va_up]; funext j; unfold gfam; by_cases hj : j < 6; · rcases (show j = 0 ∨ j = 1 ∨ j = 2 ∨ j = 3 ∨ j = 4 ∨ j = 5 by omega) with rfl | rfl | rfl | rfl | rfl | rfl <;> simp; · simp [hj])⟩
    · exact ⟨by simp [gadd, gde, gmul, h0], by first | rfl | (simp [gadd, gde, gmul, va_up, gfam]; done) | (simp only [gadd, gde, gmul, va_up]; simp; rfl) | (simp [gadd, gde, gmul, va_up]; funext j; unfold gfam; by_cases hj : j < 6; · rcases (show j = 0 ∨ j = 1 ∨ j = 2 ∨ j = 3 ∨ j = 4 ∨ j = 5 by omega) with rfl | rfl | rfl | rfl | rfl | rfl <;> simp; · simp [hj])⟩
    · exact ⟨by simp [gadd, gde, gmul, h0], by first | rfl | (simp [gadd, gde, gmul, va_up, gfam]; done) | (simp only [gadd, gde, gmul, va_up]; simp; rfl) | (simp [gadd, gde, gmul, va_up]; funext j; unfold gfam; by_cases hj : j < 6; · rcases (show j = 0 ∨ j = 1 ∨ j = 2 ∨ j = 3 ∨ j = 4 ∨ j = 5 by omega) with rfl | rfl | rfl | rfl | rfl | rfl <;> simp; · simp [hj])⟩
    · exact ⟨by simp [gadd, gde, gmul, h0], by first | rfl | (simp [gadd, gde, gmul, va_up, gfam]; done) | (simp only [gadd, gde, gmul, va_up]; simp; rfl) | (simp [gadd, gde, gmul, va_up]; funext j; unfold gfam; by_cases hj : j < 6; · rcases (show j = 0 ∨ j = 1 ∨ j = 2 ∨ j = 3 ∨ j = 4 ∨ j = 5 by omega) with rfl | rfl | rfl | rfl | rfl | rfl <;> simp; · simp [hj])⟩
    · exact ⟨by simp [gadd, gde, gmul, h0], by first | rfl | (simp [gadd, gde, gmul, va_up, gfam]; done) | (simp only [gadd, gde, gmul, va_up]; simp; rfl) | (simp [gadd, gde, gmul, va_up]; funext j; unfold gfam; by_cases hj : j < 6; · rcases (show j = 0 ∨ j = 1 ∨ j = 2 ∨ j = 3 ∨ j = 4 ∨ j = 5 by omega) with rfl | rfl | rfl | rfl | rfl | rfl <;> simp; · simp [hj])⟩
    · exact ⟨by simp [gadd, gde, gmul, h0], by first | rfl | (simp [gadd, gde, gmul, va_up, gfam]; done) | (simp only [gadd, gde, gmul, va_up]; simp; rfl) | (simp [gadd, gde, gmul, va_up]; funext j; unfold gfam; by_cases hj : j < 6; · rcases (show j = 0 ∨ j = 1 ∨ j = 2 ∨ j = 3 ∨ j = 4 ∨ j = 5 by omega) with rfl | rfl | rfl | rfl | rfl | rfl <;> simp; · simp [hj])⟩
    · exact ⟨by simp [gadd, gde, gmul, h0], congrArg (fun z => (Sum.inr (4, 6, z) : gD)) (gfam_r (fun j hj => by rcases (show j = 0 ∨ j = 1 ∨ j = 2 ∨ j = 3 ∨ j = 4 ∨ j = 5 by omega) with rfl | rfl | rfl | rfl | rfl | rfl <;> rfl))⟩
    · exact ⟨by simp [gadd, gde, gmul, h0], by first | rfl | (simp [gadd, gde, gmul, va_up, gfam]; done) | (simp only [gadd, gde, gmul, va_up]; simp; rfl) | (simp [gadd, gde, gmul, va_up]; funext j; unfold gfam; by_cases hj : j < 6; · rcases (show j = 0 ∨ j = 1 ∨ j = 2 ∨ j = 3 ∨ j = 4 ∨ j = 5 by omega) with rfl | rfl | rfl | rfl | rfl | rfl <;> simp; · simp [hj])⟩
    · exact ⟨by simp [gadd, gde, gmul, h0], by first | rfl | (simp [gadd, gde, gmul, va_up, gfam]; done) | (simp only [gadd, gde, gmul, va_up]; simp; rfl) | (simp [gadd, gde, gmul, va_up]; funext j; unfold gfam; by_cases hj : j < 6; · rcases (show j = 0 ∨ j = 1 ∨ j = 2 ∨ j = 3 ∨ j = 4 ∨ j = 5 by omega) with rfl | rfl | rfl | rfl | rfl | rfl <;> simp; · simp [hj])⟩
    · exact ⟨by simp [gadd, gde, gmul, h0], by first | rfl | (simp [gadd, gde, gmul, va_up, gfam]; done) | (simp only [gadd, gde, gmul, va_up]; simp; rfl) | (simp [gadd, gde, gmul, va_up]; funext j; unfold gfam; by_cases hj : j < 6; · rcases (show j = 0 ∨ j = 1 ∨ j = 2 ∨ j = 3 ∨ j = 4 ∨ j = 5 by omega) with rfl | rfl | rfl | rfl | rfl | rfl <;> simp; · simp [hj])⟩
    · exact ⟨by simp [gadd, gde, gmul, h0], by first | rfl | (simp [gadd, gde, gmul, va_up, gfam]; done) | (simp only [gadd, gde, gmul, va_up]; simp; rfl) | (simp [gadd, gde, gmul, va_up]; funext j; unfold gfam; by_cases hj : j < 6; · rcases (show j = 0 ∨ j = 1 ∨ j = 2 ∨ j = 3 ∨ j = 4 ∨ j = 5 by omega) with rfl | rfl | rfl | rfl | rfl | rfl <;> simp; · simp [hj])⟩
    · exact ⟨by simp [gadd, gde, gmul, h0], by first | rfl | (simp [gadd, gde, gmul, va_up, gfam]; done) | (simp only [gadd, gde, gmul, va_up]; simp; rfl) | (simp [gadd, gde, gmul, va_up]; funext j; unfold gfam; by_cases hj : j < 6; · rcases (show j = 0 ∨ j = 1 ∨ j = 2 ∨ j = 3 ∨ j = 4 ∨ j = 5 by omega) with rfl | rfl | rfl | rfl | rfl | rfl <;> simp; · simp [hj])⟩
    · exact ⟨by simp [gadd, gde, gmul, h0], by first | rfl | (simp [gadd, gde, gmul, va_up, gfam]; done) | (simp only [gadd, gde, gmul, va_up]; simp; rfl) | (simp [gadd, gde, gmul, va_up]; funext j; unfold gfam; by_cases hj : j < 6; · rcases (show j = 0 ∨ j = 1 ∨ j = 2 ∨ j = 3 ∨ j = 4 ∨ j = 5 by omega) with rfl | rfl | rfl | rfl | rfl | rfl <;> simp; · simp [hj])⟩
    · exact ⟨by simp [gadd, gde, gmul, h0], by first | rfl | (simp [gadd, gde, gmul, va_up, gfam]; done) | (simp only [gadd, gde, gmul, va_up]; simp; rfl) | (simp [gadd, gde, gmul, va_up]; funext j; unfold gfam; by_cases hj : j < 6; · rcases (show j = 0 ∨ j = 1 ∨ j = 2 ∨ j = 3 ∨ j = 4 ∨ j = 5 by omega) with rfl | rfl | rfl | rfl | rfl | rfl <;> simp; · simp [hj])⟩
    · exact ⟨by simp [gadd, gde, gmul, h0], by first | rfl | (simp [gadd, gde, gmul, va_up, gfam]; done) | (simp only [gadd, gde, gmul, va_up]; simp; rfl) | (simp [gadd, gde, gmul, va_up]; funext j; unfold gfam; by_cases hj : j < 6; · rcases (show j = 0 ∨ j = 1 ∨ j = 2 ∨ j = 3 ∨ j = 4 ∨ j = 5 by omega) with rfl | rfl | rfl | rfl | rfl | rfl <;> simp; · simp [hj])⟩
  · simp [gadd, gde, gmul, va_up, ha]
  · simp [gadd, gde, gmul]
  · intro k hk
    simp only [List.mem_cons, List.not_mem_nil, or_false, not_or] at hk
    simp [gadd, gde, gmul, va_up, hk]
  · simp [gup, guc, gmz]
  · simp [gup, guc, gmz]
  · simp [gup, guc, gmz]
  · simp [gup, guc, gmz]
  · simp [gup, guc, gmz]
  · simp [gup, guc, gmz]
  · simp [gup, guc, gmz]
  · simp [gup, guc, gmz]
  · intro j hj
    simp only [List.mem_cons, List.not_mem_nil, or_false, not_or] at hj
    simp [gup, guc, gmz, hj]
  · funext j
    simp [gup, guc, gmz]
  · funext j
    simp [gup, guc, gmz]
  · funext j
    simp [gup, guc, gmz]
  · funext j
    simp [gup, guc, gmz]
  · funext j
    simp [gup, guc, gmz]
  · funext j
    simp [gup, guc, gmz]
  · funext j
    simp [gup, guc, gmz]
  · funext j
    simp [gup, guc, gmz]
  · funext j
    simp [gup, guc, gmz]
  · funext j
    simp [gup, guc, gmz]
  · funext j
    simp [gup, guc, gmz]
  · funext j
    simp [gup, guc, gmz]
  · funext j
    simp [gup, guc, gmz]
  · funext j
    simp [gup, guc, gmz]
  · funext j
    simp [gup, guc, gmz]
  · intro k hk
    simp only [List.mem_cons, List.not_mem_nil, or_false, not_or] at hk
    funext j
    simp [gup, guc, gmz, hk]
