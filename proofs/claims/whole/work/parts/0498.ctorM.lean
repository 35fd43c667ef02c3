set_option maxRecDepth 100000 in
set_option maxHeartbeats 4000000 in
theorem s_X10_init {mc ms b0 : Nat}  {V : gV} {I : gI} {J : gL} {Po : gV → gI → gL → Prop} (hc : 30 ≤ mc) (hs : 3243189 ≤ ms) (h0 : 200 ∈ V.1) (ha : V.2.1 200 = b0) (hd : V.2.2 200 = .inl (10, [.inl 0, .inr none, .inr none, .inr none, .inr none, .inl 0, .inr none, .inr none, .inr none, .inr none, .inr none, .inl 0, .inr none, .inl 0, .inl 0, .inl 0, .inl 0, .inl 0, .inr none, .inr none, .inr none, .inr none, .inr none, .inr none, .inr none, .inr none, .inr none, .inr none, .inr none, .inl 1, .inl 0, .inl 0, .inl 0, .inr none, .inr none, .inr none, .inr none, .inr none, .inr none, .inr none, .inl 0, .inl 0, .inr none, .inr none, .inl 0])) (hf : ∀ k, 201 ≤ k → k ≤ 230 → k ∉ V.1)
    (hPo : ∀ (V' : gV) (I' : gI) (J' : gL), gModM V' → V'.2.1 200 = b0 → V'.1 = V.1 ++ [201, 202, 203, 204, 205, 206, 207, 208, 209, 210, 211, 212, 213, 214, 215, 216, 217, 218, 219, 220, 221, 222, 223, 224, 225, 226, 227, 228, 229, 230] → gKp [200, 201, 202, 203, 204, 205, 206, 207, 208, 209, 210, 211, 212, 213, 214, 215, 216, 217, 218, 219, 220, 221, 222, 223, 224, 225, 226, 227, 228, 229, 230] V V' → I' 200 13 = 1 → I' 200 14 = 1 → I' 200 16 = 1 → I' 200 17 = 1 → I' 200 31 = 1 → I' 200 32 = 2 → I' 200 40 = 1 → (∀ j, j ∉ [13, 14, 16, 17, 31, 32, 40] → I' 200 j = I 200 j) → I' 201 = (fun _ => 0) → I' 202 = (fun _ => 0) → I' 203 = (fun _ => 0) → I' 204 = (fun _ => 0) → I' 205 = (fun _ => 0) → J' 206 = (fun _ => 0) → I' 207 = (fun _ => 0) → J' 208 = (fun _ => 0) → J' 209 = (fun _ => 0) → I' 210 = (fun _ => 0) → I' 211 = (fun _ => 0) → I' 212 = (fun _ => 0) → I' 213 = (fun _ => 0) → I' 214 = (fun _ => 0) → I' 215 = (fun _ => 0) → J' 216 = (fun _ => 0) → I' 217 = (fun _ => 0) → I' 218 = (fun _ => 0) → I' 219 = (fun _ => 0) → I' 220 = (fun _ => 0) → I' 221 = (fun _ => 0) → I' 222 = (fun _ => 0) → J' 223 = (fun _ => 0) → J' 224 = (fun _ => 0) → I' 225 = (fun _ => 0) → I' 226 = (fun _ => 0) → I' 227 = (fun _ => 0) → I' 228 = (fun _ => 0) → I' 229 = (fun _ => 0) → I' 230 = (fun _ => 0) → gSm [200, 201, 202, 203, 204, 205, 206, 207, 208, 209, 210, 211, 212, 213, 214, 215, 216, 217, 218, 219, 220, 221, 222, 223, 224, 225, 226, 227, 228, 229, 230] I I' → gJm [200, 201, 202, 203, 204, 205, 206, 207, 208, 209, 210, 211, 212, 213, 214, 215, 216, 217, 218, 219, 220, 221, 222, 223, 224, 225, 226, 227, 228, 229, 230] J J' → Po V' I' J') : wA_X10_init mc ms b0  V I J Po := by
  have f201 := hf 201 (by omega) (by omega)
  have f202 := hf 202 (by omega) (by omega)
  have f203 := hf 203 (by omega) (by omega)
  have f204 := hf 204 (by omega) (by omega)
  have f205 := hf 205 (by omega) (by omega)
  have f206 := hf 206 (by omega) (by omega)
  have f207 := hf 207 (by omega) (by omega)
  have f208 := hf 208 (by omega) (by omega)
  have f209 := hf 209 (by omega) (by omega)
  have f210 := hf 210 (by omega) (by omega)
  have f211 := hf 211 (by omega) (by omega)
  have f212 := hf 212 (by omega) (by omega)
  have f213 := hf 213 (by omega) (by omega)
  have f214 := hf 214 (by omega) (by omega)
  have f215 := hf 215 (by omega) (by omega)
  have f216 := hf 216 (by omega) (by omega)
  have f217 := hf 217 (by omega) (by omega)
  have f218 := hf 218 (by omega) (by omega)
  have f219 := hf 219 (by omega) (by omega)
  have f220 := hf 220 (by omega) (by omega)
  have f221 := hf 221 (by omega) (by omega)
  have f222 := hf 222 (by omega) (by omega)
  have f223 := hf 223 (by omega) (by omega)
  have f224 := hf 224 (by omega) (by omega)
  have f225 := hf 225 (by omega) (by omega)
  have f226 := hf 226 (by omega) (by omega)
  have f227 := hf 227 (by omega) (by omega)
  have f228 := hf 228 (by omega) (by omega)
  have f229 := hf 229 (by omega) (by omega)
  have f230 := hf 230 (by omega) (by omega)
  unfold wA_X10_init
  refine ⟨32, by simp [gadd, gde, gmul, f201], by decide, by decide, by decide, by omega, by omega, ?_⟩
  rintro q201 _ rfl _ rfl
  refine ⟨_, by simp [gadd, gde, gmul, h0], by simp [gadd, gde, gmul, va_up, ha], (show _ = _ from by first | exact hd | (simp only [gadd, gde, gmul, va_up]; simp; exact hd)), by simp, ?_⟩
  rintro _ rfl
  refine ⟨4096, by simp [gadd, gde, gmul, f202], by decide, by decide, by decide, by omega, by omega, ?_⟩
  rintro q202 _ rfl _ rfl
  refine ⟨_, by simp [gadd, gde, gmul, h0], by simp [gadd, gde, gmul, va_up, ha], rfl, by simp, ?_⟩
  rintro _ rfl
  refine ⟨4096, by simp [gadd, gde, gmul, f203], by decide, by decide, by decide, by omega, by omega, ?_⟩
  rintro q203 _ rfl _ rfl
  refine ⟨_, by simp [gadd, gde, gmul, h0], by simp [gadd, gde, gmul, va_up, ha], rfl, by simp, ?_⟩
  rintro _ rfl
  refine ⟨4096, by simp [gadd, gde, gmul, f204], by decide, by decide, by decide, by omega, by omega, ?_⟩
  rintro q204 _ rfl _ rfl
  refine ⟨_, by simp [gadd, gde, gmul, h0], by simp [gadd, gde, gmul, va_up, ha], rfl, by simp, ?_⟩
  rintro _ rfl
  refine ⟨4, by simp [gadd, gde, gmul, f205], by decide, by decide, by decide, by omega, by omega, ?_⟩
  rintro q205 _ rfl _ rfl
  refine ⟨_, by simp [gadd, gde, gmul, h0], by simp [gadd, gde, gmul, va_up, ha], rfl, by simp, ?_⟩
  rintro _ rfl
  refine ⟨50000, by simp [gadd, gde, gmul, f206], by decide, by decide, by decide, by omega, by omega, ?_⟩
  rintro q206 _ rfl _ rfl
  refine ⟨_, by simp [gadd, gde, gmul, h0], by simp [gadd, gde, gmul, va_up, ha], rfl, by simp, ?_⟩
  rintro _ rfl
  refine ⟨10000, by simp [gadd, gde, gmul, f207], by decide, by decide, by decide, by omega, by omega, ?_⟩
  rintro q207 _ rfl _ rfl
  refine ⟨_, by simp [gadd, gde, gmul, h0], by simp [gadd, gde, gmul, va_up, ha], rfl, by simp, ?_⟩
  rintro _ rfl
  refine ⟨10000, by simp [gadd, gde, gmul, f208], by decide, by decide, by decide, by omega, by omega, ?_⟩
  rintro q208 _ rfl _ rfl
  refine ⟨_, by simp [gadd, gde, gmul, h0], by simp [gadd, gde, gmul, va_up, ha], rfl, by simp, ?_⟩
  rintro _ rfl
  refine ⟨10000, by simp [gadd, gde, gmul, f209], by decide, by decide, by decide, by omega, by omega, ?_⟩
  rintro q209 _ rfl _ rfl
  refine ⟨_, by simp [gadd, gde, gmul, h0], by simp [gadd, gde, gmul, va_up, ha], rfl, by simp, ?_⟩
  rintro _ rfl
  refine ⟨6, by simp [gadd, gde, gmul, f210], by decide, by decide, by decide, by omega, by omega, ?_⟩
  rintro q210 _ rfl _ rfl
  refine ⟨_, by simp [gadd, gde, gmul, h0], by simp [gadd, gde, gmul, va_up, ha], rfl, by simp, ?_⟩
  rintro _ rfl
  refine ⟨1200, by simp [gadd, gde, gmul, f211], by decide, by decide, by decide, by omega, by omega, ?_⟩
  rintro q211 _ rfl _ rfl
  refine ⟨_, by simp [gadd, gde, gmul, h0], by simp [gadd, gde, gmul, va_up, ha], rfl, by simp, ?_⟩
  rintro _ rfl
  refine ⟨7, by simp [gadd, gde, gmul, f212], by decide, by decide, by decide, by omega, by omega, ?_⟩
  rintro q212 _ rfl _ rfl
  refine ⟨_, by simp [gadd, gde, gmul, h0], by simp [gadd, gde, gmul, va_up, ha], rfl, by simp, ?_⟩
  rintro _ rfl
  refine ⟨1200, by simp [gadd, gde, gmul, f213], by decide, by decide, by decide, by omega, by omega, ?_⟩
  rintro q213 _ rfl _ rfl
  refine ⟨_, by simp [gadd, gde, gmul, h0], by simp [gadd, gde, gmul, va_up, ha], rfl, by simp, ?_⟩
  rintro _ rfl
  refine ⟨1200, by simp [gadd, gde, gmul, f214], by decide, by decide, by decide, by omega, by omega, ?_⟩
  rintro q214 _ rfl _ rfl
  refine ⟨_, by simp [gadd, gde, gmul, h0], by simp [gadd, gde, gmul, va_up, ha], rfl, by simp, ?_⟩
  rintro _ rfl
  refine ⟨22, by simp [gadd, gde, gmul, f215], by decide, by decide, by decide, by omega, by omega, ?_⟩
  rintro q215 _ rfl _ rfl
  refine ⟨_, by simp [gadd, gde, gmul, h0], by simp [gadd, gde, gmul, va_up, ha], rfl, by simp, ?_⟩
  rintro _ rfl
  refine ⟨1048576, by simp [gadd, gde, gmul, f216], by decide, by decide, by decide, by omega, by omega, ?_⟩
  rintro q216 _ rfl _ rfl
  refine ⟨_, by simp [gadd, gde, gmul, h0], by simp [gadd, gde, gmul, va_up, ha], rfl, by simp, ?_⟩
  rintro _ rfl
  refine ⟨1048576, by simp [gadd, gde, gmul, f217], by decide, by decide, by decide, by omega, by omega, ?_⟩
  rintro q217 _ rfl _ rfl
  refine ⟨_, by simp [gadd, gde, gmul, h0], by simp [gadd, gde, gmul, va_up, ha], rfl, by simp, ?_⟩
  rintro _ rfl
  refine ⟨1048576, by simp [gadd, gde, gmul, f218], by decide, by decide, by decide, by omega, by omega, ?_⟩
  rintro q218 _ rfl _ rfl
  refine ⟨_, by simp [gadd, gde, gmul, h0], by simp [gadd, gde, gmul, va_up, ha], rfl, by simp, ?_⟩
  rintro _ rfl
  refine ⟨8, by simp [gadd, gde, gmul, f219], by decide, by decide, by decide, by omega, by omega, ?_⟩
  rintro q219 _ rfl _ rfl
  refine ⟨_, by simp [gadd, gde, gmul, h0], by simp [gadd, gde, gmul, va_up, ha], rfl, by simp, ?_⟩
  rintro _ rfl
  refine ⟨8, by simp [gadd, gde, gmul, f220], by decide, by decide, by decide, by omega, by omega, ?_⟩
  rintro q220 _ rfl _ rfl
  refine ⟨_, by simp [gadd, gde, gmul, h0], by simp [gadd, gde, gmul, va_up, ha], rfl, by simp, ?_⟩
  rintro _ rfl
  refine ⟨8, by simp [gadd, gde, gmul, f221], by decide, by decide, by decide, by omega, by omega, ?_⟩
  rintro q221 _ rfl _ rfl
  refine ⟨_, by simp [gadd, gde, gmul, h0], by simp [gadd, gde, gmul, va_up, ha], rfl, by simp, ?_⟩
  rintro _ rfl
  refine ⟨54, by simp [gadd, gde, gmul, f222], by decide, by decide, by decide, by omega, by omega, ?_⟩
  rintro q222 _ rfl _ rfl
  refine ⟨_, by simp [gadd, gde, gmul, h0], by simp [gadd, gde, gmul, va_up, ha], rfl, by simp, ?_⟩
  rintro _ rfl
  refine ⟨6, by simp [gadd, gde, gmul, f223], by decide, by decide, by decide, by omega, by omega, ?_⟩
  rintro q223 _ rfl _ rfl
  refine ⟨_, by simp [gadd, gde, gmul, h0], by simp [gadd, gde, gmul, va_up, ha], rfl, by simp, ?_⟩
  rintro _ rfl
  refine ⟨6, by simp [gadd, gde, gmul, f224], by decide, by decide, by decide, by omega, by omega, ?_⟩
  rintro q224 _ rfl _ rfl
  refine ⟨_, by simp [gadd, gde, gmul, h0], by simp [gadd, gde, gmul, va_up, ha], rfl, by simp, ?_⟩
  rintro _ rfl
  refine ⟨78, by simp [gadd, gde, gmul, f225], by decide, by decide, by decide, by omega, by omega, ?_⟩
  rintro q225 _ rfl _ rfl
  refine ⟨_, by simp [gadd, gde, gmul, h0], by simp [gadd, gde, gmul, va_up, ha], rfl, by simp, ?_⟩
  rintro _ rfl
  refine ⟨6, by simp [gadd, gde, gmul, f226], by decide, by decide, by decide, by omega, by omega, ?_⟩
  rintro q226 _ rfl _ rfl
  refine ⟨_, by simp [gadd, gde, gmul, h0], by simp [gadd, gde, gmul, va_up, ha], rfl, by simp, ?_⟩
  rintro _ rfl
  refine ⟨6, by simp [gadd, gde, gmul, f227], by decide, by decide, by decide, by omega, by omega, ?_⟩
  rintro q227 _ rfl _ rfl
  refine ⟨_, by simp [gadd, gde, gmul, h0], by simp [gadd, gde, gmul, va_up, ha], rfl, by simp, ?_⟩
  rintro _ rfl
  refine ⟨1296, by simp [gadd, gde, gmul, f228], by decide, by decide, by decide, by omega, by omega, ?_⟩
  rintro q228 _ rfl _ rfl
  refine ⟨_, by simp [gadd, gde, gmul, h0], by simp [gadd, gde, gmul, va_up, ha], rfl, by simp, ?_⟩
  rintro _ rfl
  refine ⟨6, by simp [gadd, gde, gmul, f229], by decide, by decide, by decide, by omega, by omega, ?_⟩
  rintro q229 _ rfl _ rfl
  refine ⟨_, by simp [gadd, gde, gmul, h0], by simp [gadd, gde, gmul, va_up, ha], rfl, by simp, ?_⟩
  rintro _ rfl
  refine ⟨20, by simp [gadd, gde, gmul, f230], by decide, by decide, by decide, by omega, by omega, ?_⟩
  rintro q230 _ rfl _ rfl
  refine ⟨_, by simp [gadd, gde, gmul, h0], by simp [gadd, gde, gmul, va_up, ha], rfl, by simp, ?_⟩
  rintro _ rfl
  refine ⟨_, by simp [gadd, gde, gmul, h0], by simp [gadd, gde, gmul, va_up, ha], rfl, (by first | rfl | simp), ?_⟩
  rintro _ rfl
  refine ⟨_, by simp [gadd, gde, gmul, h0], by simp [gadd, gde, gmul, va_up, ha], rfl, (by first | rfl | simp), ?_⟩
  rintro _ rfl
  refine ⟨_, by simp [gadd, gde, gmul, h0], by simp [gadd, gde, gmul, va_up, ha], rfl, (by first | rfl | simp), ?_⟩
  rintro _ rfl
  refine ⟨_, by simp [gadd, gde, gmul, h0], by simp [gadd, gde, gmul, va_up, ha], rfl, (by first | rfl | simp), ?_⟩
  rintro _ rfl
  refine ⟨_, by simp [gadd, gde, gmul, h0], by simp [gadd, gde, gmul, va_up, ha], rfl, (by first | rfl | simp), ?_⟩
  rintro _ rfl
  refine ⟨_, by simp [gadd, gde, gmul, h0], by simp [gadd, gde, gmul, va_up, ha], rfl, (by first | rfl | simp), ?_⟩
  rintro _ rfl
  refine ⟨_, by simp [gadd, gde, gmul, h0], by simp [gadd, gde, gmul, va_up, ha], rfl, (by first | rfl | simp), ?_⟩
  rintro _ rfl
  refine hPo _ _ _ ?_ ?_ ?_ ?_ ?_ ?_ ?_ ?_ ?_ ?_ ?_ ?_ ?_ ?_ ?_ ?_ ?_ ?_ ?_ ?_ ?_ ?_ ?_ ?_ ?_ ?_ ?_ ?_ ?_ ?_ ?_ ?_ ?_ ?_ ?_ ?_ ?_ ?_ ?_ ?_ ?_ ?_ ?_ ?_
  · intro q hq
    simp only [gLsM, List.mem_cons, List.not_mem_nil, or_false] at hq
    rcases hq with rfl | rfl | rfl | rfl | rfl | rfl | rfl | rfl | rfl | rfl | rfl | rfl | rfl | rfl | rfl | rfl | rfl | rfl | rfl | rfl | rfl | rfl | rfl | rfl | rfl | rfl | rfl | rfl | rfl | rfl | rfl
    · exact ⟨by simp [gadd, gde, gmul, h0], by first | rfl | (simp [gadd, gde, gmul, va_up, gfam]; done) | (simp only [gadd, gde, gmul, va_up]; simp; rfl) | (simp [gadd, gde, gmul, va_up]; funext j; unfold gfam; by_cases hj : j < 6; · rcases (show j = 0 ∨ j = 1 ∨ j = 2 ∨ j = 3 ∨ j = 4 ∨ j = 5 by omega) with rfl | rfl | rfl | rfl | rfl | rfl <;> simp; · simp [hj])⟩
    · exact ⟨by simp [gadd, gde, gmul, h0], by first | rfl | (simp [gadd, gde, gmul, va_up, gfam]; done) | (simp only [gadd, gde, gmul, va_up]; simp; rfl) | (simp [gadd, gde, gmul, va_up]; funext j; unfold gfam; by_cases hj : j < 6; · rcases (show j = 0 ∨ j = 1 ∨ j = 2 ∨ j = 3 ∨ j = 4 ∨ j = 5 by omega) with rfl | rfl | rfl | rfl | rfl | rfl <;> simp; · simp [hj])⟩
    · exact ⟨by simp [gadd, gde, gmul, h0], by first | rfl | (simp [gadd, gde, gmul, va_up, gfam]; done) | (simp only [gadd, gde, gmul, va_up]; simp; rfl) | (simp [gadd, gde, gmul, va_up]; funext j; unfold gfam; by_cases hj : j < 6; · rcases (show j = 0 ∨ j = 1 ∨ j = 2 ∨ j = 3 ∨ j = 4 ∨ j = 5 by omega) with rfl | rfl | rfl | rfl | rfl | rfl <;> simp; · simp [hj])⟩
    · exact ⟨by simp [gadd, gde, gmul, h0], by first | rfl | (simp [gadd, gde, gmul, va_up, gfam]; done) | (simp only [gadd, gde, gmul, va_up]; simp; rfl) | (simp [gadd, gde, gmul, va_up]; funext j; unfold gfam; by_cases hj : j < 6; · rcases (show j = 0 ∨ j = 1 ∨ j = 2 ∨ j = 3 ∨ j = 4 ∨ j = 5 by omega) with rfl | rfl | rfl | rfl | rfl | rfl <;> simp; · simp [hj])⟩
    · exact ⟨by simp [gadd, gde, gmul, h0], by first | rfl | (simp [gadd, gde, gmul, va_up, gfam]; done) | (simp only [gadd, gde, gmul, va_up]; simp; rfl) | (simp [gadd, gde, gmul, va_up]; funext j; unfold gfam; by_cases hj : j < 6; · rcases (show j = 0 ∨ j = 1 ∨ j = 2 ∨ j = 3 ∨ j = 4 ∨ j = 5 by omega) with rfl | rfl | rfl | rfl | rfl | rfl <;> simp; · simp [hj])⟩
    · exact ⟨by simp [gadd, gde, gmul, h0], by first | rfl | (simp [gadd, gde, gmul, va_up, gfam]; done) | (simp only [gadd, gde, gmul, va_up]; simp; rfl) | (simp [gadd, gde, gmul, va_up]; funext j; unfold gfam; by_cases hj : j < 6; · rcases (show j = 0 ∨ j = 1 ∨ j = 2 ∨ j = 3 ∨ j = 4 ∨ j = 5 by omega) with rfl | rfl | rfl | rfl | rfl | rfl <;> simp; · simp [hj])⟩
    · exact ⟨by simp [gadd, gde, gmul, h0], by first | rfl | (simp [gadd, gde, gmul, va_up, gfam]; done) | (simp only [gadd, gde, gmul, va_up]; simp; rfl) | (simp [gadd, gde, gmul, va_up]; funext j; unfold gfam; by_cases hj : j < 6; · rcases (show j = 0 ∨ j = 1 ∨ j = 2 ∨ j = 3 ∨ j = 4 ∨ j = 5 by omega) with rfl | rfl | rfl | rfl | rfl | rfl <;> simp; · simp [hj])⟩
    · exact ⟨by simp [gadd, gde, gmul, h0], by first | rfl | (simp [gadd, gde, gmul, va_up, gfam]; done) | (simp only [gadd, gde, gmul, va_up]; simp; rfl) | (simp [gadd, gde, gmul, va_up]; funext j; unfold gfam; by_cases hj : j < 6; · rcases (show j = 0 ∨ j = 1 ∨ j = 2 ∨ j = 3 ∨ j = 4 ∨ j = 5 by omega) with rfl | rfl | rfl | rfl | rfl | rfl <;> simp; · simp [hj])⟩
    · exact ⟨by simp [gadd, gde, gmul, h0], by first | rfl | (simp [gadd, gde, gmul, va_up, gfam]; done) | (simp only [gadd, gde, gmul, va_up]; simp; rfl) | (simp [gadd, gde, gmul, va_up]; funext j; unfold gfam; by_cases hj : j < 6; · rcases (show j = 0 ∨ j = 1 ∨ j = 2 ∨ j = 3 ∨ j = 4 ∨ j = 5 by omega) with rfl | rfl | rfl | rfl | rfl | rfl <;> simp; · simp [hj])⟩
    · exact ⟨by simp [gadd, gde, gmul, h0], by first | rfl | (simp [gadd, gde, gmul, va_up, gfam]; done) | (simp only [gadd, gde, gmul, va_up]; simp; rfl) | (simp [gadd, gde, gmul, va_up]; funext j; unfold gfam; by_cases hj : j < 6; · rcases (show j = 0 ∨ j = 1 ∨ j = 2 ∨ j = 3 ∨ j = 4 ∨ j = 5 by omega) with rfl | rfl | rfl | rfl | rfl | rfl <;> simp; · simp [hj])⟩
    · exact ⟨by simp [gadd, gde, gmul, h0], by first | rfl | (simp [gadd, gde, gmul, va_up, gfam]; done) | (simp only [gadd, gde, gmul, va_up]; simp; rfl) | (simp [gadd, gde, gmul, va_up]; funext j; unfold gfam; by_cases hj : j < 6; · rcases (show j = 0 ∨ j = 1 ∨ j = 2 ∨ j = 3 ∨ j = 4 ∨ j = 5 by omega) with rfl | rfl | rfl | rfl | rfl | rfl <;> simp; · simp [hj])⟩
    · exact ⟨by simp [gadd, gde, gmul, h0], by first | rfl | (simp [gadd, gde, gmul, va_up, gfam]; done) | (simp only [gadd, gde, gmul, va_up]; simp; rfl) | (simp [gadd, gde, gmul, va_up]; funext j; unfold gfam; by_cases hj : j < 6; · rcases (show j = 0 ∨ j = 1 ∨ j = 2 ∨ j = 3 ∨ j = 4 ∨ j = 5 by omega) with rfl | rfl | rfl | rfl | rfl | rfl <;> simp; · simp [hj])⟩
    · exact ⟨by simp [gadd, gde, gmul, h0], by first | rfl | (simp [gadd, gde, gmul, va_up, gfam]; done) | (simp only [gadd, gde, gmul, va_up]; simp; rfl) | (simp [gadd, gde, gmul, va_up]; funext j; unfold gfam; by_cases hj : j < 6; · rcases (show j = 0 ∨ j = 1 ∨ j = 2 ∨ j = 3 ∨ j = 4 ∨ j = 5 by omega) with rfl | rfl | rfl | rfl | rfl | rfl <;> simp; · simp [hj])⟩
    · exact ⟨by simp [gadd, gde, gmul, h0], by first | rfl | (simp [gadd, gde, gmul, va_up, gfam]; done) | (simp only [gadd, gde, gmul, va_up]; simp; rfl) | (simp [gadd, gde, gmul, va_up]; funext j; unfold gfam; by_cases hj : j < 6; · rcases (show j = 0 ∨ j = 1 ∨ j = 2 ∨ j = 3 ∨ j = 4 ∨ j = 5 by omega) with rfl | rfl | rfl | rfl | rfl | rfl <;> simp; · simp [hj])⟩
    · exact ⟨by simp [gadd, gde, gmul, h0], by first | rfl | (simp [gadd, gde, gmul, va_up, gfam]; done) | (simp only [gadd, gde, gmul, va_up]; simp; rfl) | (simp [gadd, gde, gmul, va_up]; funext j; unfold gfam; by_cases hj : j < 6; · rcases (show j = 0 ∨ j = 1 ∨ j = 2 ∨ j = 3 ∨ j = 4 ∨ j = 5 by omega) with rfl | rfl | rfl | rfl | rfl | rfl <;> simp; · simp [hj])⟩
    · exact ⟨by simp [gadd, gde, gmul, h0], by first | rfl | (simp [gadd, gde, gmul, va_up, gfam]; done) | (simp only [gadd, gde, gmul, va_up]; simp; rfl) | (simp [gadd, gde, gmul, va_up]; funext j; unfold gfam; by_cases hj : j < 6; · rcases (show j = 0 ∨ j = 1 ∨ j = 2 ∨ j = 3 ∨ j = 4 ∨ j = 5 by omega) with rfl | rfl | rfl | rfl | rfl | rfl <;> simp; · simp [hj])⟩
    · exact ⟨by simp [gadd, gde, gmul, h0], by first | rfl | (simp [gadd, gde, gmul, va_up, gfam]; done) | (simp only [gadd, gde, gmul, va_up]; simp; rfl) | (simp [gadd, gde, gmul, va_up]; funext j; unfold gfam; by_cases hj : j < 6; · rcases (show j = 0 ∨ j = 1 ∨ j = 2 ∨ j = 3 ∨ j = 4 ∨ j = 5 by omega) with rfl | rfl | rfl | rfl | rfl | rfl <;> simp; · simp [hj])⟩
    · exact ⟨by simp [gadd, gde, gmul, h0], by first | rfl | (simp [gadd, gde, gmul, va_up, gfam]; done) | (simp only [gadd, gde, gmul, va_up]; simp; rfl) | (simp [gadd, gde, gmul, va_up]; funext j; unfold gfam; by_cases hj : j < 6; · rcases (show j = 0 ∨ j = 1 ∨ j = 2 ∨ j = 3 ∨ j = 4 ∨ j = 5 by omega) with rfl | rfl | rfl | rfl | rfl | rfl <;> simp; · simp [hj])⟩
    · exact ⟨by simp [gadd, gde, gmul, h0], by first | rfl | (simp [gadd, gde, gmul, va_up, gfam]; done) | (simp only [gadd, gde, gmul, va_up]; simp; rfl) | (simp [gadd, gde, gmul, va_up]; funext j; unfold gfam; by_cases hj : j < 6; · rcases (show j = 0 ∨ j = 1 ∨ j = 2 ∨ j = 3 ∨ j = 4 ∨ j = 5 by omega) with rfl | rfl | rfl | rfl | rfl | rfl <;> simp; · simp [hj])⟩
    · exact ⟨by simp [gadd, gde, gmul, h0], by first | rfl | (simp [gadd, gde, gmul, va_up, gfam]; done) | (simp only [gadd, gde, gmul, va_up]; simp; rfl) | (simp [gadd, gde, gmul, va_up]; funext j; unfold gfam; by_cases hj : j < 6; · rcases (show j = 0 ∨ j = 1 ∨ j = 2 ∨ j = 3 ∨ j = 4 ∨ j = 5 by omega) with rfl | rfl | rfl | rfl | rfl | rfl <;> simp; · simp [hj])⟩
    · exact ⟨by simp [gadd, gde, gmul, h0], by first | rfl | (simp [gadd, gde, gmul, va_up, gfam]; done) | (simp only [gadd, gde, gmul, va_up]; simp; rfl) | (simp [gadd, gde, gmul, va_up]; funext j; unfold gfam; by_cases hj : j < 6; · rcases (show j = 0 ∨ j = 1 ∨ j = 2 ∨ j = 3 ∨ j = 4 ∨ j = 5 by omega) with rfl | rfl | rfl | rfl | rfl | rfl <;> simp; · simp [hj])⟩
    · exact ⟨by simp [gadd, gde, gmul, h0], by first | rfl | (simp [gadd, gde, gmul, va_up, gfam]; done) | (simp only [gadd, gde, gmul, va_up]; simp; rfl) | (simp [gadd, gde, gmul, va_up]; funext j; unfold gfam; by_cases hj : j < 6; · rcases (show j = 0 ∨ j = 1 ∨ j = 2 ∨ j = 3 ∨ j = 4 ∨ j = 5 by omega) with rfl | rfl | rfl | rfl | rfl | rfl <;> simp; · simp [hj])⟩
    · exact ⟨by simp [gadd, gde, gmul, h0], by first | rfl | (simp [gadd, gde, gmul, va_up, gfam]; done) | (simp only [gadd, gde, gmul, va_up]; simp; rfl) | (simp [gadd, gde, gmul, va_up]; funext j; unfold gfam; by_cases hj : j < 6; · rcases (show j = 0 ∨ j = 1 ∨ j = 2 ∨ j = 3 ∨ j = 4 ∨ j = 5 by omega) with rfl | rfl | rfl | rfl | rfl | rfl <;> simp; · simp [hj])⟩
    · exact ⟨by simp [gadd, gde, gmul, h0], by first | rfl | (simp [gadd, gde, gmul, va_up, gfam]; done) | (simp only [gadd, gde, gmul, va_up]; simp; rfl) | (simp [gadd, gde, gmul, va_up]; funext j; unfold gfam; by_cases hj : j < 6; · rcases (show j = 0 ∨ j = 1 ∨ j = 2 ∨ j = 3 ∨ j = 4 ∨ j = 5 by omega) with rfl | rfl | rfl | rfl | rfl | rfl <;> simp; · simp [hj])⟩
    · exact ⟨by simp [gadd, gde, gmul, h0], by first | rfl | (simp [gadd, gde, gmul, va_up, gfam]; done) | (simp only [gadd, gde, gmul, va_up]; simp; rfl) | (simp [gadd, gde, gmul, va_up]; funext j; unfold gfam; by_cases hj : j < 6; · rcases (show j = 0 ∨ j = 1 ∨ j = 2 ∨ j = 3 ∨ j = 4 ∨ j = 5 by omega) with rfl | rfl | rfl | rfl | rfl | rfl <;> simp; · simp [hj])⟩
    · exact ⟨by simp [gadd, gde, gmul, h0], by first | rfl | (simp [gadd, gde, gmul, va_up, gfam]; done) | (simp only [gadd, gde, gmul, va_up]; simp; rfl) | (simp [gadd, gde, gmul, va_up]; funext j; unfold gfam; by_cases hj : j < 6; · rcases (show j = 0 ∨ j = 1 ∨ j = 2 ∨ j = 3 ∨ j = 4 ∨ j = 5 by omega) with rfl | rfl | rfl | rfl | rfl | rfl <;> simp; · simp [hj])⟩
    · exact ⟨by simp [gadd, gde, gmul, h0], by first | rfl | (simp [gadd, gde, gmul, va_up, gfam]; done) | (simp only [gadd, gde, gmul, va_up]; simp; rfl) | (simp [gadd, gde, gmul, va_up]; funext j; unfold gfam; by_cases hj : j < 6; · rcases (show j = 0 ∨ j = 1 ∨ j = 2 ∨ j = 3 ∨ j = 4 ∨ j = 5 by omega) with rfl | rfl | rfl | rfl | rfl | rfl <;> simp; · simp [hj])⟩
    · exact ⟨by simp [gadd, gde, gmul, h0], by first | rfl | (simp [gadd, gde, gmul, va_up, gfam]; done) | (simp only [gadd, gde, gmul, va_up]; simp; rfl) | (simp [gadd, gde, gmul, va_up]; funext j; unfold gfam; by_cases hj : j < 6; · rcases (show j = 0 ∨ j = 1 ∨ j = 2 ∨ j = 3 ∨ j = 4 ∨ j = 5 by omega) with rfl | rfl | rfl | rfl | rfl | rfl <;> simp; · simp [hj])⟩
    · exact ⟨by simp [gadd, gde, gmul, h0], by first | rfl | (simp [gadd, gde, gmul, va_up, gfam]; done) | (simp only [gadd, gde, gmul, va_up]; simp; rfl) | (simp [gadd, gde, gmul, va_up]; funext j; unfold gfam; by_cases hj : j < 6; · rcases (show j = 0 ∨ j = 1 ∨ j = 2 ∨ j = 3 ∨ j = 4 ∨ j = 5 by omega) with rfl | rfl | rfl | rfl | rfl | rfl <;> simp; · simp [hj])⟩
    · exact ⟨by simp [gadd, gde, gmul, h0], by first | rfl | (simp [gadd, gde, gmul, va_up, gfam]; done) | (simp only [gadd, gde, gmul, va_up]; simp; rfl) | (simp [gadd, gde, gmul, va_up]; funext j; unfold gfam; by_cases hj : j < 6; · rcases (show j = 0 ∨ j = 1 ∨ j = 2 ∨ j = 3 ∨ j = 4 ∨ j = 5 by omega) with rfl | rfl | rfl | rfl | rfl | rfl <;> simp; · simp [hj])⟩
    · exact ⟨by simp [gadd, gde, gmul, h0], by first | rfl | (simp [gadd, gde, gmul, va_up, gfam]; done) | (simp only [gadd, gde, gmul, va_up]; simp; rfl) | (simp [gadd, gde, gmul, va_up]; funext j; unfold gfam; by_cases hj : j < 6; · rcases (show j = 0 ∨ j = 1 ∨ j = 2 ∨ j = 3 ∨ j = 4 ∨ j = 5 by omega) with rfl | rfl | rfl | rfl | rfl | rfl <;> simp; · simp [hj])⟩
  · simp [gadd, gde, gmul, va_up, ha]
  · simp [gadd, gde, gmul]
  · intro k hk
    simp only [List.mem_cons, List.not_mem_nil, or_false, not_or] at hk
    simp [gadd, gde, gmul, va_up, hk]
  · simp [gup, guc, gmz]
  · simp [gup, guc, gmz]
  · simp [gup, guc, gmz]
  · simp [gup, guc, gmz]
  · simp [gup, guc, gmz]
  · simp [gup, guc, gmz]
  · simp [gup, guc, gmz]
  · intro j hj
    simp only [List.mem_cons, List.not_mem_nil, or_false, not_or] at hj
    simp [gup, guc, gmz, hj]
  · funext j
    simp [gup, guc, gmz]
  · funext j
    simp [gup, guc, gmz]
  · funext j
    simp [gup, guc, gmz]
  · funext j
    simp [gup, guc, gmz]
  · funext j
    simp [gup, guc, gmz]
  · funext j
    simp [gup, guc, gmz]
  · funext j
    simp [gup, guc, gmz]
  · funext j
    simp [gup, guc, gmz]
  · funext j
    simp [gup, guc, gmz]
  · funext j
    simp [gup, guc, gmz]
  · funext j
    simp [gup, guc, gmz]
  · funext j
    simp [gup, guc, gmz]
  · funext j
    simp [gup, guc, gmz]
  · funext j
    simp [gup, guc, gmz]
  · funext j
    simp [gup, guc, gmz]
  · funext j
    simp [gup, guc, gmz]
  · funext j
    simp [gup, guc, gmz]
  · funext j
    simp [gup, guc, gmz]
  · funext j
    simp [gup, guc, gmz]
  · funext j
    simp [gup, guc, gmz]
  · funext j
    simp [gup, guc, gmz]
  · funext j
    simp [gup, guc, gmz]
  · funext j
    simp [gup, guc, gmz]
  · funext j
    simp [gup, guc, gmz]
  · funext j
    simp [gup, guc, gmz]
  · funext j
    simp [gup, guc, gmz]
  · funext j
    simp [gup, guc, gmz]
  · funext j
    simp [gup, guc, gmz]
  · funext j
    simp [gup, guc, gmz]
  · funext j
    simp [gup, guc, gmz]
  · intro k hk
    simp only [List.mem_cons, List.not_mem_nil, or_false, not_or] at hk
    funext j
    simp [gup, guc, gmz, hk]
  · intro k hk
    simp only [List.mem_cons, List.not_mem_nil, or_false, not_or] at hk
    funext j
    simp [gup, guc, gmz, hk]
