/-! a module's cells that stay as they were are a module's cells still -/
def gSt (k : Nat) (V V' : gV) : Prop := k ∈ V'.1 ∧ V'.2.1 k = V.2.1 k ∧ V'.2.2 k = V.2.2 k
theorem gfam_congr {ad ad' : Nat → Nat} {b n : Nat} (h : ∀ j, j < n → ad' (b + j) = ad (b + j)) : gfam ad b n = gfam ad' b n := by
  funext j
  unfold gfam
  by_cases hj : j < n
  · simp [hj, h j hj]
  · simp [hj]
theorem kp_TS {V V' : gV} (h : gModTS V) (hk : ∀ k, k ∈ [10, 11, 12, 13, 14] → gSt k V V')  : gModTS V' := by
  have k10 : gSt 10 V V' := hk 10 (by decide)
  have k11 : gSt 11 V V' := hk 11 (by decide)
  have k12 : gSt 12 V V' := hk 12 (by decide)
  have k13 : gSt 13 V V' := hk 13 (by decide)
  have k14 : gSt 14 V V' := hk 14 (by decide)
  intro q hq
  simp only [gLsTS, List.mem_cons, List.not_mem_nil, or_false] at hq
  rcases hq with rfl | rfl | rfl | rfl | rfl
  · exact ⟨k10.1, by rw [k10.2.2, (c_10 h).2, k11.2.1, k12.2.1, k13.2.1, k14.2.1]⟩
  · exact ⟨k11.1, by rw [k11.2.2, (c_11 h).2]⟩
  · exact ⟨k12.1, by rw [k12.2.2, (c_12 h).2]⟩
  · exact ⟨k13.1, by rw [k13.2.2, (c_13 h).2]⟩
  · exact ⟨k14.1, by rw [k14.2.2, (c_14 h).2]⟩
theorem kp_JG {V V' : gV} (h : gModJG V) (hk : ∀ k, k ∈ [20, 21, 22, 23, 24, 25, 26, 27, 28, 29, 30, 31, 32, 33, 34, 35, 36, 37] → gSt k V V')  : gModJG V' := by
  have k20 : gSt 20 V V' := hk 20 (by decide)
  have k21 : gSt 21 V V' := hk 21 (by decide)
  have k22 : gSt 22 V V' := hk 22 (by decide)
  have k23 : gSt 23 V V' := hk 23 (by decide)
  have k24 : gSt 24 V V' := hk 24 (by decide)
  have k25 : gSt 25 V V' := hk 25 (by decide)
  have k26 : gSt 26 V V' := hk 26 (by decide)
  have k27 : gSt 27 V V' := hk 27 (by decide)
  have k28 : gSt 28 V V' := hk 28 (by decide)
  have k29 : gSt 29 V V' := hk 29 (by decide)
  have k30 : gSt 30 V V' := hk 30 (by decide)
  have k31 : gSt 31 V V' := hk 31 (by decide)
  have k32 : gSt 32 V V' := hk 32 (by decide)
  have k33 : gSt 33 V V' := hk 33 (by decide)
  have k34 : gSt 34 V V' := hk 34 (by decide)
  have k35 : gSt 35 V V' := hk 35 (by decide)
  have k36 : gSt 36 V V' := hk 36 (by decide)
  have k37 : gSt 37 V V' := hk 37 (by decide)
  intro q hq
  simp only [gLsJG, List.mem_cons, List.not_mem_nil, or_false] at hq
  rcases hq with rfl | rfl | rfl | rfl | rfl | rfl | rfl | rfl | rfl | rfl | rfl | rfl | rfl | rfl | rfl | rfl | rfl | rfl
  · exact ⟨k20.1, by rw [k20.2.2, (c_20 h).2, k21.2.1, k22.2.1, k29.2.1, k36.2.1, k37.2.1]⟩
  · exact ⟨k21.1, by rw [k21.2.2, (c_21 h).2]⟩
  · exact ⟨k22.1, k22.2.2.trans ((c_22 h).2.trans (congrArg (fun z => (Sum.inr (4, 6, z) : gD)) (gfam_congr (fun j hj => by rcases (show j = 0 ∨ j = 1 ∨ j = 2 ∨ j = 3 ∨ j = 4 ∨ j = 5 by omega) with rfl | rfl | rfl | rfl | rfl | rfl <;> first | exact k23.2.1 | exact k24.2.1 | exact k25.2.1 | exact k26.2.1 | exact k27.2.1 | exact k28.2.1))))⟩
  · exact ⟨k23.1, by rw [k23.2.2, (c_23 h).2]⟩
  · exact ⟨k24.1, by rw [k24.2.2, (c_24 h).2]⟩
  · exact ⟨k25.1, by rw [k25.2.2, (c_25 h).2]⟩
  · exact ⟨k26.1, by rw [k26.2.2, (c_26 h).2]⟩
  · exact ⟨k27.1, by rw [k27.2.2, (c_27 h).2]⟩
  · exact ⟨k28.1, by rw [k28.2.2, (c_28 h).2]⟩
  · exact ⟨k29.1, k29.2.2.trans ((c_29 h).2.trans (congrArg (fun z => (Sum.inr (4, 6, z) : gD)) (gfam_congr (fun j hj => by rcases (show j = 0 ∨ j = 1 ∨ j = 2 ∨ j = 3 ∨ j = 4 ∨ j = 5 by omega) with rfl | rfl | rfl | rfl | rfl | rfl <;> first | exact k30.2.1 | exact k31.2.1 | exact k32.2.1 | exact k33.2.1 | exact k34.2.1 | exact k35.2.1))))⟩
  · exact ⟨k30.1, by rw [k30.2.2, (c_30 h).2]⟩
  · exact ⟨k31.1, by rw [k31.2.2, (c_31 h).2]⟩
  · exact ⟨k32.1, by rw [k32.2.2, (c_32 h).2]⟩
  · exact ⟨k33.1, by rw [k33.2.2, (c_33 h).2]⟩
  · exact ⟨k34.1, by rw [k34.2.2, (c_34 h).2]⟩
  · exact ⟨k35.1, by rw [k35.2.2, (c_35 h).2]⟩
  · exact ⟨k36.1, by rw [k36.2.2, (c_36 h).2]⟩
  · exact ⟨k37.1, by rw [k37.2.2, (c_37 h).2]⟩
theorem kp_BL {V V' : gV} (h : gModBL V) (hk : ∀ k, k ∈ [40, 41, 42, 43, 44, 45, 46, 47, 48, 49, 50, 51] → gSt k V V')  : gModBL V' := by
  have k40 : gSt 40 V V' := hk 40 (by decide)
  have k41 : gSt 41 V V' := hk 41 (by decide)
  have k42 : gSt 42 V V' := hk 42 (by decide)
  have k43 : gSt 43 V V' := hk 43 (by decide)
  have k44 : gSt 44 V V' := hk 44 (by decide)
  have k45 : gSt 45 V V' := hk 45 (by decide)
  have k46 : gSt 46 V V' := hk 46 (by decide)
  have k47 : gSt 47 V V' := hk 47 (by decide)
  have k48 : gSt 48 V V' := hk 48 (by decide)
  have k49 : gSt 49 V V' := hk 49 (by decide)
  have k50 : gSt 50 V V' := hk 50 (by decide)
  have k51 : gSt 51 V V' := hk 51 (by decide)
  intro q hq
  simp only [gLsBL, List.mem_cons, List.not_mem_nil, or_false] at hq
  rcases hq with rfl | rfl | rfl | rfl | rfl | rfl | rfl | rfl | rfl | rfl | rfl | rfl
  · exact ⟨k40.1, by rw [k40.2.2, (c_40 h).2, k41.2.1, k48.2.1, k49.2.1, k50.2.1, k51.2.1]⟩
  · exact ⟨k41.1, k41.2.2.trans ((c_41 h).2.trans (congrArg (fun z => (Sum.inr (4, 6, z) : gD)) (gfam_congr (fun j hj => by rcases (show j = 0 ∨ j = 1 ∨ j = 2 ∨ j = 3 ∨ j = 4 ∨ j = 5 by omega) with rfl | rfl | rfl | rfl | rfl | rfl <;> first | exact k42.2.1 | exact k43.2.1 | exact k44.2.1 | exact k45.2.1 | exact k46.2.1 | exact k47.2.1))))⟩
  · exact ⟨k42.1, by rw [k42.2.2, (c_42 h).2]⟩
  · exact ⟨k43.1, by rw [k43.2.2, (c_43 h).2]⟩
  · exact ⟨k44.1, by rw [k44.2.2, (c_44 h).2]⟩
  · exact ⟨k45.1, by rw [k45.2.2, (c_45 h).2]⟩
  · exact ⟨k46.1, by rw [k46.2.2, (c_46 h).2]⟩
  · exact ⟨k47.1, by rw [k47.2.2, (c_47 h).2]⟩
  · exact ⟨k48.1, by rw [k48.2.2, (c_48 h).2]⟩
  · exact ⟨k49.1, by rw [k49.2.2, (c_49 h).2]⟩
  · exact ⟨k50.1, by rw [k50.2.2, (c_50 h).2]⟩
  · exact ⟨k51.1, by rw [k51.2.2, (c_51 h).2]⟩
theorem kp_CO {V V' : gV} (h : gModCO V) (hk : ∀ k, k ∈ [60, 61, 62] → gSt k V V')  : gModCO V' := by
  have k60 : gSt 60 V V' := hk 60 (by decide)
  have k61 : gSt 61 V V' := hk 61 (by decide)
  have k62 : gSt 62 V V' := hk 62 (by decide)
  intro q hq
  simp only [gLsCO, List.mem_cons, List.not_mem_nil, or_false] at hq
  rcases hq with rfl | rfl | rfl
  · exact ⟨k60.1, by rw [k60.2.2, (c_60 h).2, k61.2.1, k62.2.1]⟩
  · exact ⟨k61.1, by rw [k61.2.2, (c_61 h).2]⟩
  · exact ⟨k62.1, by rw [k62.2.2, (c_62 h).2]⟩
theorem kp_RG {room : Nat} {V V' : gV} (h : gModRG room V) (hk : ∀ k, k ∈ [70, 71, 72, 73, 74, 75, 76, 77, 78, 79, 80, 81, 82, 83, 84, 85, 86, 87, 88, 89, 90, 91, 92, 93] → gSt k V V') (he10 : V'.2.1 10 = V.2.1 10) : gModRG room V' := by
  have k70 : gSt 70 V V' := hk 70 (by decide)
  have k71 : gSt 71 V V' := hk 71 (by decide)
  have k72 : gSt 72 V V' := hk 72 (by decide)
  have k73 : gSt 73 V V' := hk 73 (by decide)
  have k74 : gSt 74 V V' := hk 74 (by decide)
  have k75 : gSt 75 V V' := hk 75 (by decide)
  have k76 : gSt 76 V V' := hk 76 (by decide)
  have k77 : gSt 77 V V' := hk 77 (by decide)
  have k78 : gSt 78 V V' := hk 78 (by decide)
  have k79 : gSt 79 V V' := hk 79 (by decide)
  have k80 : gSt 80 V V' := hk 80 (by decide)
  have k81 : gSt 81 V V' := hk 81 (by decide)
  have k82 : gSt 82 V V' := hk 82 (by decide)
  have k83 : gSt 83 V V' := hk 83 (by decide)
  have k84 : gSt 84 V V' := hk 84 (by decide)
  have k85 : gSt 85 V V' := hk 85 (by decide)
  have k86 : gSt 86 V V' := hk 86 (by decide)
  have k87 : gSt 87 V V' := hk 87 (by decide)
  have k88 : gSt 88 V V' := hk 88 (by decide)
  have k89 : gSt 89 V V' := hk 89 (by decide)
  have k90 : gSt 90 V V' := hk 90 (by decide)
  have k91 : gSt 91 V V' := hk 91 (by decide)
  have k92 : gSt 92 V V' := hk 92 (by decide)
  have k93 : gSt 93 V V' := hk 93 (by decide)
  intro q hq
  simp only [gLsRG, List.mem_cons, List.not_mem_nil, or_false] at hq
  rcases hq with rfl | rfl | rfl | rfl | rfl | rfl | rfl | rfl | rfl | rfl | rfl | rfl | rfl | rfl | rfl | rfl | rfl | rfl | rfl | rfl | rfl | rfl | rfl | rfl
  · exact ⟨k70.1, by rw [k70.2.2, (c_70 h).2, he10, k71.2.1, k72.2.1, k73.2.1, k74.2.1, k75.2.1, k78.2.1, k81.2.1]⟩
  · exact ⟨k71.1, by rw [k71.2.2, (c_71 h).2]⟩
  · exact ⟨k72.1, by rw [k72.2.2, (c_72 h).2]⟩
  · exact ⟨k73.1, by rw [k73.2.2, (c_73 h).2]⟩
  · exact ⟨k74.1, by rw [k74.2.2, (c_74 h).2]⟩
  · exact ⟨k75.1, by rw [k75.2.2, (c_75 h).2, k76.2.1, k77.2.1]⟩
  · exact ⟨k76.1, by rw [k76.2.2, (c_76 h).2]⟩
  · exact ⟨k77.1, by rw [k77.2.2, (c_77 h).2]⟩
  · exact ⟨k78.1, by rw [k78.2.2, (c_78 h).2, k79.2.1, k80.2.1]⟩
  · exact ⟨k79.1, by rw [k79.2.2, (c_79 h).2]⟩
  · exact ⟨k80.1, by rw [k80.2.2, (c_80 h).2]⟩
  · exact ⟨k81.1, k81.2.2.trans ((c_81 h).2.trans (congrArg (fun z => (Sum.inr (5, 4, z) : gD)) (gfam_congr (fun j hj => by rcases (show j = 0 ∨ j = 1 ∨ j = 2 ∨ j = 3 by omega) with rfl | rfl | rfl | rfl <;> first | exact k82.2.1 | exact k83.2.1 | exact k84.2.1 | exact k85.2.1))))⟩
  · exact ⟨k82.1, by rw [k82.2.2, (c_82 h).2, k86.2.1, k90.2.1]⟩
  · exact ⟨k83.1, by rw [k83.2.2, (c_83 h).2, k87.2.1, k91.2.1]⟩
  · exact ⟨k84.1, by rw [k84.2.2, (c_84 h).2, k88.2.1, k92.2.1]⟩
  · exact ⟨k85.1, by rw [k85.2.2, (c_85 h).2, k89.2.1, k93.2.1]⟩
  · exact ⟨k86.1, by rw [k86.2.2, (c_86 h).2]⟩
  · exact ⟨k87.1, by rw [k87.2.2, (c_87 h).2]⟩
  · exact ⟨k88.1, by rw [k88.2.2, (c_88 h).2]⟩
  · exact ⟨k89.1, by rw [k89.2.2, (c_89 h).2]⟩
  · exact ⟨k90.1, by rw [k90.2.2, (c_90 h).2]⟩
  · exact ⟨k91.1, by rw [k91.2.2, (c_91 h).2]⟩
  · exact ⟨k92.1, by rw [k92.2.2, (c_92 h).2]⟩
  · exact ⟨k93.1, by rw [k93.2.2, (c_93 h).2]⟩
theorem kp_CV {V V' : gV} (h : gModCV V) (hk : ∀ k, k ∈ [94, 95, 96, 97, 98] → gSt k V V') (he20 : V'.2.1 20 = V.2.1 20) : gModCV V' := by
  have k94 : gSt 94 V V' := hk 94 (by decide)
  have k95 : gSt 95 V V' := hk 95 (by decide)
  have k96 : gSt 96 V V' := hk 96 (by decide)
  have k97 : gSt 97 V V' := hk 97 (by decide)
  have k98 : gSt 98 V V' := hk 98 (by decide)
  intro q hq
  simp only [gLsCV, List.mem_cons, List.not_mem_nil, or_false] at hq
  rcases hq with rfl | rfl | rfl | rfl | rfl
  · exact ⟨k94.1, by rw [k94.2.2, (c_94 h).2, he20, k95.2.1, k96.2.1, k97.2.1, k98.2.1]⟩
  · exact ⟨k95.1, by rw [k95.2.2, (c_95 h).2]⟩
  · exact ⟨k96.1, by rw [k96.2.2, (c_96 h).2]⟩
  · exact ⟨k97.1, by rw [k97.2.2, (c_97 h).2]⟩
  · exact ⟨k98.1, by rw [k98.2.2, (c_98 h).2]⟩
theorem kp_GR {V V' : gV} (h : gModGR V) (hk : ∀ k, k ∈ [99, 102, 103] → gSt k V V') (he40 : V'.2.1 40 = V.2.1 40) : gModGR V' := by
  have k99 : gSt 99 V V' := hk 99 (by decide)
  have k102 : gSt 102 V V' := hk 102 (by decide)
  have k103 : gSt 103 V V' := hk 103 (by decide)
  intro q hq
  simp only [gLsGR, List.mem_cons, List.not_mem_nil, or_false] at hq
  rcases hq with rfl | rfl | rfl
  · exact ⟨k99.1, by rw [k99.2.2, (c_99 h).2, he40, k102.2.1, k103.2.1]⟩
  · exact ⟨k102.1, by rw [k102.2.2, (c_102 h).2]⟩
  · exact ⟨k103.1, by rw [k103.2.2, (c_103 h).2]⟩
theorem kp_M {V V' : gV} (h : gModM V) (hk : ∀ k, k ∈ [200, 201, 202, 203, 204, 205, 206, 207, 208, 209, 210, 211, 212, 213, 214, 215, 216, 217, 218, 219, 220, 221, 222, 223, 224, 225, 226, 227, 228, 229, 230] → gSt k V V')  : gModM V' := by
  have k200 : gSt 200 V V' := hk 200 (by decide)
  have k201 : gSt 201 V V' := hk 201 (by decide)
  have k202 : gSt 202 V V' := hk 202 (by decide)
  have k203 : gSt 203 V V' := hk 203 (by decide)
  have k204 : gSt 204 V V' := hk 204 (by decide)
  have k205 : gSt 205 V V' := hk 205 (by decide)
  have k206 : gSt 206 V V' := hk 206 (by decide)
  have k207 : gSt 207 V V' := hk 207 (by decide)
  have k208 : gSt 208 V V' := hk 208 (by decide)
  have k209 : gSt 209 V V' := hk 209 (by decide)
  have k210 : gSt 210 V V' := hk 210 (by decide)
  have k211 : gSt 211 V V' := hk 211 (by decide)
  have k212 : gSt 212 V V' := hk 212 (by decide)
  have k213 : gSt 213 V V' := hk 213 (by decide)
  have k214 : gSt 214 V V' := hk 214 (by decide)
  have k215 : gSt 215 V V' := hk 215 (by decide)
  have k216 : gSt 216 V V' := hk 216 (by decide)
  have k217 : gSt 217 V V' := hk 217 (by decide)
  have k218 : gSt 218 V V' := hk 218 (by decide)
  have k219 : gSt 219 V V' := hk 219 (by decide)
  have k220 : gSt 220 V V' := hk 220 (by decide)
  have k221 : gSt 221 V V' := hk 221 (by decide)
  have k222 : gSt 222 V V' := hk 222 (by decide)
  have k223 : gSt 223 V V' := hk 223 (by decide)
  have k224 : gSt 224 V V' := hk 224 (by decide)
  have k225 : gSt 225 V V' := hk 225 (by decide)
  have k226 : gSt 226 V V' := hk 226 (by decide)
  have k227 : gSt 227 V V' := hk 227 (by decide)
  have k228 : gSt 228 V V' := hk 228 (by decide)
  have k229 : gSt 229 V V' := hk 229 (by decide)
  have k230 : gSt 230 V V' := hk 230 (by decide)
  intro q hq
  simp only [gLsM, List.mem_cons, List.not_mem_nil, or_false] at hq
  rcases hq with rfl | rfl | rfl | rfl | rfl | rfl | rfl | rfl | rfl | rfl | rfl | rfl | rfl | rfl | rfl | rfl | rfl | rfl | rfl | rfl | rfl | rfl | rfl | rfl | rfl | rfl | rfl | rfl | rfl | rfl | rfl
  · exact ⟨k200.1, by rw [k200.2.2, (c_200 h).2, k201.2.1, k202.2.1, k203.2.1, k204.2.1, k205.2.1, k206.2.1, k207.2.1, k208.2.1, k209.2.1, k210.2.1, k211.2.1, k212.2.1, k213.2.1, k214.2.1, k215.2.1, k216.2.1, k217.2.1, k218.2.1, k219.2.1, k220.2.1, k221.2.1, k222.2.1, k223.2.1, k224.2.1, k225.2.1, k226.2.1, k227.2.1, k228.2.1, k229.2.1, k230.2.1]⟩
  · exact ⟨k201.1, by rw [k201.2.2, (c_201 h).2]⟩
  · exact ⟨k202.1, by rw [k202.2.2, (c_202 h).2]⟩
  · exact ⟨k203.1, by rw [k203.2.2, (c_203 h).2]⟩
  · exact ⟨k204.1, by rw [k204.2.2, (c_204 h).2]⟩
  · exact ⟨k205.1, by rw [k205.2.2, (c_205 h).2]⟩
  · exact ⟨k206.1, by rw [k206.2.2, (c_206 h).2]⟩
  · exact ⟨k207.1, by rw [k207.2.2, (c_207 h).2]⟩
  · exact ⟨k208.1, by rw [k208.2.2, (c_208 h).2]⟩
  · exact ⟨k209.1, by rw [k209.2.2, (c_209 h).2]⟩
  · exact ⟨k210.1, by rw [k210.2.2, (c_210 h).2]⟩
  · exact ⟨k211.1, by rw [k211.2.2, (c_211 h).2]⟩
  · exact ⟨k212.1, by rw [k212.2.2, (c_212 h).2]⟩
  · exact ⟨k213.1, by rw [k213.2.2, (c_213 h).2]⟩
  · exact ⟨k214.1, by rw [k214.2.2, (c_214 h).2]⟩
  · exact ⟨k215.1, by rw [k215.2.2, (c_215 h).2]⟩
  · exact ⟨k216.1, by rw [k216.2.2, (c_216 h).2]⟩
  · exact ⟨k217.1, by rw [k217.2.2, (c_217 h).2]⟩
  · exact ⟨k218.1, by rw [k218.2.2, (c_218 h).2]⟩
  · exact ⟨k219.1, by rw [k219.2.2, (c_219 h).2]⟩
  · exact ⟨k220.1, by rw [k220.2.2, (c_220 h).2]⟩
  · exact ⟨k221.1, by rw [k221.2.2, (c_221 h).2]⟩
  · exact ⟨k222.1, by rw [k222.2.2, (c_222 h).2]⟩
  · exact ⟨k223.1, by rw [k223.2.2, (c_223 h).2]⟩
  · exact ⟨k224.1, by rw [k224.2.2, (c_224 h).2]⟩
  · exact ⟨k225.1, by rw [k225.2.2, (c_225 h).2]⟩
  · exact ⟨k226.1, by rw [k226.2.2, (c_226 h).2]⟩
  · exact ⟨k227.1, by rw [k227.2.2, (c_227 h).2]⟩
  · exact ⟨k228.1, by rw [k228.2.2, (c_228 h).2]⟩
  · exact ⟨k229.1, by rw [k229.2.2, (c_229 h).2]⟩
  · exact ⟨k230.1, by rw [k230.2.2, (c_230 h).2]⟩
theorem kp_T {pr pc pg : Option Nat} {V V' : gV} (h : gModT pr pc pg V) (k0 : gSt 0 V V') (k10 : V'.2.1 10 = V.2.1 10) (k20 : V'.2.1 20 = V.2.1 20) (k40 : V'.2.1 40 = V.2.1 40) (k60 : V'.2.1 60 = V.2.1 60) : gModT pr pc pg V' := ⟨k0.1, by rw [k0.2.2, h.2, k10, k20, k40, k60]⟩
