/-! the cells of a module are there -/
theorem mem_TS {V : gV} (h : gModTS V) : ∀ k, k ∈ [10, 11, 12, 13, 14] → k ∈ V.1 := fun k hk => by
  have e : (gLsTS V).map (fun q => q.1) = [10, 11, 12, 13, 14] := rfl
  rw [← e] at hk
  obtain ⟨q, hq, rfl⟩ := List.mem_map.mp hk
  exact (h q hq).1
theorem mem_JG {V : gV} (h : gModJG V) : ∀ k, k ∈ [20, 21, 22, 23, 24, 25, 26, 27, 28, 29, 30, 31, 32, 33, 34, 35, 36, 37] → k ∈ V.1 := fun k hk => by
  have e : (gLsJG V).map (fun q => q.1) = [20, 21, 22, 23, 24, 25, 26, 27, 28, 29, 30, 31, 32, 33, 34, 35, 36, 37] := rfl
  rw [← e] at hk
  obtain ⟨q, hq, rfl⟩ := List.mem_map.mp hk
  exact (h q hq).1
theorem mem_BL {V : gV} (h : gModBL V) : ∀ k, k ∈ [40, 41, 42, 43, 44, 45, 46, 47, 48, 49, 50, 51] → k ∈ V.1 := fun k hk => by
  have e : (gLsBL V).map (fun q => q.1) = [40, 41, 42, 43, 44, 45, 46, 47, 48, 49, 50, 51] := rfl
  rw [← e] at hk
  obtain ⟨q, hq, rfl⟩ := List.mem_map.mp hk
  exact (h q hq).1
theorem mem_CO {V : gV} (h : gModCO V) : ∀ k, k ∈ [60, 61, 62] → k ∈ V.1 := fun k hk => by
  have e : (gLsCO V).map (fun q => q.1) = [60, 61, 62] := rfl
  rw [← e] at hk
  obtain ⟨q, hq, rfl⟩ := List.mem_map.mp hk
  exact (h q hq).1
theorem mem_RG {room : Nat} {V : gV} (h : gModRG room V) : ∀ k, k ∈ [70, 71, 72, 73, 74, 75, 76, 77, 78, 79, 80, 81, 82, 83, 84, 85, 86, 87, 88, 89, 90, 91, 92, 93] → k ∈ V.1 := fun k hk => by
  have e : (gLsRG room V).map (fun q => q.1) = [70, 71, 72, 73, 74, 75, 76, 77, 78, 79, 80, 81, 82, 83, 84, 85, 86, 87, 88, 89, 90, 91, 92, 93] := rfl
  rw [← e] at hk
  obtain ⟨q, hq, rfl⟩ := List.mem_map.mp hk
  exact (h q hq).1
theorem mem_CV {V : gV} (h : gModCV V) : ∀ k, k ∈ [94, 95, 96, 97, 98] → k ∈ V.1 := fun k hk => by
  have e : (gLsCV V).map (fun q => q.1) = [94, 95, 96, 97, 98] := rfl
  rw [← e] at hk
  obtain ⟨q, hq, rfl⟩ := List.mem_map.mp hk
  exact (h q hq).1
theorem mem_GR {V : gV} (h : gModGR V) : ∀ k, k ∈ [99, 102, 103] → k ∈ V.1 := fun k hk => by
  have e : (gLsGR V).map (fun q => q.1) = [99, 102, 103] := rfl
  rw [← e] at hk
  obtain ⟨q, hq, rfl⟩ := List.mem_map.mp hk
  exact (h q hq).1
theorem mem_M {V : gV} (h : gModM V) : ∀ k, k ∈ [200, 201, 202, 203, 204, 205, 206, 207, 208, 209, 210, 211, 212, 213, 214, 215, 216, 217, 218, 219, 220, 221, 222, 223, 224, 225, 226, 227, 228, 229, 230] → k ∈ V.1 := fun k hk => by
  have e : (gLsM V).map (fun q => q.1) = [200, 201, 202, 203, 204, 205, 206, 207, 208, 209, 210, 211, 212, 213, 214, 215, 216, 217, 218, 219, 220, 221, 222, 223, 224, 225, 226, 227, 228, 229, 230] := rfl
  rw [← e] at hk
  obtain ⟨q, hq, rfl⟩ := List.mem_map.mp hk
  exact (h q hq).1
/-- all modules but cell 0's word are as they were -/
def gWx (r cv gr : Bool) (room : Nat) (V : gV) : Prop := gModTS V ∧ gModJG V ∧ gModBL V ∧ gModCO V ∧ gModM V ∧ (r = true → gModRG room V) ∧ (cv = true → gModCV V) ∧ (gr = true → gModGR V)
theorem gWl_x {v1 v2 : Nat} {r cv gr : Bool} {room : Nat} {V : gV} (h : gWl v1 v2 r cv gr room V) : gWx r cv gr room V := by
  obtain ⟨_, _, _, _, h1, h2, h3, h4, h5, h6, _, h7, _, h8, _⟩ := h
  exact ⟨h1, h2, h3, h4, h5, h6, h7, h8⟩
theorem gWx_keep {r cv gr : Bool} {room : Nat} {V V' : gV} (h : gWx r cv gr room V) (hs : ∀ k, k ∈ V.1 → k ≠ 0 → gSt k V V') : gWx r cv gr room V' := by
  obtain ⟨h1, h2, h3, h4, h5, h6, h7, h8⟩ := h
  have st : ∀ {S : List Nat}, (∀ k, k ∈ S → k ∈ V.1) → 0 ∉ S → ∀ k, k ∈ S → gSt k V V' := fun hS h0 k hk => hs k (hS k hk) (fun e => h0 (e ▸ hk))
  have a10 := (st (mem_TS h1) (by decide) 10 (by decide)).2.1
  have a20 := (st (mem_JG h2) (by decide) 20 (by decide)).2.1
  have a40 := (st (mem_BL h3) (by decide) 40 (by decide)).2.1
  exact ⟨kp_TS h1 (st (mem_TS h1) (by decide)), kp_JG h2 (st (mem_JG h2) (by decide)), kp_BL h3 (st (mem_BL h3) (by decide)), kp_CO h4 (st (mem_CO h4) (by decide)), kp_M h5 (st (mem_M h5) (by decide)), fun e => kp_RG (h6 e) (st (mem_RG (h6 e)) (by decide)) a10, fun e => kp_CV (h7 e) (st (mem_CV (h7 e)) (by decide)) a20, fun e => kp_GR (h8 e) (st (mem_GR (h8 e)) (by decide)) a40⟩
theorem p_begin {n a : Nat} {bl : Nat → Nat → Nat} {l : Nat} (hl : l < n) (hn : n ≤ 6) {I : gI} {J : gL} {Po : gI → gL → Prop} (h : ∀ I' J', gSm [99] I I' → gJm [99, 102] J J' → gwS n a bl l 0 I' J' → (∀ j, j < 21 → J' 102 j = 0) → Po I' J') : wp_X3_begin (nI l) I J Po := by
  unfold wp_X3_begin
  intro I1 e1 J2 e2 J3 e3
  refine p_fillL (by decide) (fun J4 h1 h2 h3 => ?_)
  refine h I1 J4 (by rw [e1]; exact gSm_u (gSm_r I) (by decide)) (fun k hk => ?_) ⟨fun c hc => ?_, fun c hc => ?_, fun c hc => ?_⟩ h2
  · simp only [List.mem_cons, List.not_mem_nil, or_false, not_or] at hk
    rw [h1 k hk.2, e3, gup_o hk.1, e2, gup_o hk.1]
  · rw [e1, gup_at, bit_one (by omega) hc, decide_eq_true_eq]
    exact ⟨fun z => z.symm, fun z => Eq.symm z⟩
  · rw [h1 99 (by decide), e3, gup_ne (by decide), e2, gup_at, lb_0]
    exact ⟨fun z => absurd z (by decide), fun z => absurd (show l = 6 + c from z) (by omega)⟩
  · rw [h1 99 (by decide), e3, gup_at, lb_0]
    exact ⟨fun z => absurd z (by decide), fun z => absurd (show l = 6 + c from z) (by omega)⟩
theorem RelL_99 {n a : Nat} {bl : Nat → Nat → Nat} {I I' : gI} (hR : RelL n a bl I) (g : gSm [99, 102, 103] I I') : RelL n a bl I' := RelL_sm hR (g 40 (by decide)) (fun j _ => by rw [g 200 (by decide)]) (fun l hl => g _ (by simp only [List.mem_cons, List.not_mem_nil, or_false]; omega)) (g 222 (by decide))
theorem p_firstBeside {n a : Nat} {bl : Nat → Nat → Nat} {I : gI} {J : gL} (hR : RelL n a bl I) {l i m w : Nat} (hl : l < n) (hi : i < n) (hm : m < n) (hw : w < 2) (hS : gwS n a bl l 0 I J) {Po : Int32 → gI → gL → Prop}
    (h1 : ∀ k I' J', gSm [99] I I' → gJm [99] J J' → k ≤ 42 → wk (bsR n a bl w) k l (6 + (6 * i + m)) → (∀ j, j < k → ¬ wk (bsR n a bl w) j l (6 + (6 * i + m))) → Po (nI k) I' J')
    (h2 : ∀ I' J', gSm [99] I I' → gJm [99] J J' → (∀ j, j ≤ 42 → ¬ wk (bsR n a bl w) j l (6 + (6 * i + m))) → Po (-1) I' J') : wp_X3_firstBeside (nI i) (nI m) (nI w) I J Po := by
  have hR0 := hR
  obtain ⟨hn1, hn6, ha2, ha3, l0, m0, l1, m1, hb⟩ := hR0
  unfold wp_X3_firstBeside w_X3_firstBeside_3
  refine gl3 (N := 43) (i0 := 1) (fun K v I J => w_X3_firstBeside_3b Po K (nI i) (nI m) (nI w) v I J) (fun k I' J' => 1 ≤ k ∧ gSm [99] I I' ∧ gJm [99] J J' ∧ gwS n a bl l (k - 1) I' J' ∧ ∀ j, j < k → ¬ wk (bsR n a bl w) j l (6 + (6 * i + m))) (by omega) (by omega) ⟨Nat.le_refl _, gSm_r I, gJm_r J, hS, fun j hj hwj => ?_⟩ ?_
  · obtain rfl : j = 0 := by omega
    have : l = 6 + (6 * i + m) := hwj
    omega
  rintro k I1 J1 hk ⟨k1, g1, g2, g3, g4⟩ K kk
  unfold w_X3_firstBeside_3b
  refine pk_lt 42 k (fun hz => ?_) (fun hz => ?_) rfl rfl
  · exact h2 I1 J1 g1 g2 (fun j hj => g4 j (by omega))
  · refine p_growS (RelL_99 hR (gSm_w g1 (by decide))) hl g3 (fun I2 J2 g5 g6 g7 => ?_)
    rw [show k - 1 + 1 = k by omega] at g7
    have g5' := gSm_t g1 g5
    have g6' := gJm_t g2 g6
    have fin : ∀ s0 : Int64, (∀ c, c < 64 → (lb s0 c = true ↔ wk (bsR n a bl w) k l (6 + c))) → w_X3_firstBeside_29 Po K (nI i) (nI m) (nI w) (nI k) s0 I2 J2 := by
      intro s0 hs
      unfold w_X3_firstBeside_29
      refine p_pair (by omega) (by omega) ⟨fun q => ?_, fun q => ?_⟩
      · have hn := (lb_test s0 (s := 6 * i + m) (by omega)).mp q
        rw [lb_iff (hs _ (by omega))] at hn
        intro n7 e7
        rw [nI_1] at e7
        subst e7
        refine kk (by omega) I2 J2 ⟨by omega, g5', g6', g7, fun j hj => ?_⟩
        by_cases e : j = k
        · subst e; exact hn
        · exact g4 j (by omega)
      · have hp : wk (bsR n a bl w) k l (6 + (6 * i + m)) := Classical.byContradiction fun hn => q ((lb_test s0 (s := 6 * i + m) (by omega)).mpr ((lb_iff (hs _ (by omega))).mpr hn))
        exact h1 k I2 J2 g5' g6' (by omega) hp g4
    rcases (show w = 0 ∨ w = 1 by omega) with rfl | rfl
    · exact ⟨fun q => absurd rfl q, fun _ => fin _ g7.2.1⟩
    · exact ⟨fun _ => fin _ g7.2.2, fun q => absurd q one_ne⟩
theorem p_growthOf {n a : Nat} {bl : Nat → Nat → Nat} {v1 v2 : Nat} {r cv gr : Bool} {room mc ms : Nat} {V : gV} {I : gI} {J : gL} (hW : gWl v1 v2 r cv gr room V) {l : Nat} (hl : l < n) (hn : n ≤ 6) (hc : gr = true ∨ 3 ≤ mc ∧ 48 ≤ ms) {Po : Nat → gV → gI → gL → Prop}
    (hPo : ∀ V' I' J', gWl v1 v2 r cv true room V' → gSm [99, 102, 103] I I' → gJm [99, 102, 103] J J' → gwS n a bl l 0 I' J' → (∀ j, j < 21 → J' 102 j = 0) → Po (V'.2.1 99) V' I' J') : wA_X9_growthOf mc ms v1 (nI l) V I J Po := by
  have hX := gWl_x hW
  obtain ⟨w1, w2, w3, wT, wTS, wJG, wBL, wCO, wM, wr, wr', wc, wc', wg, wg'⟩ := id hW
  have last : ∀ (V3 : gV) (c s : Nat) (I3 : gI) (J3 : gL), gWl v1 v2 r cv true room V3 → gSm [99, 102, 103] I I3 → gJm [99, 102, 103] J J3 → wA_X9_growthOf_22 mc ms Po v1 (nI l) V3 c s I3 J3 := by
    intro V3 c s I3 J3 h3 k1 k2
    obtain ⟨x1, x2, x3, xT, xTS, xJG, xBL, xCO, xM, xr, xr', xc, xc', xg, xg'⟩ := id h3
    unfold wA_X9_growthOf_22
    refine ⟨_, V3.2.1 99, xT.1, x2, xT.2, rfl, xBL, xg rfl, rfl, ?_⟩
    refine p_begin (a := a) (bl := bl) hl hn (fun I4 J4 g1 g2 g3 g4 => ⟨_, V3.2.1 99, xT.1, x2, xT.2, rfl, ?_⟩)
    exact hPo V3 I4 J4 h3 (gSm_t k1 (gSm_w g1 (by decide))) (gJm_t k2 (gJm_w g2 (by decide))) g3 g4
  unfold wA_X9_growthOf
  refine ⟨_, (if gr then some (V.2.1 99) else none), wT.1, w2, wT.2, rfl, fun e => ?_, fun b6 e => ?_⟩
  · cases gr with
    | true => cases e
    | false =>
      have hc' : 3 ≤ mc ∧ 48 ≤ ms := hc.resolve_left (by decide)
      have nw := wg' rfl
      refine ⟨nw 99 (by omega) (by omega), by omega, by omega, ?_⟩
      intro b12 V11 e11 I13 J14 e13 e14
      have k11 : ∀ k, k ≠ 99 → V11.2.1 k = V.2.1 k ∧ V11.2.2 k = V.2.2 k := fun k hk => by rw [e11]; exact ⟨gadd_o1 hk, gadd_o2 hk⟩
      have m11 : V11.1 = V.1 ++ [99] := by rw [e11]; rfl
      have z0 : 0 ∈ V11.1 := by rw [m11]; exact List.mem_append_left _ wT.1
      refine ⟨_, V.2.1 40, z0, by rw [(k11 0 (by decide)).1]; exact w2, by rw [(k11 0 (by decide)).2]; exact wT.2, rfl, 2, 42, by omega, by omega, ?_⟩
      refine s_X3_init (Nat.le_refl _) (Nat.le_refl _) (by rw [m11]; simp) (by rw [e11]; simp [gadd, va_up]) (by rw [e11]; simp [gadd, va_up]) (k11 40 (by decide)).1 (fun k h1 h2 => ?_) ?_
      · rw [m11]
        intro hm
        rcases List.mem_append.mp hm with h | h
        · exact nw k (by omega) (by omega) h
        · simp at h; omega
      intro V25 I26 J27 mG a99 m25 kp i1 i2 j1 j2 sm jm j3 j4
      have k25 : ∀ k, k ∉ [99, 102, 103] → V25.2.1 k = V.2.1 k ∧ V25.2.2 k = V.2.2 k := fun k hk => by
        have h99 : k ≠ 99 := fun e => hk (by rw [e]; decide)
        rw [(kp k hk).1, (kp k hk).2]
        exact k11 k h99
      have mm : V25.1 = V.1 ++ [99, 102, 103] := by rw [m25, m11, List.append_assoc]; rfl
      refine ⟨_, by rw [mm]; exact List.mem_append_left _ wT.1, by rw [(k25 0 (by decide)).1]; exact w2, by rw [(k25 0 (by decide)).2]; exact wT.2, Nat.le_of_ble_eq_true rfl, ?_⟩
      intro V33 e33
      have k33 : ∀ k, k ∉ [0, 99, 102, 103] → V33.2.1 k = V.2.1 k ∧ V33.2.2 k = V.2.2 k := fun k hk => by
        have hk2 : k ∉ [99, 102, 103] := fun h => hk (List.mem_cons_of_mem _ h)
        have hk0 : k ≠ 0 := fun e => hk (by rw [e]; decide)
        rw [e33]
        exact ⟨(k25 k hk2).1, by rw [gde_o hk0]; exact (k25 k hk2).2⟩
      have ad33 : ∀ k, V33.2.1 k = V25.2.1 k := fun k => by rw [e33]; rfl
      have m33 : V33.1 = V.1 ++ [99, 102, 103] := by rw [e33]; exact mm
      have hx33 : gWx r cv false room V33 := gWx_keep hX (fun k hk h0 => ⟨by rw [m33]; exact List.mem_append_left _ hk, (k33 k (fun h => ?_)).1, (k33 k (fun h => ?_)).2⟩)
      · obtain ⟨y1, y2, y3, y4, y5, y6, y7, y8⟩ := hx33
        have mG33 : gModGR V33 := kp_GR mG (fun k hk => ⟨by rw [m33]; exact List.mem_append_right _ hk, ad33 k, by rw [e33]; exact gde_o (fun e => by rw [e] at hk; exact absurd hk (by decide))⟩) (ad33 40)
        refine last V33 _ _ I26 J27 ⟨?_, ?_, ?_, ?_, y1, y2, y3, y4, y5, y6, fun e k h1 h2 => ?_, y7, fun e k h1 h2 => ?_, fun _ => mG33, fun h => by cases h⟩ ?_ ?_
        · rw [m33, List.nodup_append]
          refine ⟨w1, by decide, fun x hx y hy e => ?_⟩
          subst e
          simp only [List.mem_cons, List.not_mem_nil, or_false] at hy
          exact nw x (by omega) (by omega) hx
        · rw [ad33, (k25 0 (by decide)).1]; exact w2
        · rw [(k33 200 (by decide)).1]; exact w3
        · refine ⟨by rw [m33]; exact List.mem_append_left _ wT.1, ?_⟩
          rw [(k33 10 (by decide)).1, (k33 20 (by decide)).1, (k33 40 (by decide)).1, (k33 60 (by decide)).1, (k33 70 (by decide)).1, (k33 94 (by decide)).1, ad33 99, a99, e33]
          simp [gde, va_up]
        · rw [m33]
          intro hm
          rcases List.mem_append.mp hm with h | h
          · exact wr' e k h1 h2 h
          · simp only [List.mem_cons, List.not_mem_nil, or_false] at h; omega
        · rw [m33]
          intro hm
          rcases List.mem_append.mp hm with h | h
          · exact wc' e k h1 h2 h
          · simp only [List.mem_cons, List.not_mem_nil, or_false] at h; omega
        · intro k hk
          rw [sm k hk, e13, guc_o (fun e => hk (by rw [e]; decide))]
        · intro k hk
          rw [jm k hk, e14, guc_o (fun e => hk (by rw [e]; decide))]
      · simp only [List.mem_cons, List.not_mem_nil, or_false] at h
        rcases h with h | h | h | h
        · exact h0 h
        · exact nw k (by omega) (by omega) hk
        · exact nw k (by omega) (by omega) hk
        · exact nw k (by omega) (by omega) hk
      · simp only [List.mem_cons, List.not_mem_nil, or_false] at h
        rcases h with h | h | h | h
        · exact h0 h
        · exact nw k (by omega) (by omega) hk
        · exact nw k (by omega) (by omega) hk
        · exact nw k (by omega) (by omega) hk
  · cases gr with
    | true => exact last V 0 0 I J hW (gSm_r I) (gJm_r J)
    | false => cases e
theorem bsR_lt {n a : Nat} {bl : Nat → Nat → Nat} (h2 : 2 ≤ a) (h3 : a ≤ 3) (hn : n ≤ 6) (hb : ∀ x, x < 6 → ∀ i, i < 9 → bl x i < n) {w : Nat} : ∀ u v, bsR n a bl w u v → v < 42 := by
  have hq : a * a ≤ 9 := by rcases (show a = 2 ∨ a = 3 by omega) with rfl | rfl <;> decide
  rintro u v (⟨hu, ⟨i, hi, rfl⟩ | ⟨c, hc, rfl⟩⟩ | ⟨x, y, c, hx, hy, _, hc, rfl⟩)
  · have := hb u (by omega) i (by omega); omega
  · have := insW_lt h2 h3 hn hb (by omega) hc; omega
  · have := acrW_lt h2 h3 hn hb (by omega) (by omega) hc; omega
theorem q_beside {n a : Nat} {bl : Nat → Nat → Nat} {v1 v2 : Nat} {r cv gr : Bool} {room mc ms : Nat} {V : gV} {I : gI} {J : gL} (hW : gWl v1 v2 r cv gr room V) (hR : RelL n a bl I) (hc : gr = true ∨ 3 ≤ mc ∧ 48 ≤ ms) (a1 a2 a3 a4 : Int32) {Po : Int32 → Int32 → gV → gI → gL → Prop} (hbad : Po (-2) (-2) V I J)
    (hok : ∀ x V' I' J', gWl v1 v2 r cv true room V' → gSm [99, 102, 103, 225] I I' → gJm [99, 102, 103] J J' → Po x x V' I' J') : wA_X9_beside mc ms v1 a1 a2 a3 a4 V I J (fun r1 V1 I1 J1 => wp_X10_beside a1 a2 a3 a4 I1 (fun r2 I2 => Po r1 r2 V1 I2 J1)) := by
  have hR0 := hR
  obtain ⟨hn1, hn6, ha2, ha3, l0, m0, l1, m1, hb⟩ := hR0
  have hb' : ∀ x, x < 6 → ∀ i, i < 9 → bl x i < n := fun x hx i hi => (hb x hx i hi).1
  obtain ⟨w1, w2, w3, wT, wTS, wJG, wBL, wCO, wM, wr, wr', wc, wc', wg, wg'⟩ := id hW
  have bad1 : ∀ {x : Int32}, ¬ inR x 0 (nI (n - 1)) → ∀ l, l < n → x ≠ nI l := fun hx l hl e => hx (by rw [e]; exact inR_of (lo := 0) (by omega) (by omega) (by omega))
  unfold wA_X9_beside
  refine ⟨_, _, _, wT, wBL, w2, p_isLetterC hR (fun l hl e1 => ⟨fun q => absurd q one_ne, fun _ => ?_⟩) (fun hno => ⟨fun _ => ?_, fun q => absurd rfl q⟩)⟩
  · subst e1
    refine ⟨_, _, _, wT, wBL, w2, p_isLetterC hR (fun i hi e2 => ⟨fun q => absurd q one_ne, fun _ => ?_⟩) (fun hno => ⟨fun _ => ?_, fun q => absurd rfl q⟩)⟩
    · subst e2
      refine ⟨_, _, _, wT, wBL, w2, p_isLetterC hR (fun m hm e3 => ⟨fun q => absurd q one_ne, fun _ => ?_⟩) (fun hno => ⟨fun _ => ?_, fun q => absurd rfl q⟩)⟩
      · subst e3
        refine p_isBetween (fun b4 => ⟨fun _ => ?_, fun q => absurd q one_ne⟩) (fun b4 => ⟨fun q => absurd rfl q, fun _ => ?_⟩)
        · obtain ⟨w, _, hw, rfl⟩ := inR_nI (lo := 0) (hi := 1) (by decide) (by decide) b4
          refine ⟨_, mc, ms, wT.1, w2, wT.2, by omega, by omega, ?_⟩
          refine p_growthOf (n := n) (a := a) (bl := bl) hW hl hn6 hc (fun V' I' J' hW' g1 g2 g3 g4 => ?_)
          refine ⟨hW'.2.2.2.2.2.2.1, hW'.2.2.2.2.2.2.2.2.2.2.2.2.2.1 rfl, rfl, ?_⟩
          have hR' := RelL_99 hR g1
          have model : ∀ (x : Int32) (I2 : gI) (J2 : gL), gSm [99] I' I2 → gJm [99] J' J2 → (∀ k, k < 90 → wk (bsR n a bl w) k l (6 + (6 * i + m)) → (∀ j, j < k → ¬ wk (bsR n a bl w) j l (6 + (6 * i + m))) → x = nI k) → ((∀ j, j < 90 → ¬ wk (bsR n a bl w) j l (6 + (6 * i + m))) → x = -1) → wp_X10_beside (nI l) (nI i) (nI m) (nI w) I2 (fun r2 I3 => Po x r2 V' I3 J2) := by
            intro x I2 J2 g5 g6 hx1 hx2
            have hR2 := RelL_99 hR' (gSm_w g5 (by decide))
            have tot : ∀ I3, gSm [225] I2 I3 → gSm [99, 102, 103, 225] I I3 := fun I3 g7 => gSm_t (gSm_w g1 (by decide)) (gSm_t (gSm_w g5 (by decide)) (gSm_w g7 (by decide)))
            have totj : gJm [99, 102, 103] J J2 := gJm_t g2 (gJm_w g6 (by decide))
            unfold wp_X10_beside
            refine p_isLetterM hR2 (fun _ _ _ => ⟨fun q => absurd q one_ne, fun _ => ?_⟩) (fun q => absurd rfl (bad1 q l hl))
            refine p_isLetterM hR2 (fun _ _ _ => ⟨fun q => absurd q one_ne, fun _ => ?_⟩) (fun q => absurd rfl (bad1 q i hi))
            refine p_isLetterM hR2 (fun _ _ _ => ⟨fun q => absurd q one_ne, fun _ => ?_⟩) (fun q => absurd rfl (bad1 q m hm))
            refine p_isIn (fun _ => ⟨fun _ => ?_, fun q => absurd q one_ne⟩) (fun q => absurd b4 q)
            refine p_besideM hR2 hl hi hm (by omega) (fun k I3 g7 k1 k2 k3 => ?_) (fun I3 g7 k1 => ?_)
            · rw [← hx1 k k1 k2 k3]; exact hok x V' I3 J2 hW' (tot I3 g7) totj
            · rw [← hx2 k1]; exact hok x V' I3 J2 hW' (tot I3 g7) totj
          refine p_firstBeside hR' hl hi hm (by omega) g3 (fun k I2 J2 g5 g6 k1 k2 k3 => ?_) (fun I2 J2 g5 g6 k1 => ?_)
          · refine model _ I2 J2 g5 g6 (fun k' j1 j2 j3 => ?_) (fun hno => absurd k2 (hno k (by omega)))
            rcases Nat.lt_trichotomy k k' with z | z | z
            · exact absurd k2 (j3 k z)
            · rw [z]
            · exact absurd j2 (k3 k' z)
          · refine model _ I2 J2 g5 g6 (fun k' j1 j2 j3 => ?_) (fun _ => rfl)
            obtain ⟨k2, h42, _, hk2⟩ := wk_short (N := 42) (bsR_lt ha2 ha3 hn6 hb') (show l < 42 by omega) k' j2
            exact absurd hk2 (k1 k2 (by omega))
        · show wp_X10_beside _ _ _ a4 I (fun r2 I2 => Po (-2) r2 V I2 J)
          unfold wp_X10_beside
          refine p_isLetterM hR (fun _ _ _ => ⟨fun q => absurd q one_ne, fun _ => ?_⟩) (fun q => absurd rfl (bad1 q l hl))
          refine p_isLetterM hR (fun _ _ _ => ⟨fun q => absurd q one_ne, fun _ => ?_⟩) (fun q => absurd rfl (bad1 q i hi))
          refine p_isLetterM hR (fun _ _ _ => ⟨fun q => absurd q one_ne, fun _ => ?_⟩) (fun q => absurd rfl (bad1 q m hm))
          exact p_isIn (fun q => absurd q b4) (fun _ => ⟨fun q => absurd rfl q, fun _ => hbad⟩)
      · show wp_X10_beside _ _ a3 a4 I (fun r2 I2 => Po (-2) r2 V I2 J)
        unfold wp_X10_beside
        refine p_isLetterM hR (fun _ _ _ => ⟨fun q => absurd q one_ne, fun _ => ?_⟩) (fun q => absurd rfl (bad1 q l hl))
        refine p_isLetterM hR (fun _ _ _ => ⟨fun q => absurd q one_ne, fun _ => ?_⟩) (fun q => absurd rfl (bad1 q i hi))
        exact p_isLetterM hR (fun m hm e => absurd e (bad1 hno m hm)) (fun _ => ⟨fun _ => hbad, fun q => absurd rfl q⟩)
    · show wp_X10_beside _ a2 a3 a4 I (fun r2 I2 => Po (-2) r2 V I2 J)
      unfold wp_X10_beside
      refine p_isLetterM hR (fun _ _ _ => ⟨fun q => absurd q one_ne, fun _ => ?_⟩) (fun q => absurd rfl (bad1 q l hl))
      exact p_isLetterM hR (fun m hm e => absurd e (bad1 hno m hm)) (fun _ => ⟨fun _ => hbad, fun q => absurd rfl q⟩)
  · show wp_X10_beside a1 a2 a3 a4 I (fun r2 I2 => Po (-2) r2 V I2 J)
    unfold wp_X10_beside
    exact p_isLetterM hR (fun m hm e => absurd e (bad1 hno m hm)) (fun _ => ⟨fun _ => hbad, fun q => absurd rfl q⟩)
