/-! searchOf: the search is made when it is first needed -/
def tOld (ver : Nat) (J : gL) : Prop := ∀ i, i < 16384 → ∃ key, key < 3 * ver * 67108864 ∧ J 95 i = lN key
theorem tOld_O {ver k n : Nat} {EL : Nat → List (Nat × Nat)} {J : gL} (h : tOld ver J) : tbO ver k n EL J := fun i hi => by
  obtain ⟨key, h1, h2⟩ := h i hi
  refine ⟨key, Nat.lt_of_lt_of_le h1 (Nat.mul_le_mul_right _ (Nat.le_add_right _ _)), h2, fun md u m _ _ _ e => ?_⟩
  have h3 : 3 * ver * 67108864 ≤ (3 * ver + md) * 67108864 := Nat.mul_le_mul_right _ (Nat.le_add_right _ _)
  have h4 : keyN ver md u m = (3 * ver + md) * 67108864 + (u * 1048576 + m) := Nat.add_assoc _ _ _
  rw [h4] at e
  exact absurd h1 (Nat.not_lt.mpr (Nat.le_trans h3 (by rw [e]; exact Nat.le_add_right _ _)))
theorem tO_old {ver k n : Nat} {EL : Nat → List (Nat × Nat)} {J : gL} (h : tbO ver k n EL J) : tOld (ver + 1) J := fun i hi => by
  obtain ⟨key, h1, h2, _⟩ := h i hi
  refine ⟨key, ?_, h2⟩
  rw [Nat.mul_add, Nat.mul_one]
  exact h1
theorem tOld_up {ver : Nat} {J : gL} (h : tOld ver J) : tOld (ver + 1) J := tO_old (k := 0) (n := 0) (EL := fun _ => []) (tOld_O h)
section
variable {n : Nat} {pc : Nat → Nat} {w h hs : Nat} {tu mr : Int32} {ver lv : Nat}
theorem p_searchOf {v1 v2 : Nat} {r cvb gr : Bool} {room mc ms : Nat} {V : gV} {I : gI} {J : gL} (hW : gWl v1 v2 r cvb gr room V) (hc : cvb = true ∨ 5 ≤ mc ∧ 32906 ≤ ms) (hR : RelP n pc w h hs tu mr ver lv I) (hv1 : 1 ≤ ver) (hver : ver < 1073741824) {L : Nat → Nat → List Nat} (hL : lv = ver → Lst n pc w h hs tu mr L I) (hTb : cvb = true → (lv = ver → tbO ver (w * h) n (fun s => elP L s n) J) ∧ (lv ≠ ver → tOld ver J)) {mode : Nat} (hmo : mode < 3) {Po : Nat → gV → gI → gL → Prop}
    (hPo : ∀ V' I' J' L', gWl v1 v2 r true gr room V' → gSm (lsC ++ [94, 95, 96, 97, 98]) I I' → gJm [94, 95, 96, 97, 98] J J' → RelP n pc w h hs tu mr ver ver I' → Lst n pc w h hs tu mr L' I' → ScX n (szP pc) (w * h) mode I' → tbO ver (w * h) n (fun s => elP L' s n) J' → Po (V'.2.1 94) V' I' J') : wA_X9_searchOf mc ms v1 (nI mode) V I J Po := by
  have hX := gWl_x hW
  obtain ⟨w1, w2, w3, wT, wTS, wJG, wBL, wCO, wM, wr, wr', wc, wc', wg, wg'⟩ := id hW
  have last : ∀ (V3 : gV) (c s : Nat) (I3 : gI) (J3 : gL), gWl v1 v2 r true gr room V3 → gSm [94, 95, 96, 97, 98] I I3 → gJm [94, 95, 96, 97, 98] J J3 → ((lv = ver → tbO ver (w * h) n (fun s => elP L s n) J3) ∧ (lv ≠ ver → tOld ver J3)) → wA_X9_searchOf_22 mc ms Po v1 (nI mode) V3 c s I3 J3 := by
    intro V3 c s I3 J3 h3 k1 k2 k3
    obtain ⟨x1, x2, x3, xT, xTS, xJG, xBL, xCO, xM, xr, xr', xc, xc', xg, xg'⟩ := id h3
    have hR3 : RelP n pc w h hs tu mr ver lv I3 := RelP_k hR (fun j _ => by rw [k1 20 (by decide)]) (k1 21 (by decide)) (fun j _ => by rw [k1 200 (by decide)]) (k1 210 (by decide))
    have hL3 : lv = ver → Lst n pc w h hs tu mr L I3 := fun e => Lst_k (hL e) hR.1.1 k1 (fun k h1 h2 => by simp only [List.mem_cons, List.not_mem_nil, or_false]; omega)
    unfold wA_X9_searchOf_22
    refine ⟨_, V3.2.1 94, xT.1, x2, xT.2, rfl, xJG, xc rfl, rfl, ?_⟩
    refine p_prepare hR3 hver hL3 hmo (fun I4 L4 g1 hR4 hL4 hX4 hLe => ⟨_, V3.2.1 94, xT.1, x2, xT.2, rfl, ?_⟩)
    refine hPo V3 I4 J3 L4 h3 (gSm_t (gSm_w k1 (fun k hk => List.mem_append_right _ hk)) (gSm_w g1 (fun k hk => ?_))) k2 hR4 hL4 hX4 ?_
    · rcases List.mem_append.mp hk with z | z
      · exact List.mem_append_left _ z
      · exact List.mem_append_right _ (by simp only [List.mem_cons, List.not_mem_nil, or_false] at z ⊢; omega)
    · by_cases e : lv = ver
      · rw [hLe e]; exact k3.1 e
      · exact tOld_O (k3.2 e)
  unfold wA_X9_searchOf
  refine ⟨_, (if cvb then some (V.2.1 94) else none), wT.1, w2, wT.2, rfl, fun e => ?_, fun b6 e => ?_⟩
  · cases cvb with
    | true => cases e
    | false =>
      have hc' : 5 ≤ mc ∧ 32906 ≤ ms := hc.resolve_left (by decide)
      have nw := wc' rfl
      refine ⟨nw 94 (by omega) (by omega), by omega, by omega, ?_⟩
      intro b12 V11 e11 I13 J14 e13 e14
      have k11 : ∀ k, k ≠ 94 → V11.2.1 k = V.2.1 k ∧ V11.2.2 k = V.2.2 k := fun k hk => by rw [e11]; exact ⟨gadd_o1 hk, gadd_o2 hk⟩
      have m11 : V11.1 = V.1 ++ [94] := by rw [e11]; rfl
      have z0 : 0 ∈ V11.1 := by rw [m11]; exact List.mem_append_left _ wT.1
      refine ⟨_, V.2.1 20, z0, by rw [(k11 0 (by decide)).1]; exact w2, by rw [(k11 0 (by decide)).2]; exact wT.2, rfl, 4, 32896, by omega, by omega, ?_⟩
      refine s_X2_init (Nat.le_refl _) (Nat.le_refl _) (by rw [m11]; simp) (by rw [e11]; simp [gadd, va_up]) (by rw [e11]; simp [gadd, va_up]) (k11 20 (by decide)).1 (fun k h1 h2 => ?_) ?_
      · rw [m11]
        intro hm
        rcases List.mem_append.mp hm with h | h
        · exact nw k (by omega) (by omega) h
        · simp at h; omega
      intro V25 I26 J27 mG a94 m25 kp _ _ _ _ _ _ j95 _ _ _ sm jm
      have k25 : ∀ k, k ∉ [94, 95, 96, 97, 98] → V25.2.1 k = V.2.1 k ∧ V25.2.2 k = V.2.2 k := fun k hk => by
        have h94 : k ≠ 94 := fun e => hk (by rw [e]; decide)
        rw [(kp k hk).1, (kp k hk).2]
        exact k11 k h94
      have mm : V25.1 = V.1 ++ [94, 95, 96, 97, 98] := by rw [m25, m11, List.append_assoc]; rfl
      refine ⟨_, by rw [mm]; exact List.mem_append_left _ wT.1, by rw [(k25 0 (by decide)).1]; exact w2, by rw [(k25 0 (by decide)).2]; exact wT.2, Nat.le_of_ble_eq_true rfl, ?_⟩
      intro V33 e33
      have k33 : ∀ k, k ∉ [0, 94, 95, 96, 97, 98] → V33.2.1 k = V.2.1 k ∧ V33.2.2 k = V.2.2 k := fun k hk => by
        have hk2 : k ∉ [94, 95, 96, 97, 98] := fun h => hk (List.mem_cons_of_mem _ h)
        have hk0 : k ≠ 0 := fun e => hk (by rw [e]; decide)
        rw [e33]
        exact ⟨(k25 k hk2).1, by rw [gde_o hk0]; exact (k25 k hk2).2⟩
      have ad33 : ∀ k, V33.2.1 k = V25.2.1 k := fun k => by rw [e33]; rfl
      have m33 : V33.1 = V.1 ++ [94, 95, 96, 97, 98] := by rw [e33]; exact mm
      have hnin : ∀ k, k ∈ V.1 → k ≠ 0 → k ∉ [0, 94, 95, 96, 97, 98] := fun k hk h0 hm => by
        simp only [List.mem_cons, List.not_mem_nil, or_false] at hm
        rcases hm with h | h
        · exact h0 h
        · exact nw k (by omega) (by omega) hk
      have hx33 : gWx r false gr room V33 := gWx_keep hX (fun k hk h0 => ⟨by rw [m33]; exact List.mem_append_left _ hk, (k33 k (hnin k hk h0)).1, (k33 k (hnin k hk h0)).2⟩)
      obtain ⟨y1, y2, y3, y4, y5, y6, y7, y8⟩ := hx33
      have mG33 : gModCV V33 := kp_CV mG (fun k hk => ⟨by rw [m33]; exact List.mem_append_right _ hk, ad33 k, by rw [e33]; exact gde_o (fun e => by rw [e] at hk; exact absurd hk (by decide))⟩) (ad33 20)
      have tz : tOld ver J27 := fun i hi => ⟨0, by omega, by rw [j95]; rfl⟩
      refine last V33 _ _ I26 J27 ⟨?_, ?_, ?_, ?_, y1, y2, y3, y4, y5, y6, fun e k h1 h2 => ?_, fun _ => mG33, (fun h => by cases h), y8, fun e k h1 h2 => ?_⟩ ?_ ?_ ⟨fun _ => tOld_O tz, fun _ => tz⟩
      · rw [m33, List.nodup_append]
        refine ⟨w1, by decide, fun x hx y hy e => ?_⟩
        subst e
        simp only [List.mem_cons, List.not_mem_nil, or_false] at hy
        exact nw x (by omega) (by omega) hx
      · rw [ad33, (k25 0 (by decide)).1]; exact w2
      · rw [(k33 200 (by decide)).1]; exact w3
      · refine ⟨by rw [m33]; exact List.mem_append_left _ wT.1, ?_⟩
        rw [(k33 10 (by decide)).1, (k33 20 (by decide)).1, (k33 40 (by decide)).1, (k33 60 (by decide)).1, (k33 70 (by decide)).1, ad33 94, a94, (k33 99 (by decide)).1, e33]
        simp [gde, va_up]
      · rw [m33]
        intro hm
        rcases List.mem_append.mp hm with h | h
        · exact wr' e k h1 h2 h
        · simp only [List.mem_cons, List.not_mem_nil, or_false] at h; omega
      · rw [m33]
        intro hm
        rcases List.mem_append.mp hm with h | h
        · exact wg' e k h1 h2 h
        · simp only [List.mem_cons, List.not_mem_nil, or_false] at h; omega
      · intro k hk
        rw [sm k hk, e13, guc_o (fun e => hk (by rw [e]; decide))]
      · intro k hk
        rw [jm k hk, e14, guc_o (fun e => hk (by rw [e]; decide))]
  · cases cvb with
    | true => exact last V 0 0 I J hW (gSm_r I) (gJm_r J) (hTb rfl)
    | false => cases e
/-- what a question about COVERS leaves -/
def cvC : List Nat := lsC ++ [94, 95, 96, 97, 98] ++ [200, 211, 212, 213, 214, 215, 217, 218, 219, 220, 221]
def cvJ : List Nat := [94, 95, 96, 97, 98, 200, 216]
theorem p_isMode {a : Int32} {Po : Int32 → Prop} (h1 : inR a 0 2 → Po 1) (h0 : ¬ inR a 0 2 → Po 0) : wp_X9_isMode a Po := by
  unfold wp_X9_isMode
  exact p_isBetween (fun b => ⟨Or.inr rfl, h1 b⟩) (fun b => ⟨Or.inl rfl, h0 b⟩)
/-- the tables of the model after its preparation, mode by mode -/
theorem RelP_tl {I I' : gI} (hR : RelP n pc w h hs tu mr ver lv I) (g : gSm [211, 212, 213, 214, 215, 217, 218] I I') : RelP n pc w h hs tu mr ver lv I' := RelP_k hR (fun j _ => by rw [g 20 (by decide)]) (g 21 (by decide)) (fun j _ => by rw [g 200 (by decide)]) (g 210 (by decide))
theorem q_covers {v1 v2 : Nat} {r cvb gr : Bool} {room mc ms : Nat} {V : gV} {I : gI} {J : gL} (hW : gWl v1 v2 r cvb gr room V) (hc : cvb = true ∨ 5 ≤ mc ∧ 32906 ≤ ms) (hR : RelP n pc w h hs tu mr ver lv I) (hv1 : 1 ≤ ver) (hver : ver < 1073741824) {L : Nat → Nat → List Nat} (hL : lv = ver → Lst n pc w h hs tu mr L I) (hTb : cvb = true → (lv = ver → tbO ver (w * h) n (fun s => elP L s n) J) ∧ (lv ≠ ver → tOld ver J)) (a1 : Int32) {Po : Int64 → Int64 → gV → gI → gL → Prop} (hbad : Po (-2) (-2) V I J)
    (hok : ∀ x V' I' J' L', gWl v1 v2 r true gr room V' → gSm cvC I I' → (∀ j, j ≠ 30 → I' 200 j = I 200 j) → gJm cvJ J J' → RelP n pc w h hs tu mr ver ver I' → Lst n pc w h hs tu mr L' I' → tbO ver (w * h) n (fun s => elP L' s n) J' → Po x x V' I' J') : wA_X9_covers mc ms v1 a1 V I J (fun r1 V1 I1 J1 => wp_X10_covers a1 I1 J1 (fun r2 I2 J2 => Po r1 r2 V1 I2 J2)) := by
  have hwh := RelP_wh hR
  have hn := hR.1.1
  have hhs := hR.1.2.2.2.2.2.1
  have hp0 : 0 < 2 ^ n := Nat.pow_pos (by decide)
  obtain ⟨w1, w2, w3, wT, wTS, wJG, wBL, wCO, wM, wr, wr', wc, wc', wg, wg'⟩ := id hW
  unfold wA_X9_covers
  refine p_isMode (fun b => ⟨fun z => absurd z one_ne, fun _ => ?_⟩) (fun b => ⟨fun _ => ?_, fun z => absurd rfl z⟩)
  · obtain ⟨mode, _, hmo, rfl⟩ := inR_nI (lo := 0) (hi := 2) (by decide) (by decide) b
    refine ⟨_, mc, ms, wT.1, w2, wT.2, by omega, by omega, ?_⟩
    refine p_searchOf hW hc hR hv1 hver hL hTb (by omega) (fun V1 I1 J1 L1 hW1 g1 g2 hR1 hL1 hX1 hT1 => ?_)
    refine ⟨hW1.2.2.2.2.2.1, hW1.2.2.2.2.2.2.2.2.2.2.2.1 rfl, rfl, ?_⟩
    have hO := Lst_lOk hR1 hL1
    have h20 : ∀ p s, p < n → s < 20 → (L1 p s).length ≤ 8 := fun p s hp hs => ((hL1 p hp).1 s hs).1
    unfold wp_X2_countCovers
    rw [hR1.2.1.2.2.2.1]
    have hfr := fr_le (w * h) hs
    refine p_solve hR1 hver hL1 (by omega) hX1 20 23 hs 0 0 J1 _ (by omega) (by decide) hhs hp0 (fun _ => rfl) (by omega) hT1 (fun J2 u1 u2 => ?_)
    have eb := enc_b (mode := mode) (used := 0) hO hwh.1 hn hhs
    rw [i_5, wb_shr (by omega) (by decide), show (2 : Nat) ^ 5 = 32 from rfl, eb.2.1]
    show wp_X10_covers (nI mode) I1 J2 (fun r2 I2 J3 => Po (lN (cv mode (w * h) n (fun s => elP L1 s n) hs 0).length) r2 V1 I2 J3)
    unfold wp_X10_covers
    refine p_isIn (fun _ => ⟨fun _ => ?_, fun z => absurd z one_ne⟩) (fun z => absurd b z)
    have jj : gJm cvJ J J2 := gJm_t (gJm_w g2 (by decide)) (gJm_w u1 (by decide))
    have tbk : ∀ J' : gL, gJm [200, 216] J2 J' → tbO ver (w * h) n (fun s => elP L1 s n) J' := fun J' g i hi => by
      rw [g 95 (by decide), g 96 (by decide)]; exact u2 i hi
    have ii : gSm cvC I I1 := gSm_w g1 (fun k hk => List.mem_append_left _ hk)
    have i200 : I1 200 = I 200 := g1 200 (by decide)
    have kL : ∀ I' : gI, gSm [200, 211, 212, 213, 214, 215, 217, 218, 219, 220, 221] I1 I' → Lst n pc w h hs tu mr L1 I' := fun I' g => Lst_k hL1 hn g (fun k h1 h2 => by simp only [List.mem_cons, List.not_mem_nil, or_false]; omega)
    refine ⟨fun q => ?_, fun q => ?_⟩
    · have hm1 : mode ≠ 1 := fun e => q (by rw [e]; rfl)
      refine p_places hR1 hL1 (fun I2 fpf k1 _ k3 k4 k5 => ?_)
      have hR2 := RelP_21 hR1 k1
      have sk : ∀ a3 : Int32, (a3 = 0 ↔ mode ≠ 0) → w_X10_covers_51 (fun r2 I2 J3 => Po (lN (cv mode (w * h) n (fun s => elP L1 s n) hs 0).length) r2 V1 I2 J3) a3 (0 : Int32) (I2 200 15) I2 J2 := by
        intro a3 ha
        unfold w_X10_covers_51
        rw [hR2.2.2.1.2.2.2.1]
        refine p_seek hR2 hO h20 ⟨k3, k4, k5⟩ hm1 ha hhs hp0 (fun I3 J3 m1 m2 m3 m4 => ?_)
        rw [m3]
        have sg : gSm [200, 211, 212, 213, 214, 215, 217, 218, 219, 220, 221] I1 I3 := gSm_t (gSm_w k1 (by decide)) (gSm_w m1.1 (by decide))
        exact hok _ V1 I3 J3 L1 hW1 (gSm_t ii (gSm_w sg (fun k hk => List.mem_append_right _ hk))) (fun j hj => by rw [m1.2 j hj, k1 200 (by decide), i200]) (gJm_t jj (gJm_w m2 (by decide))) (RelP_sk hR2 m1) (kL I3 sg) (tbk J3 (gJm_w m2 (by decide)))
      exact ⟨fun q2 => sk 0 ⟨fun _ e => q2 (by rw [e]; rfl), fun _ => rfl⟩, fun q2 => sk 1 ⟨fun z => absurd z one_ne, fun z => absurd ((nI_eq (b := 0) (by omega) (by decide)).mp q2) z⟩⟩
    · have hm1 : mode = 1 := (nI_eq (b := 1) (by omega) (by decide)).mp q
      subst hm1
      refine p_tellLeft hR1 hL1 (fun I2 J3 k1 k2 k3 k4 k5 => ?_)
      have hR2 := RelP_tl hR1 k1
      rw [hR2.2.2.1.2.2.2.1, nI_clamp (by omega), (k5 hs (Nat.zero_le _) (Nat.le_refl _) hhs (Or.inl k4.1)).1]
      have sg : gSm [200, 211, 212, 213, 214, 215, 217, 218, 219, 220, 221] I1 I2 := gSm_w k1 (by decide)
      exact ⟨vp_in_nI (by omega) (by decide), hok _ V1 I2 J3 L1 hW1 (gSm_t ii (gSm_w sg (fun k hk => List.mem_append_right _ hk))) (fun j _ => by rw [k1 200 (by decide), i200]) (gJm_t jj (gJm_w k2 (by decide))) hR2 (kL I2 sg) (tbk J3 (gJm_w k2 (by decide)))⟩
  · show wp_X10_covers a1 I J (fun r2 I2 J2 => Po (-2) r2 V I2 J2)
    unfold wp_X10_covers
    exact p_isIn (fun z => absurd z b) (fun _ => ⟨fun z => absurd rfl z, fun _ => hbad⟩)
theorem q_fewest {v1 v2 : Nat} {r cvb gr : Bool} {room mc ms : Nat} {V : gV} {I : gI} {J : gL} (hW : gWl v1 v2 r cvb gr room V) (hc : cvb = true ∨ 5 ≤ mc ∧ 32906 ≤ ms) (hR : RelP n pc w h hs tu mr ver lv I) (hv1 : 1 ≤ ver) (hver : ver < 1073741824) {L : Nat → Nat → List Nat} (hL : lv = ver → Lst n pc w h hs tu mr L I) (hTb : cvb = true → (lv = ver → tbO ver (w * h) n (fun s => elP L s n) J) ∧ (lv ≠ ver → tOld ver J)) (a1 : Int32) {Po : Int32 → Int32 → gV → gI → gL → Prop} (hbad : Po (-2) (-2) V I J)
    (hok : ∀ x V' I' J' L', gWl v1 v2 r true gr room V' → gSm cvC I I' → (∀ j, j ≠ 30 → I' 200 j = I 200 j) → gJm cvJ J J' → RelP n pc w h hs tu mr ver ver I' → Lst n pc w h hs tu mr L' I' → tbO ver (w * h) n (fun s => elP L' s n) J' → Po x x V' I' J') : wA_X9_fewest mc ms v1 a1 V I J (fun r1 V1 I1 J1 => wp_X10_fewest a1 I1 J1 (fun r2 I2 J2 => Po r1 r2 V1 I2 J2)) := by
  have hwh := RelP_wh hR
  have hn := hR.1.1
  have hhs := hR.1.2.2.2.2.2.1
  have hp0 : 0 < 2 ^ n := Nat.pow_pos (by decide)
  have hp7 := p7
  obtain ⟨w1, w2, w3, wT, wTS, wJG, wBL, wCO, wM, wr, wr', wc, wc', wg, wg'⟩ := id hW
  unfold wA_X9_fewest
  refine p_isMode (fun b => ⟨fun z => absurd z one_ne, fun _ => ?_⟩) (fun b => ⟨fun _ => ?_, fun z => absurd rfl z⟩)
  · obtain ⟨mode, _, hmo, rfl⟩ := inR_nI (lo := 0) (hi := 2) (by decide) (by decide) b
    refine ⟨_, mc, ms, wT.1, w2, wT.2, by omega, by omega, ?_⟩
    refine p_searchOf hW hc hR hv1 hver hL hTb (by omega) (fun V1 I1 J1 L1 hW1 g1 g2 hR1 hL1 hX1 hT1 => ?_)
    refine ⟨hW1.2.2.2.2.2.1, hW1.2.2.2.2.2.2.2.2.2.2.2.1 rfl, rfl, ?_⟩
    have hO := Lst_lOk hR1 hL1
    have hE := lOk_e hO
    have h20 : ∀ p s, p < n → s < 20 → (L1 p s).length ≤ 8 := fun p s hp hs => ((hL1 p hp).1 s hs).1
    unfold wp_X2_fewestPlacements
    rw [hR1.2.1.2.2.2.1]
    have hfr := fr_le (w * h) hs
    refine p_solve hR1 hver hL1 (by omega) hX1 20 23 hs 0 0 J1 _ (by omega) (by decide) hhs hp0 (fun _ => rfl) (by omega) hT1 (fun J2 u1 u2 => ?_)
    have eb := enc_b (mode := mode) (used := 0) hO hwh.1 hn hhs
    have cle := cv_le' (mode := mode) (used := 0) hE hwh.1 hhs
    have jj : gJm cvJ J J2 := gJm_t (gJm_w g2 (by decide)) (gJm_w u1 (by decide))
    have tbk : ∀ J' : gL, gJm [200, 216] J2 J' → tbO ver (w * h) n (fun s => elP L1 s n) J' := fun J' g i hi => by
      rw [g 95 (by decide), g 96 (by decide)]; exact u2 i hi
    have ii : gSm cvC I I1 := gSm_w g1 (fun k hk => List.mem_append_left _ hk)
    have i200 : I1 200 = I 200 := g1 200 (by decide)
    have kL : ∀ I' : gI, gSm [200, 211, 212, 213, 214, 215, 217, 218, 219, 220, 221] I1 I' → Lst n pc w h hs tu mr L1 I' := fun I' g => Lst_k hL1 hn g (fun k h1 h2 => by simp only [List.mem_cons, List.not_mem_nil, or_false]; omega)
    -- the model, whatever the class has answered rightly
    have model : ∀ x : Int32, (cv mode (w * h) n (fun s => elP L1 s n) hs 0 = [] → x = -1) → (cv mode (w * h) n (fun s => elP L1 s n) hs 0 ≠ [] → x = nI (mnx 31 (cv mode (w * h) n (fun s => elP L1 s n) hs 0))) → wp_X10_fewest (nI mode) I1 J2 (fun r2 I2 J3 => Po x r2 V1 I2 J3) := by
      intro x hx0 hx1
      have hx100 : cv mode (w * h) n (fun s => elP L1 s n) hs 0 ≠ [] → x = nI (mnx 100 (cv mode (w * h) n (fun s => elP L1 s n) hs 0)) ∧ mnx 100 (cv mode (w * h) n (fun s => elP L1 s n) hs 0) < 31 := fun hne => by
        have := mnx_s (b := 31) (c := 100) hne (fun d hd => by have := cle d hd; omega)
        rw [hx1 hne, this.1]
        exact ⟨rfl, by omega⟩
      unfold wp_X10_fewest
      refine p_isIn (fun _ => ⟨fun _ => ?_, fun z => absurd z one_ne⟩) (fun z => absurd b z)
      refine ⟨fun q => ?_, fun q => ?_⟩
      · have hm1 : mode ≠ 1 := fun e => q (by rw [e]; rfl)
        refine p_places hR1 hL1 (fun I2 fpf k1 _ k3 k4 k5 => ?_)
        have hR2 := RelP_21 hR1 k1
        have sk : ∀ a3 : Int32, (a3 = 0 ↔ mode ≠ 0) → w_X10_fewest_68 (fun r2 I2 J3 => Po x r2 V1 I2 J3) a3 (0 : Int32) (I2 200 15) I2 J2 := by
          intro a3 ha
          unfold w_X10_fewest_68
          rw [hR2.2.2.1.2.2.2.1]
          refine p_seek hR2 hO h20 ⟨k3, k4, k5⟩ hm1 ha hhs hp0 (fun I3 J3 m1 m2 m3 m4 => ?_)
          rw [m3, m4]
          have sg : gSm [200, 211, 212, 213, 214, 215, 217, 218, 219, 220, 221] I1 I3 := gSm_t (gSm_w k1 (by decide)) (gSm_w m1.1 (by decide))
          have fin := hok x V1 I3 J3 L1 hW1 (gSm_t ii (gSm_w sg (fun k hk => List.mem_append_right _ hk))) (fun j hj => by rw [m1.2 j hj, k1 200 (by decide), i200]) (gJm_t jj (gJm_w m2 (by decide))) (RelP_sk hR2 m1) (kL I3 sg) (tbk J3 (gJm_w m2 (by decide)))
          refine ⟨fun q2 => ?_, fun q2 => ?_⟩
          · rw [← (hx100 (fun e => q2 ((lg_cmp_eq _ _).mpr (by rw [e]; rfl)))).1]; exact fin
          · have e0 := (pk_lEQ (b := 0) (by omega) (by decide)).mp ((lg_cmp_eq _ _).mp q2)
            rw [← hx0 (List.eq_nil_of_length_eq_zero e0)]; exact fin
        exact ⟨fun q2 => sk 0 ⟨fun _ e => q2 (by rw [e]; rfl), fun _ => rfl⟩, fun q2 => sk 1 ⟨fun z => absurd z one_ne, fun z => absurd ((nI_eq (b := 0) (by omega) (by decide)).mp q2) z⟩⟩
      · have hm1 : mode = 1 := (nI_eq (b := 1) (by omega) (by decide)).mp q
        subst hm1
        refine p_tellLeft hR1 hL1 (fun I2 J3 k1 k2 k3 k4 k5 => ?_)
        have hR2 := RelP_tl hR1 k1
        rw [hR2.2.2.1.2.2.2.1, nI_clamp (by omega), (k5 hs (Nat.zero_le _) (Nat.le_refl _) hhs (Or.inl k4.1)).2]
        have sg : gSm [200, 211, 212, 213, 214, 215, 217, 218, 219, 220, 221] I1 I2 := gSm_w k1 (by decide)
        have fin := hok x V1 I2 J3 L1 hW1 (gSm_t ii (gSm_w sg (fun k hk => List.mem_append_right _ hk))) (fun j _ => by rw [k1 200 (by decide), i200]) (gJm_t jj (gJm_w k2 (by decide))) hR2 (kL I2 sg) (tbk J3 (gJm_w k2 (by decide)))
        refine ⟨vp_in_nI (by omega) (by decide), fun q2 => ⟨vp_in_nI (by omega) (by decide), ?_⟩, fun q2 => ?_⟩
        · rw [← (hx100 (fun e => q2 (by rw [e]; rfl))).1]; exact fin
        · by_cases e : cv 1 (w * h) n (fun s => elP L1 s n) hs 0 = []
          · rw [← hx0 e]; exact fin
          · have hlt := (hx100 e).2
            have := (nI_eq (b := 100) (by omega) (by decide)).mp q2
            omega
    rw [show (31 : Int64) = lN (2 ^ 5 - 1) from rfl, wb_mask (by omega) (by decide), lN_i, show (2 : Nat) ^ 5 = 32 from rfl]
    refine ⟨fun q => ?_, fun q => ?_⟩
    · have hne : cv mode (w * h) n (fun s => elP L1 s n) hs 0 ≠ [] := fun e => q ((lg_cmp_eq _ _).mpr (by rw [eb.2.2.2.1.mpr e]; rfl))
      rw [(eb.2.2.1 hne).1]
      exact model _ (fun e => absurd e hne) (fun _ => rfl)
    · have e0 := (pk_lEQ (b := 0) (by omega) (by decide)).mp ((lg_cmp_eq _ _).mp q)
      have he := eb.2.2.2.1.mp e0
      exact model _ (fun _ => rfl) (fun z => absurd he z)
  · show wp_X10_fewest a1 I J (fun r2 I2 J2 => Po (-2) r2 V I2 J2)
    unfold wp_X10_fewest
    exact p_isIn (fun z => absurd z b) (fun _ => ⟨fun z => absurd rfl z, fun _ => hbad⟩)
end
