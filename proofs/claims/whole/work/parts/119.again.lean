/-! the calls that make cells: what holds of the world stands between class and model -/
theorem q_besideA {n a : Nat} {bl : Nat → Nat → Nat} {v1 v2 : Nat} {r cv gr : Bool} {room mc ms : Nat} {V : gV} {I : gI} {J : gL} (hW : gWl v1 v2 r cv gr room V) (hR : RelL n a bl I) (hc : gr = true ∨ 3 ≤ mc ∧ 48 ≤ ms) (a1 a2 a3 a4 : Int32) {A : gV → Prop} (hA : ∀ V' r' cv' gr' room', gWl v1 v2 r' cv' gr' room' V' → A V') {Po : Int32 → Int32 → gV → gI → gL → Prop} (hbad : Po (-2) (-2) V I J)
    (hok : ∀ x V' I' J', gWl v1 v2 r cv true room V' → gSm [99, 102, 103, 225] I I' → gJm [99, 102, 103] J J' → Po x x V' I' J') : wA_X9_beside mc ms v1 a1 a2 a3 a4 V I J (fun r1 V1 I1 J1 => A V1 ∧ wp_X10_beside a1 a2 a3 a4 I1 (fun r2 I2 => Po r1 r2 V1 I2 J1)) := by
  have hR0 := hR
  obtain ⟨hn1, hn6, ha2, ha3, l0, m0, l1, m1, hb⟩ := hR0
  have hb' : ∀ x, x < 6 → ∀ i, i < 9 → bl x i < n := fun x hx i hi => (hb x hx i hi).1
  obtain ⟨w1, w2, w3, wT, wTS, wJG, wBL, wCO, wM, wr, wr', wc, wc', wg, wg'⟩ := id hW
  have bad1 : ∀ {x : Int32}, ¬ inR x 0 (nI (n - 1)) → ∀ l, l < n → x ≠ nI l := fun hx l hl e => hx (by rw [e]; exact inR_of (lo := 0) (by omega) (by omega) (by omega))
  unfold wA_X9_beside
  refine ⟨_, _, _, wT, wBL, w2, p_isLetterC hR (fun l hl e1 => ⟨fun q => absurd q one_ne, fun _ => ?_⟩) (fun hno => ⟨fun _ => ?_, fun q => absurd rfl q⟩)⟩
  · subst e1
    refine ⟨_, _, _, wT, wBL, w2, p_isLetterC hR (fun i hi e2 => ⟨fun q => absurd q one_ne, fun _ => ?_⟩) (fun hno => ⟨fun _ => ?_, fun q => absurd rfl q⟩)⟩
    · subst e2
      refine ⟨_, _, _, wT, wBL, w2, p_isLetterC hR (fun m hm e3 => ⟨fun q => absurd q one_ne, fun _ => ?_⟩) (fun hno => ⟨fun _ => ?_, fun q => absurd rfl q⟩)⟩
      · subst e3
        refine p_isBetween (fun b4 => ⟨fun _ => ?_, fun q => absurd q one_ne⟩) (fun b4 => ⟨fun q => absurd rfl q, fun _ => ?_⟩)
        · obtain ⟨w, _, hw, rfl⟩ := inR_nI (lo := 0) (hi := 1) (by decide) (by decide) b4
          refine ⟨_, mc, ms, wT.1, w2, wT.2, by omega, by omega, ?_⟩
          refine p_growthOf (n := n) (a := a) (bl := bl) hW hl hn6 hc (fun V' I' J' hW' g1 g2 g3 g4 => ?_)
          refine ⟨hW'.2.2.2.2.2.2.1, hW'.2.2.2.2.2.2.2.2.2.2.2.2.2.1 rfl, rfl, ?_⟩
          have hR' := RelL_99 hR g1
          have model : ∀ (x : Int32) (I2 : gI) (J2 : gL), gSm [99] I' I2 → gJm [99] J' J2 → (∀ k, k < 90 → wk (bsR n a bl w) k l (6 + (6 * i + m)) → (∀ j, j < k → ¬ wk (bsR n a bl w) j l (6 + (6 * i + m))) → x = nI k) → ((∀ j, j < 90 → ¬ wk (bsR n a bl w) j l (6 + (6 * i + m))) → x = -1) → wp_X10_beside (nI l) (nI i) (nI m) (nI w) I2 (fun r2 I3 => Po x r2 V' I3 J2) := by
            intro x I2 J2 g5 g6 hx1 hx2
            have hR2 := RelL_99 hR' (gSm_w g5 (by decide))
            have tot : ∀ I3, gSm [225] I2 I3 → gSm [99, 102, 103, 225] I I3 := fun I3 g7 => gSm_t (gSm_w g1 (by decide)) (gSm_t (gSm_w g5 (by decide)) (gSm_w g7 (by decide)))
            have totj : gJm [99, 102, 103] J J2 := gJm_t g2 (gJm_w g6 (by decide))
            unfold wp_X10_beside
            refine p_isLetterM hR2 (fun _ _ _ => ⟨fun q => absurd q one_ne, fun _ => ?_⟩) (fun q => absurd rfl (bad1 q l hl))
            refine p_isLetterM hR2 (fun _ _ _ => ⟨fun q => absurd q one_ne, fun _ => ?_⟩) (fun q => absurd rfl (bad1 q i hi))
            refine p_isLetterM hR2 (fun _ _ _ => ⟨fun q => absurd q one_ne, fun _ => ?_⟩) (fun q => absurd rfl (bad1 q m hm))
            refine p_isIn (fun _ => ⟨fun _ => ?_, fun q => absurd q one_ne⟩) (fun q => absurd b4 q)
            refine p_besideM hR2 hl hi hm (by omega) (fun k I3 g7 k1 k2 k3 => ?_) (fun I3 g7 k1 => ?_)
            · rw [← hx1 k k1 k2 k3]; exact hok x V' I3 J2 hW' (tot I3 g7) totj
            · rw [← hx2 k1]; exact hok x V' I3 J2 hW' (tot I3 g7) totj
          refine p_firstBeside hR' hl hi hm (by omega) g3 (fun k I2 J2 g5 g6 k1 k2 k3 => ?_) (fun I2 J2 g5 g6 k1 => ?_)
          · refine ⟨hA _ _ _ _ _ hW', ?_⟩
            refine model _ I2 J2 g5 g6 (fun k' j1 j2 j3 => ?_) (fun hno => absurd k2 (hno k (by omega)))
            rcases Nat.lt_trichotomy k k' with z | z | z
            · exact absurd k2 (j3 k z)
            · rw [z]
            · exact absurd j2 (k3 k' z)
          · refine ⟨hA _ _ _ _ _ hW', ?_⟩
            refine model _ I2 J2 g5 g6 (fun k' j1 j2 j3 => ?_) (fun _ => rfl)
            obtain ⟨k2, h42, _, hk2⟩ := wk_short (N := 42) (bsR_lt ha2 ha3 hn6 hb') (show l < 42 by omega) k' j2
            exact absurd hk2 (k1 k2 (by omega))
        · refine ⟨hA _ _ _ _ _ hW, ?_⟩
          show wp_X10_beside _ _ _ a4 I (fun r2 I2 => Po (-2) r2 V I2 J)
          unfold wp_X10_beside
          refine p_isLetterM hR (fun _ _ _ => ⟨fun q => absurd q one_ne, fun _ => ?_⟩) (fun q => absurd rfl (bad1 q l hl))
          refine p_isLetterM hR (fun _ _ _ => ⟨fun q => absurd q one_ne, fun _ => ?_⟩) (fun q => absurd rfl (bad1 q i hi))
          refine p_isLetterM hR (fun _ _ _ => ⟨fun q => absurd q one_ne, fun _ => ?_⟩) (fun q => absurd rfl (bad1 q m hm))
          exact p_isIn (fun q => absurd q b4) (fun _ => ⟨fun q => absurd rfl q, fun _ => hbad⟩)
      · refine ⟨hA _ _ _ _ _ hW, ?_⟩
        show wp_X10_beside _ _ a3 a4 I (fun r2 I2 => Po (-2) r2 V I2 J)
        unfold wp_X10_beside
        refine p_isLetterM hR (fun _ _ _ => ⟨fun q => absurd q one_ne, fun _ => ?_⟩) (fun q => absurd rfl (bad1 q l hl))
        refine p_isLetterM hR (fun _ _ _ => ⟨fun q => absurd q one_ne, fun _ => ?_⟩) (fun q => absurd rfl (bad1 q i hi))
        exact p_isLetterM hR (fun m hm e => absurd e (bad1 hno m hm)) (fun _ => ⟨fun _ => hbad, fun q => absurd rfl q⟩)
    · refine ⟨hA _ _ _ _ _ hW, ?_⟩
      show wp_X10_beside _ a2 a3 a4 I (fun r2 I2 => Po (-2) r2 V I2 J)
      unfold wp_X10_beside
      refine p_isLetterM hR (fun _ _ _ => ⟨fun q => absurd q one_ne, fun _ => ?_⟩) (fun q => absurd rfl (bad1 q l hl))
      exact p_isLetterM hR (fun m hm e => absurd e (bad1 hno m hm)) (fun _ => ⟨fun _ => hbad, fun q => absurd rfl q⟩)
  · refine ⟨hA _ _ _ _ _ hW, ?_⟩
    show wp_X10_beside a1 a2 a3 a4 I (fun r2 I2 => Po (-2) r2 V I2 J)
    unfold wp_X10_beside
    exact p_isLetterM hR (fun m hm e => absurd e (bad1 hno m hm)) (fun _ => ⟨fun _ => hbad, fun q => absurd rfl q⟩)

theorem q_squaresA {n a : Nat} {bl : Nat → Nat → Nat} {v1 v2 : Nat} {r cv gr : Bool} {room mc ms : Nat} {V : gV} {I : gI} {J : gL} (hW : gWl v1 v2 r cv gr room V) (hR : RelL n a bl I) (hc : gr = true ∨ 3 ≤ mc ∧ 48 ≤ ms) (a1 a2 : Int32) {A : gV → Prop} (hA : ∀ V' r' cv' gr' room', gWl v1 v2 r' cv' gr' room' V' → A V') {Po : Int32 → Int32 → gV → gI → gL → Prop} (hbad : Po (-2) (-2) V I J)
    (hok : ∀ x V' I' J', gWl v1 v2 r cv true room V' → gSm [99, 102, 103, 228] I I' → gJm [99, 102, 103] J J' → Po x x V' I' J') : wA_X9_squares mc ms v1 a1 a2 V I J (fun r1 V1 I1 J1 => A V1 ∧ wp_X10_squares a1 a2 I1 (fun r2 I2 => Po r1 r2 V1 I2 J1)) := by
  have hR0 := hR
  obtain ⟨hn1, hn6, ha2, ha3, l0, m0, l1, m1, hb⟩ := hR0
  obtain ⟨w1, w2, w3, wT, wTS, wJG, wBL, wCO, wM, wr, wr', wc, wc', wg, wg'⟩ := id hW
  have bad1 : ∀ {x : Int32}, ¬ inR x 0 (nI (n - 1)) → ∀ l, l < n → x ≠ nI l := fun hx l hl e => hx (by rw [e]; exact inR_of (lo := 0) (by omega) (by omega) (by omega))
  unfold wA_X9_squares
  refine ⟨_, _, _, wT, wBL, w2, p_isLetterC hR (fun l hl e1 => ⟨fun q => absurd q one_ne, fun _ => ?_⟩) (fun hno => ⟨fun _ => ?_, fun q => absurd rfl q⟩)⟩
  · subst e1
    refine p_isBetween (fun b4 => ⟨fun _ => ?_, fun q => absurd q one_ne⟩) (fun b4 => ⟨fun q => absurd rfl q, fun _ => ?_⟩)
    · obtain ⟨k, _, hk, rfl⟩ := inR_nI (lo := 0) (hi := 5) (by decide) (by decide) b4
      refine ⟨_, mc, ms, wT.1, w2, wT.2, by omega, by omega, ?_⟩
      refine p_growthOf (n := n) (a := a) (bl := bl) hW hl hn6 hc (fun V' I' J' hW' g1 g2 g3 g4 => ?_)
      refine ⟨hW'.2.2.2.2.2.2.1, hW'.2.2.2.2.2.2.2.2.2.2.2.2.2.1 rfl, rfl, ?_⟩
      have hR' := RelL_99 hR g1
      refine p_countSquares hR' hl hk g3 g4 (fun I2 J2 g5 g6 => ?_)
      have hR2 := RelL_99 hR' (gSm_w g5 (by decide))
      refine ⟨hA _ _ _ _ _ hW', ?_⟩
      unfold wp_X10_squares
      refine p_isLetterM hR2 (fun _ _ _ => ⟨fun q => absurd q one_ne, fun _ => ?_⟩) (fun q => absurd rfl (bad1 q l hl))
      refine p_isIn (fun _ => ⟨fun _ => ?_, fun q => absurd q one_ne⟩) (fun q => absurd b4 q)
      refine p_squaresM hR2 hl hk (fun I3 g7 => ?_)
      exact hok _ V' I3 J2 hW' (gSm_t (gSm_w g1 (by decide)) (gSm_t (gSm_w g5 (by decide)) (gSm_w g7 (by decide)))) (gJm_t g2 (gJm_w g6 (by decide)))
    · refine ⟨hA _ _ _ _ _ hW, ?_⟩
      show wp_X10_squares _ a2 I (fun r2 I2 => Po (-2) r2 V I2 J)
      unfold wp_X10_squares
      refine p_isLetterM hR (fun _ _ _ => ⟨fun q => absurd q one_ne, fun _ => ?_⟩) (fun q => absurd rfl (bad1 q l hl))
      exact p_isIn (fun q => absurd q b4) (fun _ => ⟨fun q => absurd rfl q, fun _ => hbad⟩)
  · refine ⟨hA _ _ _ _ _ hW, ?_⟩
    show wp_X10_squares a1 a2 I (fun r2 I2 => Po (-2) r2 V I2 J)
    unfold wp_X10_squares
    exact p_isLetterM hR (fun m hm e => absurd e (bad1 hno m hm)) (fun _ => ⟨fun _ => hbad, fun q => absurd rfl q⟩)

section
variable {n : Nat} {pc : Nat → Nat} {w h hs : Nat} {tu mr : Int32} {ver lv : Nat}
theorem q_coversA {v1 v2 : Nat} {r cvb gr : Bool} {room mc ms : Nat} {V : gV} {I : gI} {J : gL} (hW : gWl v1 v2 r cvb gr room V) (a1 : Int32) (hc : inR a1 0 2 → cvb = true ∨ 5 ≤ mc ∧ 32906 ≤ ms) (hR : RelP n pc w h hs tu mr ver lv I) (hv1 : 1 ≤ ver) (hver : ver < 1073741824) {L : Nat → Nat → List Nat} (hL : lv = ver → Lst n pc w h hs tu mr L I) (hTb : cvb = true → (lv = ver → tbO ver (w * h) n (fun s => elP L s n) J) ∧ (lv ≠ ver → tOld ver J)) {A : gV → Prop} (hA : ∀ V' r' cv' gr' room', gWl v1 v2 r' cv' gr' room' V' → A V') {Po : Int64 → Int64 → gV → gI → gL → Prop} (hbad : ¬ inR a1 0 2 → Po (-2) (-2) V I J)
    (hok : ∀ x V' I' J' L', gWl v1 v2 r true gr room V' → gSm cvC I I' → (∀ j, j ≠ 30 → I' 200 j = I 200 j) → gJm cvJ J J' → RelP n pc w h hs tu mr ver ver I' → Lst n pc w h hs tu mr L' I' → tbO ver (w * h) n (fun s => elP L' s n) J' → Po x x V' I' J') : wA_X9_covers mc ms v1 a1 V I J (fun r1 V1 I1 J1 => A V1 ∧ wp_X10_covers a1 I1 J1 (fun r2 I2 J2 => Po r1 r2 V1 I2 J2)) := by
  have hwh := RelP_wh hR
  have hn := hR.1.1
  have hhs := hR.1.2.2.2.2.2.1
  have hp0 : 0 < 2 ^ n := Nat.pow_pos (by decide)
  obtain ⟨w1, w2, w3, wT, wTS, wJG, wBL, wCO, wM, wr, wr', wc, wc', wg, wg'⟩ := id hW
  unfold wA_X9_covers
  refine p_isMode (fun b => ⟨fun z => absurd z one_ne, fun _ => ?_⟩) (fun b => ⟨fun _ => ?_, fun z => absurd rfl z⟩)
  · obtain ⟨mode, _, hmo, rfl⟩ := inR_nI (lo := 0) (hi := 2) (by decide) (by decide) b
    refine ⟨_, mc, ms, wT.1, w2, wT.2, by omega, by omega, ?_⟩
    refine p_searchOf hW (hc b) hR hv1 hver hL hTb (by omega) (fun V1 I1 J1 L1 hW1 g1 g2 hR1 hL1 hX1 hT1 => ?_)
    refine ⟨hW1.2.2.2.2.2.1, hW1.2.2.2.2.2.2.2.2.2.2.2.1 rfl, rfl, ?_⟩
    have hO := Lst_lOk hR1 hL1
    have h20 : ∀ p s, p < n → s < 20 → (L1 p s).length ≤ 8 := fun p s hp hs => ((hL1 p hp).1 s hs).1
    unfold wp_X2_countCovers
    rw [hR1.2.1.2.2.2.1]
    have hfr := fr_le (w * h) hs
    refine p_solve hR1 hver hL1 (by omega) hX1 20 23 hs 0 0 J1 _ (by omega) (by decide) hhs hp0 (fun _ => rfl) (by omega) hT1 (fun J2 u1 u2 => ?_)
    have eb := enc_b (mode := mode) (used := 0) hO hwh.1 hn hhs
    rw [i_5, wb_shr (by omega) (by decide), show (2 : Nat) ^ 5 = 32 from rfl, eb.2.1]
    refine ⟨hA _ _ _ _ _ hW1, ?_⟩
    show wp_X10_covers (nI mode) I1 J2 (fun r2 I2 J3 => Po (lN (cv mode (w * h) n (fun s => elP L1 s n) hs 0).length) r2 V1 I2 J3)
    unfold wp_X10_covers
    refine p_isIn (fun _ => ⟨fun _ => ?_, fun z => absurd z one_ne⟩) (fun z => absurd b z)
    have jj : gJm cvJ J J2 := gJm_t (gJm_w g2 (by decide)) (gJm_w u1 (by decide))
    have tbk : ∀ J' : gL, gJm [200, 216] J2 J' → tbO ver (w * h) n (fun s => elP L1 s n) J' := fun J' g i hi => by
      rw [g 95 (by decide), g 96 (by decide)]; exact u2 i hi
    have ii : gSm cvC I I1 := gSm_w g1 (fun k hk => List.mem_append_left _ hk)
    have i200 : I1 200 = I 200 := g1 200 (by decide)
    have kL : ∀ I' : gI, gSm [200, 211, 212, 213, 214, 215, 217, 218, 219, 220, 221] I1 I' → Lst n pc w h hs tu mr L1 I' := fun I' g => Lst_k hL1 hn g (fun k h1 h2 => by simp only [List.mem_cons, List.not_mem_nil, or_false]; omega)
    refine ⟨fun q => ?_, fun q => ?_⟩
    · have hm1 : mode ≠ 1 := fun e => q (by rw [e]; rfl)
      refine p_places hR1 hL1 (fun I2 fpf k1 _ k3 k4 k5 => ?_)
      have hR2 := RelP_21 hR1 k1
      have sk : ∀ a3 : Int32, (a3 = 0 ↔ mode ≠ 0) → w_X10_covers_51 (fun r2 I2 J3 => Po (lN (cv mode (w * h) n (fun s => elP L1 s n) hs 0).length) r2 V1 I2 J3) a3 (0 : Int32) (I2 200 15) I2 J2 := by
        intro a3 ha
        unfold w_X10_covers_51
        rw [hR2.2.2.1.2.2.2.1]
        refine p_seek hR2 hO h20 ⟨k3, k4, k5⟩ hm1 ha hhs hp0 (fun I3 J3 m1 m2 m3 m4 => ?_)
        rw [m3]
        have sg : gSm [200, 211, 212, 213, 214, 215, 217, 218, 219, 220, 221] I1 I3 := gSm_t (gSm_w k1 (by decide)) (gSm_w m1.1 (by decide))
        exact hok _ V1 I3 J3 L1 hW1 (gSm_t ii (gSm_w sg (fun k hk => List.mem_append_right _ hk))) (fun j hj => by rw [m1.2 j hj, k1 200 (by decide), i200]) (gJm_t jj (gJm_w m2 (by decide))) (RelP_sk hR2 m1) (kL I3 sg) (tbk J3 (gJm_w m2 (by decide)))
      exact ⟨fun q2 => sk 0 ⟨fun _ e => q2 (by rw [e]; rfl), fun _ => rfl⟩, fun q2 => sk 1 ⟨fun z => absurd z one_ne, fun z => absurd ((nI_eq (b := 0) (by omega) (by decide)).mp q2) z⟩⟩
    · have hm1 : mode = 1 := (nI_eq (b := 1) (by omega) (by decide)).mp q
      subst hm1
      refine p_tellLeft hR1 hL1 (fun I2 J3 k1 k2 k3 k4 k5 => ?_)
      have hR2 := RelP_tl hR1 k1
      rw [hR2.2.2.1.2.2.2.1, nI_clamp (by omega), (k5 hs (Nat.zero_le _) (Nat.le_refl _) hhs (Or.inl k4.1)).1]
      have sg : gSm [200, 211, 212, 213, 214, 215, 217, 218, 219, 220, 221] I1 I2 := gSm_w k1 (by decide)
      exact ⟨vp_in_nI (by omega) (by decide), hok _ V1 I2 J3 L1 hW1 (gSm_t ii (gSm_w sg (fun k hk => List.mem_append_right _ hk))) (fun j _ => by rw [k1 200 (by decide), i200]) (gJm_t jj (gJm_w k2 (by decide))) hR2 (kL I2 sg) (tbk J3 (gJm_w k2 (by decide)))⟩
  · refine ⟨hA _ _ _ _ _ hW, ?_⟩
    show wp_X10_covers a1 I J (fun r2 I2 J2 => Po (-2) r2 V I2 J2)
    unfold wp_X10_covers
    exact p_isIn (fun z => absurd z b) (fun _ => ⟨fun z => absurd rfl z, fun _ => hbad b⟩)

theorem q_fewestA {v1 v2 : Nat} {r cvb gr : Bool} {room mc ms : Nat} {V : gV} {I : gI} {J : gL} (hW : gWl v1 v2 r cvb gr room V) (a1 : Int32) (hc : inR a1 0 2 → cvb = true ∨ 5 ≤ mc ∧ 32906 ≤ ms) (hR : RelP n pc w h hs tu mr ver lv I) (hv1 : 1 ≤ ver) (hver : ver < 1073741824) {L : Nat → Nat → List Nat} (hL : lv = ver → Lst n pc w h hs tu mr L I) (hTb : cvb = true → (lv = ver → tbO ver (w * h) n (fun s => elP L s n) J) ∧ (lv ≠ ver → tOld ver J)) {A : gV → Prop} (hA : ∀ V' r' cv' gr' room', gWl v1 v2 r' cv' gr' room' V' → A V') {Po : Int32 → Int32 → gV → gI → gL → Prop} (hbad : ¬ inR a1 0 2 → Po (-2) (-2) V I J)
    (hok : ∀ x V' I' J' L', gWl v1 v2 r true gr room V' → gSm cvC I I' → (∀ j, j ≠ 30 → I' 200 j = I 200 j) → gJm cvJ J J' → RelP n pc w h hs tu mr ver ver I' → Lst n pc w h hs tu mr L' I' → tbO ver (w * h) n (fun s => elP L' s n) J' → Po x x V' I' J') : wA_X9_fewest mc ms v1 a1 V I J (fun r1 V1 I1 J1 => A V1 ∧ wp_X10_fewest a1 I1 J1 (fun r2 I2 J2 => Po r1 r2 V1 I2 J2)) := by
  have hwh := RelP_wh hR
  have hn := hR.1.1
  have hhs := hR.1.2.2.2.2.2.1
  have hp0 : 0 < 2 ^ n := Nat.pow_pos (by decide)
  have hp7 := p7
  obtain ⟨w1, w2, w3, wT, wTS, wJG, wBL, wCO, wM, wr, wr', wc, wc', wg, wg'⟩ := id hW
  unfold wA_X9_fewest
  refine p_isMode (fun b => ⟨fun z => absurd z one_ne, fun _ => ?_⟩) (fun b => ⟨fun _ => ?_, fun z => absurd rfl z⟩)
  · obtain ⟨mode, _, hmo, rfl⟩ := inR_nI (lo := 0) (hi := 2) (by decide) (by decide) b
    refine ⟨_, mc, ms, wT.1, w2, wT.2, by omega, by omega, ?_⟩
    refine p_searchOf hW (hc b) hR hv1 hver hL hTb (by omega) (fun V1 I1 J1 L1 hW1 g1 g2 hR1 hL1 hX1 hT1 => ?_)
    refine ⟨hW1.2.2.2.2.2.1, hW1.2.2.2.2.2.2.2.2.2.2.2.1 rfl, rfl, ?_⟩
    have hO := Lst_lOk hR1 hL1
    have hE := lOk_e hO
    have h20 : ∀ p s, p < n → s < 20 → (L1 p s).length ≤ 8 := fun p s hp hs => ((hL1 p hp).1 s hs).1
    unfold wp_X2_fewestPlacements
    rw [hR1.2.1.2.2.2.1]
    have hfr := fr_le (w * h) hs
    refine p_solve hR1 hver hL1 (by omega) hX1 20 23 hs 0 0 J1 _ (by omega) (by decide) hhs hp0 (fun _ => rfl) (by omega) hT1 (fun J2 u1 u2 => ?_)
    have eb := enc_b (mode := mode) (used := 0) hO hwh.1 hn hhs
    have cle := cv_le' (mode := mode) (used := 0) hE hwh.1 hhs
    have jj : gJm cvJ J J2 := gJm_t (gJm_w g2 (by decide)) (gJm_w u1 (by decide))
    have tbk : ∀ J' : gL, gJm [200, 216] J2 J' → tbO ver (w * h) n (fun s => elP L1 s n) J' := fun J' g i hi => by
      rw [g 95 (by decide), g 96 (by decide)]; exact u2 i hi
    have ii : gSm cvC I I1 := gSm_w g1 (fun k hk => List.mem_append_left _ hk)
    have i200 : I1 200 = I 200 := g1 200 (by decide)
    have kL : ∀ I' : gI, gSm [200, 211, 212, 213, 214, 215, 217, 218, 219, 220, 221] I1 I' → Lst n pc w h hs tu mr L1 I' := fun I' g => Lst_k hL1 hn g (fun k h1 h2 => by simp only [List.mem_cons, List.not_mem_nil, or_false]; omega)
    -- the model, whatever the class has answered rightly
    have model : ∀ x : Int32, (cv mode (w * h) n (fun s => elP L1 s n) hs 0 = [] → x = -1) → (cv mode (w * h) n (fun s => elP L1 s n) hs 0 ≠ [] → x = nI (mnx 31 (cv mode (w * h) n (fun s => elP L1 s n) hs 0))) → wp_X10_fewest (nI mode) I1 J2 (fun r2 I2 J3 => Po x r2 V1 I2 J3) := by
      intro x hx0 hx1
      have hx100 : cv mode (w * h) n (fun s => elP L1 s n) hs 0 ≠ [] → x = nI (mnx 100 (cv mode (w * h) n (fun s => elP L1 s n) hs 0)) ∧ mnx 100 (cv mode (w * h) n (fun s => elP L1 s n) hs 0) < 31 := fun hne => by
        have := mnx_s (b := 31) (c := 100) hne (fun d hd => by have := cle d hd; omega)
        rw [hx1 hne, this.1]
        exact ⟨rfl, by omega⟩
      unfold wp_X10_fewest
      refine p_isIn (fun _ => ⟨fun _ => ?_, fun z => absurd z one_ne⟩) (fun z => absurd b z)
      refine ⟨fun q => ?_, fun q => ?_⟩
      · have hm1 : mode ≠ 1 := fun e => q (by rw [e]; rfl)
        refine p_places hR1 hL1 (fun I2 fpf k1 _ k3 k4 k5 => ?_)
        have hR2 := RelP_21 hR1 k1
        have sk : ∀ a3 : Int32, (a3 = 0 ↔ mode ≠ 0) → w_X10_fewest_68 (fun r2 I2 J3 => Po x r2 V1 I2 J3) a3 (0 : Int32) (I2 200 15) I2 J2 := by
          intro a3 ha
          unfold w_X10_fewest_68
          rw [hR2.2.2.1.2.2.2.1]
          refine p_seek hR2 hO h20 ⟨k3, k4, k5⟩ hm1 ha hhs hp0 (fun I3 J3 m1 m2 m3 m4 => ?_)
          rw [m3, m4]
          have sg : gSm [200, 211, 212, 213, 214, 215, 217, 218, 219, 220, 221] I1 I3 := gSm_t (gSm_w k1 (by decide)) (gSm_w m1.1 (by decide))
          have fin := hok x V1 I3 J3 L1 hW1 (gSm_t ii (gSm_w sg (fun k hk => List.mem_append_right _ hk))) (fun j hj => by rw [m1.2 j hj, k1 200 (by decide), i200]) (gJm_t jj (gJm_w m2 (by decide))) (RelP_sk hR2 m1) (kL I3 sg) (tbk J3 (gJm_w m2 (by decide)))
          refine ⟨fun q2 => ?_, fun q2 => ?_⟩
          · rw [← (hx100 (fun e => q2 ((lg_cmp_eq _ _).mpr (by rw [e]; rfl)))).1]; exact fin
          · have e0 := (pk_lEQ (b := 0) (by omega) (by decide)).mp ((lg_cmp_eq _ _).mp q2)
            rw [← hx0 (List.eq_nil_of_length_eq_zero e0)]; exact fin
        exact ⟨fun q2 => sk 0 ⟨fun _ e => q2 (by rw [e]; rfl), fun _ => rfl⟩, fun q2 => sk 1 ⟨fun z => absurd z one_ne, fun z => absurd ((nI_eq (b := 0) (by omega) (by decide)).mp q2) z⟩⟩
      · have hm1 : mode = 1 := (nI_eq (b := 1) (by omega) (by decide)).mp q
        subst hm1
        refine p_tellLeft hR1 hL1 (fun I2 J3 k1 k2 k3 k4 k5 => ?_)
        have hR2 := RelP_tl hR1 k1
        rw [hR2.2.2.1.2.2.2.1, nI_clamp (by omega), (k5 hs (Nat.zero_le _) (Nat.le_refl _) hhs (Or.inl k4.1)).2]
        have sg : gSm [200, 211, 212, 213, 214, 215, 217, 218, 219, 220, 221] I1 I2 := gSm_w k1 (by decide)
        have fin := hok x V1 I2 J3 L1 hW1 (gSm_t ii (gSm_w sg (fun k hk => List.mem_append_right _ hk))) (fun j _ => by rw [k1 200 (by decide), i200]) (gJm_t jj (gJm_w k2 (by decide))) hR2 (kL I2 sg) (tbk J3 (gJm_w k2 (by decide)))
        refine ⟨vp_in_nI (by omega) (by decide), fun q2 => ⟨vp_in_nI (by omega) (by decide), ?_⟩, fun q2 => ?_⟩
        · rw [← (hx100 (fun e => q2 (by rw [e]; rfl))).1]; exact fin
        · by_cases e : cv 1 (w * h) n (fun s => elP L1 s n) hs 0 = []
          · rw [← hx0 e]; exact fin
          · have hlt := (hx100 e).2
            have := (nI_eq (b := 100) (by omega) (by decide)).mp q2
            omega
    rw [show (31 : Int64) = lN (2 ^ 5 - 1) from rfl, wb_mask (by omega) (by decide), lN_i, show (2 : Nat) ^ 5 = 32 from rfl]
    refine ⟨fun q => ?_, fun q => ?_⟩
    · have hne : cv mode (w * h) n (fun s => elP L1 s n) hs 0 ≠ [] := fun e => q ((lg_cmp_eq _ _).mpr (by rw [eb.2.2.2.1.mpr e]; rfl))
      rw [(eb.2.2.1 hne).1]
      exact ⟨hA _ _ _ _ _ hW1, model _ (fun e => absurd e hne) (fun _ => rfl)⟩
    · have e0 := (pk_lEQ (b := 0) (by omega) (by decide)).mp ((lg_cmp_eq _ _).mp q)
      have he := eb.2.2.2.1.mp e0
      exact ⟨hA _ _ _ _ _ hW1, model _ (fun _ => rfl) (fun z => absurd he z)⟩
  · refine ⟨hA _ _ _ _ _ hW, ?_⟩
    show wp_X10_fewest a1 I J (fun r2 I2 J2 => Po (-2) r2 V I2 J2)
    unfold wp_X10_fewest
    exact p_isIn (fun z => absurd z b) (fun _ => ⟨fun z => absurd rfl z, fun _ => hbad b⟩)

theorem q_coverA {v1 v2 : Nat} {r cvb gr : Bool} {room mc ms : Nat} {V : gV} {I : gI} {J : gL} (hW : gWl v1 v2 r cvb gr room V) (a1 a2 a3 a4 : Int32) (hc : (inR a1 0 2 ∧ inR a2 0 (nI (w - 1)) ∧ inR a3 0 (nI (h - 1)) ∧ inR a4 0 1) → cvb = true ∨ 5 ≤ mc ∧ 32906 ≤ ms) (hR : RelP n pc w h hs tu mr ver lv I) (hv1 : 1 ≤ ver) (hver : ver < 1073741824) {L : Nat → Nat → List Nat} (hL : lv = ver → Lst n pc w h hs tu mr L I) (hTb : cvb = true → (lv = ver → tbO ver (w * h) n (fun s => elP L s n) J) ∧ (lv ≠ ver → tOld ver J)) {A : gV → Prop} (hA : ∀ V' r' cv' gr' room', gWl v1 v2 r' cv' gr' room' V' → A V') {Po : Int32 → Int32 → gV → gI → gL → Prop} (hbad : ¬ (inR a1 0 2 ∧ inR a2 0 (nI (w - 1)) ∧ inR a3 0 (nI (h - 1)) ∧ inR a4 0 1) → Po (-2) (-2) V I J)
    (hok : ∀ x V' I' J' L', gWl v1 v2 r true gr room V' → gSm cvC I I' → (∀ j, j ≠ 30 → I' 200 j = I 200 j) → gJm cvJ J J' → RelP n pc w h hs tu mr ver ver I' → Lst n pc w h hs tu mr L' I' → tbO ver (w * h) n (fun s => elP L' s n) J' → Po x x V' I' J') : wA_X9_cover mc ms v1 a1 a2 a3 a4 V I J (fun r1 V1 I1 J1 => A V1 ∧ wp_X10_cover a1 a2 a3 a4 I1 J1 (fun r2 I2 J2 => Po r1 r2 V1 I2 J2)) := by
  have hwh := RelP_wh hR
  have hn := hR.1.1
  have hw1 := hR.1.2.1
  have hw5 := hR.1.2.2.1
  have hh1 := hR.1.2.2.2.1
  have hh4 := hR.1.2.2.2.2.1
  have hhs := hR.1.2.2.2.2.2.1
  obtain ⟨w1, w2, w3, wT, wTS, wJG, wBL, wCO, wM, wr, wr', wc, wc', wg, wg'⟩ := id hW
  -- the model refuses what the class refuses
  have mbad : (¬ inR a1 0 2 ∨ ¬ inR a2 0 (nI (w - 1)) ∨ ¬ inR a3 0 (nI (h - 1)) ∨ ¬ inR a4 0 1) → wp_X10_cover a1 a2 a3 a4 I J (fun r2 I2 J2 => Po (-2) r2 V I2 J2) := by
    intro hb
    have nq : ¬ (inR a1 0 2 ∧ inR a2 0 (nI (w - 1)) ∧ inR a3 0 (nI (h - 1)) ∧ inR a4 0 1) := fun q => by
      rcases hb with z | z | z | z
      · exact z q.1
      · exact z q.2.1
      · exact z q.2.2.1
      · exact z q.2.2.2
    unfold wp_X10_cover
    rw [hR.2.2.1.2.1, hR.2.2.1.2.2.1, i_1, pk_sub hw1, pk_sub hh1]
    refine p_isIn (fun b1 => ⟨fun z => absurd z (by decide), fun _ => ?_⟩) (fun _ => ⟨fun _ => hbad nq, fun z => absurd rfl z⟩)
    refine p_isIn (fun b2 => ⟨fun z => absurd z (by decide), fun _ => ?_⟩) (fun _ => ⟨fun _ => hbad nq, fun z => absurd rfl z⟩)
    refine p_isIn (fun b3 => ⟨fun z => absurd z (by decide), fun _ => ?_⟩) (fun _ => ⟨fun _ => hbad nq, fun z => absurd rfl z⟩)
    refine p_isIn (fun b4 => ?_) (fun _ => ⟨fun z => absurd rfl z, fun _ => hbad nq⟩)
    rcases hb with z | z | z | z
    · exact absurd b1 z
    · exact absurd b2 z
    · exact absurd b3 z
    · exact absurd b4 z
  unfold wA_X9_cover
  refine p_isMode (fun b1 => ⟨fun z => absurd z one_ne, fun _ => ?_⟩) (fun b1 => ⟨fun _ => ⟨hA _ _ _ _ _ hW, mbad (Or.inl b1)⟩, fun z => absurd rfl z⟩)
  refine p_isBetween (fun b4 => ⟨fun _ => ?_, fun z => absurd z one_ne⟩) (fun b4 => ⟨fun z => absurd rfl z, fun _ => ⟨hA _ _ _ _ _ hW, mbad (Or.inr (Or.inr (Or.inr b4)))⟩⟩)
  refine ⟨_, V.2.1 20, wT.1, w2, wT.2, rfl, _, (c_20 wJG).1, rfl, (c_20 wJG).2, rfl, ?_⟩
  rw [hR.2.1.2.1, i_1, pk_sub hw1]
  refine p_isBetween (fun b2 => ⟨fun z => absurd z (by decide), fun _ => ?_⟩) (fun b2 => ⟨fun _ => ⟨hA _ _ _ _ _ hW, mbad (Or.inr (Or.inl b2))⟩, fun z => absurd rfl z⟩)
  refine ⟨_, V.2.1 20, wT.1, w2, wT.2, rfl, _, (c_20 wJG).1, rfl, (c_20 wJG).2, rfl, ?_⟩
  rw [hR.2.1.2.2.1, pk_sub hh1]
  refine p_isBetween (fun b3 => ⟨fun _ => ?_, fun z => absurd z (by decide)⟩) (fun b3 => ⟨fun z => absurd rfl z, fun _ => ⟨hA _ _ _ _ _ hW, mbad (Or.inr (Or.inr (Or.inl b3)))⟩⟩)
  obtain ⟨mode, _, hmo, rfl⟩ := inR_nI (lo := 0) (hi := 2) (by decide) (by decide) b1
  obtain ⟨x, _, hx, rfl⟩ := inR_nI (lo := 0) (by decide) (by omega) b2
  obtain ⟨y, _, hy, rfl⟩ := inR_nI (lo := 0) (by decide) (by omega) b3
  have hcell : w * y + x < w * h := by
    have : w * (y + 1) ≤ w * h := Nat.mul_le_mul_left w (by omega)
    rw [Nat.mul_add, Nat.mul_one] at this
    omega
  refine ⟨_, mc, ms, wT.1, w2, wT.2, by omega, by omega, ?_⟩
  refine p_searchOf hW (hc ⟨b1, b2, b3, b4⟩) hR hv1 hver hL hTb (by omega) (fun V1 I1 J1 L1 hW1 g1 g2 hR1 hL1 hX1 hT1 => ?_)
  obtain ⟨x1, x2, x3, xT, xTS, xJG, xBL, xCO, xM, xr, xr', xc, xc', xg, xg'⟩ := id hW1
  have hO := Lst_lOk hR1 hL1
  have h20 : ∀ p s, p < n → s < 20 → (L1 p s).length ≤ 8 := fun p s hp hs => ((hL1 p hp).1 s hs).1
  refine ⟨_, V1.2.1 20, xT.1, x2, xT.2, rfl, _, (c_20 xJG).1, rfl, (c_20 xJG).2, rfl, xJG, xc rfl, rfl, ?_⟩
  rw [hR1.2.1.2.1, pk_mul, nI_add]
  have ii : gSm cvC I I1 := gSm_w g1 (fun k hk => List.mem_append_left _ hk)
  have i200 : I1 200 = I 200 := g1 200 (by decide)
  -- the model, from any state behind the class's search
  have model : ∀ (ans : Int32) (I2 : gI) (J2 : gL), gSm [94] I1 I2 → gJm [95, 96] J1 J2 → tbO ver (w * h) n (fun s => elP L1 s n) J2 → ((hs.testBit (w * y + x) = true ∨ lcv mode (w * h) n (fun s => elP L1 s n) (w * y + x) hs 0 = none) → ans = -1) → (hs.testBit (w * y + x) = false → ∀ e, lcv mode (w * h) n (fun s => elP L1 s n) (w * y + x) hs 0 = some e → ans = if a4 = 0 then nI e.1 else nI e.2) → wp_X10_cover (nI mode) (nI x) (nI y) a4 I2 J2 (fun r2 I3 J3 => Po ans r2 V1 I3 J3) := by
    intro ans I2 J2 k1 k2 k3 ha0 ha1
    have hR2 : RelP n pc w h hs tu mr ver ver I2 := RelP_k hR1 (fun j _ => by rw [k1 20 (by decide)]) (k1 21 (by decide)) (fun j _ => by rw [k1 200 (by decide)]) (k1 210 (by decide))
    have hL2 : Lst n pc w h hs tu mr L1 I2 := Lst_k hL1 hn k1 (fun k h1 h2 => by simp only [List.mem_cons, List.not_mem_nil, or_false]; omega)
    have jj : gJm cvJ J J2 := gJm_t (gJm_w g2 (by decide)) (gJm_w k2 (by decide))
    have i2 : gSm cvC I I2 := gSm_t ii (gSm_w k1 (by decide))
    have e200 : I2 200 = I 200 := by rw [k1 200 (by decide)]; exact i200
    have tbk : ∀ J' : gL, gJm [200, 216] J2 J' → tbO ver (w * h) n (fun s => elP L1 s n) J' := fun J' g i hi => by
      rw [g 95 (by decide), g 96 (by decide)]; exact k3 i hi
    have kL : ∀ I' : gI, gSm [200, 211, 212, 213, 214, 215, 217, 218, 219, 220, 221] I2 I' → Lst n pc w h hs tu mr L1 I' := fun I' g => Lst_k hL2 hn g (fun k h1 h2 => by simp only [List.mem_cons, List.not_mem_nil, or_false]; omega)
    unfold wp_X10_cover
    rw [hR2.2.2.1.2.1, hR2.2.2.1.2.2.1, hR2.2.2.1.2.2.2.1, i_1, pk_sub hw1, pk_sub hh1, pk_mul, nI_add, Nat.mul_comm y w]
    refine p_isIn (fun _ => ⟨fun z => absurd z (by decide), fun _ => ?_⟩) (fun z => absurd b1 z)
    refine p_isIn (fun _ => ⟨fun z => absurd z (by decide), fun _ => ?_⟩) (fun z => absurd b2 z)
    refine p_isIn (fun _ => ⟨fun z => absurd z (by decide), fun _ => ?_⟩) (fun z => absurd b3 z)
    refine p_isIn (fun _ => ⟨fun _ => ?_, fun z => absurd z (by decide)⟩) (fun z => absurd b4 z)
    have tb := nI_bit1 (u := hs) (p := w * y + x) (by omega) (by omega)
    refine ⟨fun q => ?_, fun q => ?_⟩
    · have hb : hs.testBit (w * y + x) = false := by
        cases z : hs.testBit (w * y + x) with
        | false => rfl
        | true => exact absurd (tb.mpr z) q
      -- behind the tables
      have run : ∀ (I3 : gI) (J3 : gL), gSm [211, 212, 213, 214, 215, 217, 218] I2 I3 → gJm [216] J2 J3 → mEl n L1 I3 → (mode = 1 → tlC (w * h) n hs L1 (2 ^ (w * h) - 1) I3) → (mode = 1 → tlT (w * h) n hs L1 0 I3 J3) → w_X10_cover_87 (fun r2 I3 J3 => Po ans r2 V1 I3 J3) (nI mode) (nI x) (nI y) a4 I3 J3 := by
        intro I3 J3 m1 m2 m3 m4 m5
        have hR3 := RelP_tl hR2 m1
        have fin : ∀ I4 J4, cvS I3 J3 I4 J4 → Po ans ans V1 I4 J4 := by
          intro I4 J4 hS
          have sg : gSm [200, 211, 212, 213, 214, 215, 217, 218, 219, 220, 221] I2 I4 := gSm_t (gSm_w m1 (by decide)) (gSm_w hS.1.1 (by decide))
          refine hok ans V1 I4 J4 L1 hW1 (gSm_t i2 (gSm_w sg (fun k hk => List.mem_append_right _ hk))) (fun j hj => by rw [hS.1.2 j hj, m1 200 (by decide), e200]) (gJm_t jj (gJm_t (gJm_w m2 (by decide)) (gJm_w hS.2 (by decide)))) (RelP_sk hR3 hS.1) (kL I4 sg) (tbk J4 (gJm_t (gJm_w m2 (by decide)) (gJm_w hS.2 (by decide))))
        refine p_coverM hR3 hO h20 m3 (by omega) m4 m5 (by omega) (by omega) hb a4 (fun he I4 J4 hS => ?_) (fun e he I4 J4 hS => ?_)
        · have := fin I4 J4 hS
          rw [ha0 (Or.inr he)] at this ⊢
          exact this
        · have := fin I4 J4 hS
          rw [ha1 hb e he] at this ⊢
          exact this
      refine ⟨fun q1 => ?_, fun q1 => ?_⟩
      · have hm1 : mode ≠ 1 := fun e => q1 (by rw [e])
        exact p_places hR2 hL2 (fun I3 fpf m1 _ m3 m4 m5 => run I3 J2 (gSm_w m1 (by decide)) (gJm_r J2) ⟨m3, m4, m5⟩ (fun z => absurd z hm1) (fun z => absurd z hm1))
      · exact p_tellLeft hR2 hL2 (fun I3 J3 m1 m2 m3 m4 m5 => run I3 J3 m1 m2 m3 (fun _ => m4) (fun _ => m5))
    · have hb := tb.mp q
      rw [ha0 (Or.inl hb)]
      exact hok (-1) V1 I2 J2 L1 hW1 i2 (fun j _ => by rw [e200]) jj hR2 hL2 k3
  refine p_findLeast hR1 hver hL1 (by omega) hX1 hcell hT1 (fun hh I2 J2 k1 _ k2 k3 => ⟨fun z => absurd rfl z, fun _ => ?_⟩) (fun hb e he I2 J2 k1 _ f8 f9 k2 k3 => ⟨fun _ => ⟨fun q => ?_, fun q => ?_⟩, fun z => absurd z one_ne⟩)
  · refine ⟨hA _ _ _ _ _ hW1, ?_⟩
    refine model _ I2 J2 k1 k2 k3 (fun _ => rfl) (fun hb e he => ?_)
    rcases hh with z | z
    · rw [hb] at z; exact absurd z (by decide)
    · rw [he] at z; cases z
  · refine ⟨_, (c_94 (xc rfl)).1, rfl, (c_94 (xc rfl)).2, rfl, ?_⟩
    refine ⟨hA _ _ _ _ _ hW1, ?_⟩
    refine model _ I2 J2 k1 k2 k3 (fun z => ?_) (fun _ e' he' => ?_)
    · rcases z with z | z
      · rw [hb] at z; exact absurd z (by decide)
      · rw [he] at z; cases z
    · rw [he] at he'
      obtain rfl := Option.some.inj he'
      rw [if_neg q, f9]
  · refine ⟨_, (c_94 (xc rfl)).1, rfl, (c_94 (xc rfl)).2, rfl, ?_⟩
    refine ⟨hA _ _ _ _ _ hW1, ?_⟩
    refine model _ I2 J2 k1 k2 k3 (fun z => ?_) (fun _ e' he' => ?_)
    · rcases z with z | z
      · rw [hb] at z; exact absurd z (by decide)
      · rw [he] at z; cases z
    · rw [he] at he'
      obtain rfl := Option.some.inj he'
      rw [if_pos q, f8]

end
