/-! cover: side by side -/
section
variable {n : Nat} {pc : Nat → Nat} {w h hs : Nat} {tu mr : Int32} {ver lv : Nat}
theorem q_cover {v1 v2 : Nat} {r cvb gr : Bool} {room mc ms : Nat} {V : gV} {I : gI} {J : gL} (hW : gWl v1 v2 r cvb gr room V) (hc : cvb = true ∨ 5 ≤ mc ∧ 32906 ≤ ms) (hR : RelP n pc w h hs tu mr ver lv I) (hv1 : 1 ≤ ver) (hver : ver < 1073741824) {L : Nat → Nat → List Nat} (hL : lv = ver → Lst n pc w h hs tu mr L I) (hTb : cvb = true → (lv = ver → tbO ver (w * h) n (fun s => elP L s n) J) ∧ (lv ≠ ver → tOld ver J)) (a1 a2 a3 a4 : Int32) {Po : Int32 → Int32 → gV → gI → gL → Prop} (hbad : Po (-2) (-2) V I J)
    (hok : ∀ x V' I' J' L', gWl v1 v2 r true gr room V' → gSm cvC I I' → (∀ j, j ≠ 30 → I' 200 j = I 200 j) → gJm cvJ J J' → RelP n pc w h hs tu mr ver ver I' → Lst n pc w h hs tu mr L' I' → tbO ver (w * h) n (fun s => elP L' s n) J' → Po x x V' I' J') : wA_X9_cover mc ms v1 a1 a2 a3 a4 V I J (fun r1 V1 I1 J1 => wp_X10_cover a1 a2 a3 a4 I1 J1 (fun r2 I2 J2 => Po r1 r2 V1 I2 J2)) := by
  have hwh := RelP_wh hR
  have hn := hR.1.1
  have hw1 := hR.1.2.1
  have hw5 := hR.1.2.2.1
  have hh1 := hR.1.2.2.2.1
  have hh4 := hR.1.2.2.2.2.1
  have hhs := hR.1.2.2.2.2.2.1
  obtain ⟨w1, w2, w3, wT, wTS, wJG, wBL, wCO, wM, wr, wr', wc, wc', wg, wg'⟩ := id hW
  -- the model refuses what the class refuses
  have mbad : (¬ inR a1 0 2 ∨ ¬ inR a2 0 (nI (w - 1)) ∨ ¬ inR a3 0 (nI (h - 1)) ∨ ¬ inR a4 0 1) → wp_X10_cover a1 a2 a3 a4 I J (fun r2 I2 J2 => Po (-2) r2 V I2 J2) := by
    intro hb
    unfold wp_X10_cover
    rw [hR.2.2.1.2.1, hR.2.2.1.2.2.1, i_1, pk_sub hw1, pk_sub hh1]
    refine p_isIn (fun b1 => ⟨fun z => absurd z (by decide), fun _ => ?_⟩) (fun _ => ⟨fun _ => hbad, fun z => absurd rfl z⟩)
    refine p_isIn (fun b2 => ⟨fun z => absurd z (by decide), fun _ => ?_⟩) (fun _ => ⟨fun _ => hbad, fun z => absurd rfl z⟩)
    refine p_isIn (fun b3 => ⟨fun z => absurd z (by decide), fun _ => ?_⟩) (fun _ => ⟨fun _ => hbad, fun z => absurd rfl z⟩)
    refine p_isIn (fun b4 => ?_) (fun _ => ⟨fun z => absurd rfl z, fun _ => hbad⟩)
    rcases hb with z | z | z | z
    · exact absurd b1 z
    · exact absurd b2 z
    · exact absurd b3 z
    · exact absurd b4 z
  unfold wA_X9_cover
  refine p_isMode (fun b1 => ⟨fun z => absurd z one_ne, fun _ => ?_⟩) (fun b1 => ⟨fun _ => mbad (Or.inl b1), fun z => absurd rfl z⟩)
  refine p_isBetween (fun b4 => ⟨fun _ => ?_, fun z => absurd z one_ne⟩) (fun b4 => ⟨fun z => absurd rfl z, fun _ => mbad (Or.inr (Or.inr (Or.inr b4)))⟩)
  refine ⟨_, V.2.1 20, wT.1, w2, wT.2, rfl, _, (c_20 wJG).1, rfl, (c_20 wJG).2, rfl, ?_⟩
  rw [hR.2.1.2.1, i_1, pk_sub hw1]
  refine p_isBetween (fun b2 => ⟨fun z => absurd z (by decide), fun _ => ?_⟩) (fun b2 => ⟨fun _ => mbad (Or.inr (Or.inl b2)), fun z => absurd rfl z⟩)
  refine ⟨_, V.2.1 20, wT.1, w2, wT.2, rfl, _, (c_20 wJG).1, rfl, (c_20 wJG).2, rfl, ?_⟩
  rw [hR.2.1.2.2.1, pk_sub hh1]
  refine p_isBetween (fun b3 => ⟨fun _ => ?_, fun z => absurd z (by decide)⟩) (fun b3 => ⟨fun z => absurd rfl z, fun _ => mbad (Or.inr (Or.inr (Or.inl b3)))⟩)
  obtain ⟨mode, _, hmo, rfl⟩ := inR_nI (lo := 0) (hi := 2) (by decide) (by decide) b1
  obtain ⟨x, _, hx, rfl⟩ := inR_nI (lo := 0) (by decide) (by omega) b2
  obtain ⟨y, _, hy, rfl⟩ := inR_nI (lo := 0) (by decide) (by omega) b3
  have hcell : w * y + x < w * h := by
    have : w * (y + 1) ≤ w * h := Nat.mul_le_mul_left w (by omega)
    rw [Nat.mul_add, Nat.mul_one] at this
    omega
  refine ⟨_, mc, ms, wT.1, w2, wT.2, by omega, by omega, ?_⟩
  refine p_searchOf hW hc hR hv1 hver hL hTb (by omega) (fun V1 I1 J1 L1 hW1 g1 g2 hR1 hL1 hX1 hT1 => ?_)
  obtain ⟨x1, x2, x3, xT, xTS, xJG, xBL, xCO, xM, xr, xr', xc, xc', xg, xg'⟩ := id hW1
  have hO := Lst_lOk hR1 hL1
  have h20 : ∀ p s, p < n → s < 20 → (L1 p s).length ≤ 8 := fun p s hp hs => ((hL1 p hp).1 s hs).1
  refine ⟨_, V1.2.1 20, xT.1, x2, xT.2, rfl, _, (c_20 xJG).1, rfl, (c_20 xJG).2, rfl, xJG, xc rfl, rfl, ?_⟩
  rw [hR1.2.1.2.1, pk_mul, nI_add]
  have ii : gSm cvC I I1 := gSm_w g1 (fun k hk => List.mem_append_left _ hk)
  have i200 : I1 200 = I 200 := g1 200 (by decide)
  -- the model, from any state behind the class's search
  have model : ∀ (ans : Int32) (I2 : gI) (J2 : gL), gSm [94] I1 I2 → gJm [95, 96] J1 J2 → tbO ver (w * h) n (fun s => elP L1 s n) J2 → ((hs.testBit (w * y + x) = true ∨ lcv mode (w * h) n (fun s => elP L1 s n) (w * y + x) hs 0 = none) → ans = -1) → (hs.testBit (w * y + x) = false → ∀ e, lcv mode (w * h) n (fun s => elP L1 s n) (w * y + x) hs 0 = some e → ans = if a4 = 0 then nI e.1 else nI e.2) → wp_X10_cover (nI mode) (nI x) (nI y) a4 I2 J2 (fun r2 I3 J3 => Po ans r2 V1 I3 J3) := by
    intro ans I2 J2 k1 k2 k3 ha0 ha1
    have hR2 : RelP n pc w h hs tu mr ver ver I2 := RelP_k hR1 (fun j _ => by rw [k1 20 (by decide)]) (k1 21 (by decide)) (fun j _ => by rw [k1 200 (by decide)]) (k1 210 (by decide))
    have hL2 : Lst n pc w h hs tu mr L1 I2 := Lst_k hL1 hn k1 (fun k h1 h2 => by simp only [List.mem_cons, List.not_mem_nil, or_false]; omega)
    have jj : gJm cvJ J J2 := gJm_t (gJm_w g2 (by decide)) (gJm_w k2 (by decide))
    have i2 : gSm cvC I I2 := gSm_t ii (gSm_w k1 (by decide))
    have e200 : I2 200 = I 200 := by rw [k1 200 (by decide)]; exact i200
    have tbk : ∀ J' : gL, gJm [200, 216] J2 J' → tbO ver (w * h) n (fun s => elP L1 s n) J' := fun J' g i hi => by
      rw [g 95 (by decide), g 96 (by decide)]; exact k3 i hi
    have kL : ∀ I' : gI, gSm [200, 211, 212, 213, 214, 215, 217, 218, 219, 220, 221] I2 I' → Lst n pc w h hs tu mr L1 I' := fun I' g => Lst_k hL2 hn g (fun k h1 h2 => by simp only [List.mem_cons, List.not_mem_nil, or_false]; omega)
    unfold wp_X10_cover
    rw [hR2.2.2.1.2.1, hR2.2.2.1.2.2.1, hR2.2.2.1.2.2.2.1, i_1, pk_sub hw1, pk_sub hh1, pk_mul, nI_add, Nat.mul_comm y w]
    refine p_isIn (fun _ => ⟨fun z => absurd z (by decide), fun _ => ?_⟩) (fun z => absurd b1 z)
    refine p_isIn (fun _ => ⟨fun z => absurd z (by decide), fun _ => ?_⟩) (fun z => absurd b2 z)
    refine p_isIn (fun _ => ⟨fun z => absurd z (by decide), fun _ => ?_⟩) (fun z => absurd b3 z)
    refine p_isIn (fun _ => ⟨fun _ => ?_, fun z => absurd z (by decide)⟩) (fun z => absurd b4 z)
    have tb := nI_bit1 (u := hs) (p := w * y + x) (by omega) (by omega)
    refine ⟨fun q => ?_, fun q => ?_⟩
    · have hb : hs.testBit (w * y + x) = false := by
        cases z : hs.testBit (w * y + x) with
        | false => rfl
        | true => exact absurd (tb.mpr z) q
      -- behind the tables
      have run : ∀ (I3 : gI) (J3 : gL), gSm [211, 212, 213, 214, 215, 217, 218] I2 I3 → gJm [216] J2 J3 → mEl n L1 I3 → (mode = 1 → tlC (w * h) n hs L1 (2 ^ (w * h) - 1) I3) → (mode = 1 → tlT (w * h) n hs L1 0 I3 J3) → w_X10_cover_87 (fun r2 I3 J3 => Po ans r2 V1 I3 J3) (nI mode) (nI x) (nI y) a4 I3 J3 := by
        intro I3 J3 m1 m2 m3 m4 m5
        have hR3 := RelP_tl hR2 m1
        have fin : ∀ I4 J4, cvS I3 J3 I4 J4 → Po ans ans V1 I4 J4 := by
          intro I4 J4 hS
          have sg : gSm [200, 211, 212, 213, 214, 215, 217, 218, 219, 220, 221] I2 I4 := gSm_t (gSm_w m1 (by decide)) (gSm_w hS.1.1 (by decide))
          refine hok ans V1 I4 J4 L1 hW1 (gSm_t i2 (gSm_w sg (fun k hk => List.mem_append_right _ hk))) (fun j hj => by rw [hS.1.2 j hj, m1 200 (by decide), e200]) (gJm_t jj (gJm_t (gJm_w m2 (by decide)) (gJm_w hS.2 (by decide)))) (RelP_sk hR3 hS.1) (kL I4 sg) (tbk J4 (gJm_t (gJm_w m2 (by decide)) (gJm_w hS.2 (by decide))))
        refine p_coverM hR3 hO h20 m3 (by omega) m4 m5 (by omega) (by omega) hb a4 (fun he I4 J4 hS => ?_) (fun e he I4 J4 hS => ?_)
        · have := fin I4 J4 hS
          rw [ha0 (Or.inr he)] at this ⊢
          exact this
        · have := fin I4 J4 hS
          rw [ha1 hb e he] at this ⊢
          exact this
      refine ⟨fun q1 => ?_, fun q1 => ?_⟩
      · have hm1 : mode ≠ 1 := fun e => q1 (by rw [e])
        exact p_places hR2 hL2 (fun I3 fpf m1 _ m3 m4 m5 => run I3 J2 (gSm_w m1 (by decide)) (gJm_r J2) ⟨m3, m4, m5⟩ (fun z => absurd z hm1) (fun z => absurd z hm1))
      · exact p_tellLeft hR2 hL2 (fun I3 J3 m1 m2 m3 m4 m5 => run I3 J3 m1 m2 m3 (fun _ => m4) (fun _ => m5))
    · have hb := tb.mp q
      rw [ha0 (Or.inl hb)]
      exact hok (-1) V1 I2 J2 L1 hW1 i2 (fun j _ => by rw [e200]) jj hR2 hL2 k3
  refine p_findLeast hR1 hver hL1 (by omega) hX1 hcell hT1 (fun hh I2 J2 k1 _ k2 k3 => ⟨fun z => absurd rfl z, fun _ => ?_⟩) (fun hb e he I2 J2 k1 _ f8 f9 k2 k3 => ⟨fun _ => ⟨fun q => ?_, fun q => ?_⟩, fun z => absurd z one_ne⟩)
  · refine model _ I2 J2 k1 k2 k3 (fun _ => rfl) (fun hb e he => ?_)
    rcases hh with z | z
    · rw [hb] at z; exact absurd z (by decide)
    · rw [he] at z; cases z
  · refine ⟨_, (c_94 (xc rfl)).1, rfl, (c_94 (xc rfl)).2, rfl, ?_⟩
    refine model _ I2 J2 k1 k2 k3 (fun z => ?_) (fun _ e' he' => ?_)
    · rcases z with z | z
      · rw [hb] at z; exact absurd z (by decide)
      · rw [he] at z; cases z
    · rw [he] at he'
      obtain rfl := Option.some.inj he'
      rw [if_neg q, f9]
  · refine ⟨_, (c_94 (xc rfl)).1, rfl, (c_94 (xc rfl)).2, rfl, ?_⟩
    refine model _ I2 J2 k1 k2 k3 (fun z => ?_) (fun _ e' he' => ?_)
    · rcases z with z | z
      · rw [hb] at z; exact absurd z (by decide)
      · rw [he] at z; cases z
    · rw [he] at he'
      obtain rfl := Option.some.inj he'
      rw [if_pos q, f8]
end
