/-! PIECES and THE BOARD: what class and model have alike -/
def pcOk (c : Nat) : Prop := 1 ≤ c ∧ c < 33554432 ∧ cN (bt (nI c)) 25 ≤ 5
def RelP (n : Nat) (pc : Nat → Nat) (w h hs : Nat) (tu mi : Int32) (ver lv : Nat) (I : gI) : Prop :=
  (n ≤ 6 ∧ 1 ≤ w ∧ w ≤ 5 ∧ 1 ≤ h ∧ h ≤ 4 ∧ hs < 2 ^ (w * h) ∧ (tu = 0 ∨ tu = 1) ∧ (mi = 0 ∨ mi = 1) ∧ lv ≤ ver) ∧ (I 20 0 = nI n ∧ I 20 1 = nI w ∧ I 20 2 = nI h ∧ I 20 3 = nI hs ∧ I 20 4 = nI ver ∧ I 20 5 = tu ∧ I 20 6 = mi ∧ I 20 7 = nI lv) ∧ (I 200 11 = nI n ∧ I 200 13 = nI w ∧ I 200 14 = nI h ∧ I 200 15 = nI hs ∧ I 200 16 = tu ∧ I 200 17 = mi) ∧ ∀ p, p < n → pcOk (pc p) ∧ I 21 p = nI (pc p) ∧ I 210 p = nI (pc p)
theorem RelP_wh {n : Nat} {pc : Nat → Nat} {w h hs : Nat} {tu mi : Int32} {ver lv : Nat} {I : gI} (hR : RelP n pc w h hs tu mi ver lv I) : w * h ≤ 20 ∧ 1 ≤ w * h ∧ 2 ^ (w * h) ≤ 1048576 := by
  obtain ⟨⟨_, h1, h2, h3, h4, _⟩, _⟩ := hR
  have a : w * h ≤ 5 * 4 := Nat.mul_le_mul h2 h4
  have b : 1 * 1 ≤ w * h := Nat.mul_le_mul h1 h3
  have c : 2 ^ (w * h) ≤ 2 ^ 20 := Nat.pow_le_pow_right (by decide) (by omega)
  exact ⟨by omega, by omega, by omega⟩
theorem mk_pow : ∀ s, s ≤ 20 → ((1 : Int32) <<< (nI s &&& 31)) - 1 = nI (2 ^ s - 1) := by decide +kernel
/-- a change of some fields that the relation does not speak of -/
theorem RelP_k {n : Nat} {pc : Nat → Nat} {w h hs : Nat} {tu mi : Int32} {ver lv : Nat} {I I' : gI} (hR : RelP n pc w h hs tu mi ver lv I) (h20 : ∀ j, j < 8 → I' 20 j = I 20 j) (h21 : I' 21 = I 21) (h200 : ∀ j, j < 18 → I' 200 j = I 200 j) (h210 : I' 210 = I 210) : RelP n pc w h hs tu mi ver lv I' := by
  obtain ⟨a, ⟨b0, b1, b2, b3, b4, b5, b6, b7⟩, ⟨c0, c1, c2, c3, c4, c5⟩, d⟩ := hR
  refine ⟨a, ⟨?_, ?_, ?_, ?_, ?_, ?_, ?_, ?_⟩, ⟨?_, ?_, ?_, ?_, ?_, ?_⟩, fun p hp => ?_⟩
  · rw [h20 0 (by omega)]; exact b0
  · rw [h20 1 (by omega)]; exact b1
  · rw [h20 2 (by omega)]; exact b2
  · rw [h20 3 (by omega)]; exact b3
  · rw [h20 4 (by omega)]; exact b4
  · rw [h20 5 (by omega)]; exact b5
  · rw [h20 6 (by omega)]; exact b6
  · rw [h20 7 (by omega)]; exact b7
  · rw [h200 11 (by omega)]; exact c0
  · rw [h200 13 (by omega)]; exact c1
  · rw [h200 14 (by omega)]; exact c2
  · rw [h200 15 (by omega)]; exact c3
  · rw [h200 16 (by omega)]; exact c4
  · rw [h200 17 (by omega)]; exact c5
  · rw [h21, h210]; exact d p hp
theorem q_piece {n : Nat} {pc : Nat → Nat} {w h hs : Nat} {tu mi : Int32} {ver lv : Nat} {I : gI} (hR : RelP n pc w h hs tu mi ver lv I) (a : Int32) {Po : Int32 → Int32 → gI → Prop} (hbad : Po (-2) (-2) I) (hfull : Po (-3) (-3) I)
    (hok : ∀ pc' x I', RelP (n + 1) pc' w h hs tu mi (ver + 1) lv I' → gSm [20, 21, 200, 210] I I' → (∀ j, j ≠ 0 → j ≠ 4 → I' 20 j = I 20 j) → (∀ j, j ≠ 11 → I' 200 j = I 200 j) → Po x x I') : wp_X9_piece a I (fun r I1 => wp_X10_piece a I1 (fun r2 I2 => Po r r2 I2)) := by
  obtain ⟨⟨hn, hw1, hw2, hh1, hh2, hhs, htu, hmi, hlv⟩, ⟨b0, b1, b2, b3, b4, b5, b6, b7⟩, ⟨c0, c1, c2, c3, c4, c5⟩, d⟩ := hR
  unfold wp_X9_piece
  refine p_isBetween (fun b => ⟨fun _ => ?_, fun q => absurd q one_ne⟩) (fun b => ⟨fun q => absurd rfl q, fun _ => ?_⟩)
  · obtain ⟨c, hc1, hc2, rfl⟩ := inR_nI (lo := 1) (hi := 33554431) (by decide) (by decide) b
    have hc : c < 33554432 := by omega
    have hcn := cN_le (bt (nI c)) 25
    -- the model's head
    have head : ∀ {r : Int32} {I1 : gI}, (5 < cN (bt (nI c)) 25 → Po r (-2) I1) → (¬ 5 < cN (bt (nI c)) 25 → wp_X10_hangs (nI c) (fun r5 => (¬ r5 = 0 → (¬ (I1 200 11) = (6 : Int32) → vp_in (I1 200 11) 6 ∧ ∀ I9 : gI, I9 = gup I1 210 ((I1 200 11)).toNatClampNeg (nI c) → ∀ I10 : gI, I10 = gup I9 200 11 ((I9 200 11) + (1 : Int32)) → Po r ((I10 200 11) - (1 : Int32)) I10) ∧ ((I1 200 11) = (6 : Int32) → Po r (-3 : Int32) I1)) ∧ (r5 = 0 → Po r (-2 : Int32) I1))) → wp_X10_piece (nI c) I1 (fun r2 I2 => Po r r2 I2) := by
      intro r I1 h1 h2
      unfold wp_X10_piece
      refine p_isIn (fun _ => ⟨fun q => absurd q one_ne, fun _ => ?_⟩) (fun q => absurd b q)
      refine p_ones _ ?_
      exact pk_lt 5 (cN (bt (nI c)) 25) (fun z => h1 z) (fun z => h2 (by omega)) rfl rfl
    refine p_bitCount _ ?_
    rw [cN_25 hc]
    refine pk_lt 5 (cN (bt (nI c)) 25) (fun hz => head (fun _ => hbad) (fun z => absurd hz z)) (fun hz => ?_) rfl rfl
    have heq := itr_4 (C := bt (nI c)) (R := bt (nI c &&& (-nI c))) (fun i hi => bt_25 hc hi) hz (fun i hi => ((b_low _ _).mp hi).1) (by
      obtain ⟨i, hi⟩ : ∃ i, bt (nI c) i = true := by
        apply Classical.byContradiction
        intro hn
        have : nI c = nI 0 := b_ext (fun i _ => by
          rw [show bt (nI 0) i = false from b_0 i]
          cases e : bt (nI c) i with
          | false => rfl
          | true => exact absurd ⟨i, e⟩ hn)
        have := (nI_eq (by omega) (by decide)).mp this
        omega
      obtain ⟨k, hk1, hk2⟩ := g_least (P := fun i => bt (nI c) i = true) ⟨i, hi⟩
      refine ⟨k, (b_low _ _).mpr ⟨hk1, fun j hj => ?_⟩⟩
      cases e : bt (nI c) j with
      | false => rfl
      | true => exact absurd e (hk2 j hj))
    refine p_hangsC hc (fun he => ⟨fun _ => ?_, fun q => absurd q one_ne⟩) (fun he => ⟨fun q => absurd rfl q, fun _ => ?_⟩)
    · have mod1 : ∀ {r : Int32} {I1 : gI}, I1 200 11 = nI n → (n = 6 → Po r (-3) I1) → (n < 6 → Po r (nI n) (gup (gup I1 210 n (nI c)) 200 11 (nI (n + 1)))) → wp_X10_piece (nI c) I1 (fun r2 I2 => Po r r2 I2) := by
        intro r I1 e11 k1 k2
        refine head (fun z => by omega) (fun _ => p_hangsM hc (fun _ => ⟨fun _ => ?_, fun q => absurd q one_ne⟩) (fun z => absurd (heq.mp he) z))
        rw [e11]
        refine ⟨fun q => ?_, fun q => k1 ((nI_eq (b := 6) (by omega) (by decide)).mp q)⟩
        have h6 : n < 6 := by
          rcases Nat.lt_or_ge n 6 with z | z
          · exact z
          · exact absurd (by rw [show n = 6 by omega]; rfl) q
        refine ⟨vp_in_nI h6 (by decide), ?_⟩
        rw [nI_clamp (by omega)]
        intro I9 e9 I10 e10
        have f9 : I9 200 11 = nI n := by rw [e9, gup_o (by decide)]; exact e11
        rw [f9, nI_1] at e10
        have f10 : I10 200 11 = nI (n + 1) := by rw [e10, gup_at]
        rw [f10, i_1, pk_sub (by omega), Nat.add_sub_cancel, e10, e9]
        exact k2 h6
      rw [b0]
      refine pk_lt n 6 (fun h6 => ?_) (fun h6 => ?_) rfl rfl
      · unfold wp_X4_add
        rw [b0]
        refine ⟨vp_in_nI h6 (by decide), ?_⟩
        rw [nI_clamp (by omega)]
        intro I2 e2 I3 e3 I4 e4
        have f2 : I2 20 0 = nI n := by rw [e2, gup_o (by decide)]; exact b0
        rw [f2, nI_1] at e3
        have f3 : I3 20 4 = nI ver := by rw [e3, gup_ne (by decide), e2, gup_o (by decide)]; exact b4
        rw [f3, nI_1] at e4
        have f4 : I4 20 0 = nI (n + 1) := by rw [e4, gup_ne (by decide), e3, gup_at]
        rw [f4, i_1, pk_sub (by omega), Nat.add_sub_cancel]
        have f11 : I4 200 11 = nI n := by rw [e4, gup_o (by decide), e3, gup_o (by decide), e2, gup_o (by decide)]; exact c0
        refine mod1 f11 (fun z => by omega) (fun _ => ?_)
        generalize hI9 : gup (gup I4 210 n (nI c)) 200 11 (nI (n + 1)) = I9
        have k20 : ∀ j, j ≠ 0 → j ≠ 4 → I9 20 j = I 20 j := fun j j0 j4 => by rw [← hI9, gup_o (by decide), gup_o (by decide), e4, gup_ne j4, e3, gup_ne j0, e2, gup_o (by decide)]
        have k200 : ∀ j, j ≠ 11 → I9 200 j = I 200 j := fun j hj => by rw [← hI9, gup_ne hj, gup_o (by decide), e4, gup_o (by decide), e3, gup_o (by decide), e2, gup_o (by decide)]
        refine hok (fun p => if p = n then c else pc p) _ I9 ⟨⟨by omega, hw1, hw2, hh1, hh2, hhs, htu, hmi, by omega⟩, ⟨?_, ?_, ?_, ?_, ?_, ?_, ?_, ?_⟩, ⟨?_, ?_, ?_, ?_, ?_, ?_⟩, fun p hp => ?_⟩ ?_ k20 k200
        · rw [← hI9, gup_o (by decide), gup_o (by decide)]; exact f4
        · rw [k20 1 (by decide) (by decide)]; exact b1
        · rw [k20 2 (by decide) (by decide)]; exact b2
        · rw [k20 3 (by decide) (by decide)]; exact b3
        · rw [← hI9, gup_o (by decide), gup_o (by decide), e4, gup_at]
        · rw [k20 5 (by decide) (by decide)]; exact b5
        · rw [k20 6 (by decide) (by decide)]; exact b6
        · rw [k20 7 (by decide) (by decide)]; exact b7
        · rw [← hI9, gup_at]
        · rw [k200 13 (by decide)]; exact c1
        · rw [k200 14 (by decide)]; exact c2
        · rw [k200 15 (by decide)]; exact c3
        · rw [k200 16 (by decide)]; exact c4
        · rw [k200 17 (by decide)]; exact c5
        · show pcOk (if p = n then c else pc p) ∧ I9 21 p = nI (if p = n then c else pc p) ∧ I9 210 p = nI (if p = n then c else pc p)
          have e21 : I9 21 = I2 21 := by rw [← hI9, gup_o (by decide), gup_o (by decide), e4, gup_o (by decide), e3, gup_o (by decide)]
          by_cases c0 : p = n
          · subst c0
            rw [if_pos rfl, e21, e2, gup_at, ← hI9, gup_o (by decide), gup_at]
            exact ⟨⟨hc1, hc, hz⟩, rfl, rfl⟩
          · rw [if_neg c0, e21, e2, gup_ne c0, ← hI9, gup_o (by decide), gup_ne c0, e4, gup_o (by decide), e3, gup_o (by decide), e2, gup_o (by decide)]
            exact d p (by omega)
        · rw [← hI9, e4, e3, e2]
          exact gSm_u (gSm_u (gSm_u (gSm_u (gSm_u (gSm_r I) (by decide)) (by decide)) (by decide)) (by decide)) (by decide)
      · exact mod1 c0 (fun _ => hfull) (fun z => by omega)
    · exact head (fun z => by omega) (fun _ => p_hangsM hc (fun z => absurd (heq.mpr z) he) (fun _ => ⟨fun q => absurd rfl q, fun _ => hbad⟩))
  · show wp_X10_piece a I (fun r2 I2 => Po (-2) r2 I2)
    unfold wp_X10_piece
    exact p_isIn (fun q => absurd q b) (fun _ => ⟨fun _ => hbad, fun q => absurd rfl q⟩)
theorem q_board {n : Nat} {pc : Nat → Nat} {w h hs : Nat} {tu mi : Int32} {ver lv : Nat} {I : gI} (hR : RelP n pc w h hs tu mi ver lv I) (a1 a2 a3 : Int32) {Po : Int32 → Int32 → gI → Prop} (hbad : Po (-2) (-2) I)
    (hok : ∀ w' h' hs' x I', RelP n pc w' h' hs' tu mi (ver + 1) lv I' → gSm [20, 200] I I' → (∀ j, j ≠ 1 → j ≠ 2 → j ≠ 3 → j ≠ 4 → I' 20 j = I 20 j) → (∀ j, j ≠ 13 → j ≠ 14 → j ≠ 15 → I' 200 j = I 200 j) → Po x x I') : wp_X9_board a1 a2 a3 I (fun r I1 => wp_X10_board a1 a2 a3 I1 (fun r2 I2 => Po r r2 I2)) := by
  obtain ⟨⟨hn, hw1, hw2, hh1, hh2, hhs, htu, hmi, hlv⟩, ⟨b0, b1, b2, b3, b4, b5, b6, b7⟩, ⟨c0, c1, c2, c3, c4, c5⟩, d⟩ := hR
  unfold wp_X9_board
  refine p_isBetween (fun q1 => ⟨fun q => absurd q one_ne, fun _ => ?_⟩) (fun q1 => ⟨fun _ => ?_, fun q => absurd rfl q⟩)
  · obtain ⟨w', hw1', hw2', rfl⟩ := inR_nI (lo := 1) (hi := 5) (by decide) (by decide) q1
    refine p_isBetween (fun q2 => ⟨fun _ => ?_, fun q => absurd q one_ne⟩) (fun q2 => ⟨fun q => absurd rfl q, fun _ => ?_⟩)
    · obtain ⟨h', hh1', hh2', rfl⟩ := inR_nI (lo := 1) (hi := 4) (by decide) (by decide) q2
      have hwh : w' * h' ≤ 5 * 4 := Nat.mul_le_mul hw2' hh2'
      have hp20 : 2 ^ (w' * h') ≤ 2 ^ 20 := Nat.pow_le_pow_right (by decide) (by omega)
      have hp0 : 0 < 2 ^ (w' * h') := Nat.pow_pos (by decide)
      rw [pk_mul, mk_pow _ (by omega)]
      have head : ∀ {r : Int32} {I1 : gI}, (inR a3 0 (nI (2 ^ (w' * h') - 1)) → ∀ I9 : gI, I9 = gup (gup (gup I1 200 13 (nI w')) 200 14 (nI h')) 200 15 a3 → wp_X10_ones a3 (fun r10 => Po r (nI (w' * h') - r10) I9)) → (¬ inR a3 0 (nI (2 ^ (w' * h') - 1)) → Po r (-2) I1) → wp_X10_board (nI w') (nI h') a3 I1 (fun r2 I2 => Po r r2 I2) := by
        intro r I1 k1 k2
        unfold wp_X10_board
        refine p_isIn (fun _ => ⟨fun q => absurd q one_ne, fun _ => ?_⟩) (fun q => absurd q1 q)
        refine p_isIn (fun _ => ⟨fun q => absurd q one_ne, fun _ => ?_⟩) (fun q => absurd q2 q)
        rw [pk_mul, mk_pow _ (by omega)]
        refine p_isIn (fun q3 => ⟨fun _ => ?_, fun q => absurd q one_ne⟩) (fun q3 => ⟨fun q => absurd rfl q, fun _ => k2 q3⟩)
        intro I7 e7 I8 e8 I9 e9
        exact k1 q3 I9 (by rw [e9, e8, e7])
      refine p_isBetween (fun q3 => ⟨fun _ => ?_, fun q => absurd q one_ne⟩) (fun q3 => ⟨fun q => absurd rfl q, fun _ => head (fun q => absurd q q3) (fun _ => hbad)⟩)
      obtain ⟨hs', _, hhs', rfl⟩ := inR_nI (lo := 0) (by decide) (by omega) q3
      unfold wp_X4_setBoard
      intro I1 e1 I2 e2 I3 e3 I4 e4
      have f4 : I3 20 4 = nI ver := by rw [e3, gup_ne (by decide), e2, gup_ne (by decide), e1, gup_ne (by decide)]; exact b4
      rw [f4, nI_1] at e4
      refine p_bitCount _ ?_
      rw [cN_25 (by omega)]
      refine head (fun _ I9 e9 => p_ones _ ?_) (fun q => absurd q3 q)
      have k20 : ∀ j, j ≠ 1 → j ≠ 2 → j ≠ 3 → j ≠ 4 → I9 20 j = I 20 j := fun j j1 j2 j3 j4 => by rw [e9, gup_o (by decide), gup_o (by decide), gup_o (by decide), e4, gup_ne j4, e3, gup_ne j3, e2, gup_ne j2, e1, gup_ne j1]
      have k200 : ∀ j, j ≠ 13 → j ≠ 14 → j ≠ 15 → I9 200 j = I 200 j := fun j j1 j2 j3 => by rw [e9, gup_ne j3, gup_ne j2, gup_ne j1, e4, gup_o (by decide), e3, gup_o (by decide), e2, gup_o (by decide), e1, gup_o (by decide)]
      have sm : gSm [20, 200] I I9 := by
        rw [e9, e4, e3, e2, e1]
        exact gSm_u (gSm_u (gSm_u (gSm_u (gSm_u (gSm_u (gSm_u (gSm_r I) (by decide)) (by decide)) (by decide)) (by decide)) (by decide)) (by decide)) (by decide)
      refine hok w' h' hs' _ I9 ⟨⟨hn, hw1', hw2', hh1', hh2', by omega, htu, hmi, by omega⟩, ⟨?_, ?_, ?_, ?_, ?_, ?_, ?_, ?_⟩, ⟨?_, ?_, ?_, ?_, ?_, ?_⟩, fun p hp => ?_⟩ sm k20 k200
      · rw [k20 0 (by decide) (by decide) (by decide) (by decide)]; exact b0
      · rw [e9, gup_o (by decide), gup_o (by decide), gup_o (by decide), e4, gup_ne (by decide), e3, gup_ne (by decide), e2, gup_ne (by decide), e1, gup_at]
      · rw [e9, gup_o (by decide), gup_o (by decide), gup_o (by decide), e4, gup_ne (by decide), e3, gup_ne (by decide), e2, gup_at]
      · rw [e9, gup_o (by decide), gup_o (by decide), gup_o (by decide), e4, gup_ne (by decide), e3, gup_at]
      · rw [e9, gup_o (by decide), gup_o (by decide), gup_o (by decide), e4, gup_at]
      · rw [k20 5 (by decide) (by decide) (by decide) (by decide)]; exact b5
      · rw [k20 6 (by decide) (by decide) (by decide) (by decide)]; exact b6
      · rw [k20 7 (by decide) (by decide) (by decide) (by decide)]; exact b7
      · rw [k200 11 (by decide) (by decide) (by decide)]; exact c0
      · rw [e9, gup_ne (by decide), gup_ne (by decide), gup_at]
      · rw [e9, gup_ne (by decide), gup_at]
      · rw [e9, gup_at]
      · rw [k200 16 (by decide) (by decide) (by decide)]; exact c4
      · rw [k200 17 (by decide) (by decide) (by decide)]; exact c5
      · rw [sm 21 (by decide), sm 210 (by decide)]; exact d p hp
    · show wp_X10_board _ a2 a3 I (fun r2 I2 => Po (-2) r2 I2)
      unfold wp_X10_board
      refine p_isIn (fun _ => ⟨fun q => absurd q one_ne, fun _ => ?_⟩) (fun q => absurd q1 q)
      exact p_isIn (fun q => absurd q q2) (fun _ => ⟨fun _ => hbad, fun q => absurd rfl q⟩)
  · show wp_X10_board a1 a2 a3 I (fun r2 I2 => Po (-2) r2 I2)
    unfold wp_X10_board
    exact p_isIn (fun q => absurd q q1) (fun _ => ⟨fun _ => hbad, fun q => absurd rfl q⟩)
