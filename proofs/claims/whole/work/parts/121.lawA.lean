/-! THE LAW'S CASES -/
section
variable {L : Nat} {xs : Nat → Int32} {K : Int32 → gV → Nat → Nat → gI → gL → Prop} {v1 v2 : Nat} {v3 : Int32} {V : gV} {c s k : Nat} {I : gI} {J : gL}
theorem lw_160 (hv : LwV v3 L) (hk : k ≤ 600) (hI : LwI v1 v2 k V c s I J) (hK : LwN v1 v2 k v3 K) : wA_L_law_160 L xs () K v1 v2 v3 V c s I J := by
  obtain ⟨b1, b2, b3, b4, b5⟩ := hv
  obtain ⟨r, cv, gr, room, p, hW, hG, hT, hL, hC, hP, hB⟩ := hI
  obtain ⟨_, h0, h2, mT, mTS, mJG, mBL, mCO, hM, _⟩ := id hW
  have gj := gJm_r (S := []) J
  have hp4 := rmP_4 (RGi_p hG)
  have hbb := LwB_b hB hp4 hk
  have bad : LwI v1 v2 (k + 1) V c s I J := ⟨r, cv, gr, room, p, hW, hG, hT, hL, hC, LwP_up hP, LwB_up hB⟩
  obtain ⟨T, ct, hT0⟩ := id hT
  unfold wA_L_law_160
  refine ⟨b1, b2, b3, b4, _, _, _, mT, mTS, h0, ?_⟩
  simp only [b1, b2, b3, b4, hM, h2, true_and]
  refine q_tile hT0 _ _ _ _ (lw_eq (lw_nx hK bad)) (fun _ => lw_eq (lw_nx hK bad)) (fun c' I' _ hT' g hm0 => lw_eq (lw_nx hK ?_))
  have hm : ∀ j, j ∉ [0] → I' 200 j = I 200 j := fun j hj => hm0 j (fun e => hj (by subst e; decide))
  exact ⟨r, cv, gr, room, p, hW, kG hG g gj (by decide) (by decide), ⟨_, _, hT'⟩, kL hL g hm (by decide) (by decide), kC hC g hm (by decide) (by decide), kP hP g gj hm (by decide) (by decide) (by decide), LwB_up hB⟩
theorem lw_213 (hv : LwV v3 L) (hk : k ≤ 600) (hI : LwI v1 v2 k V c s I J) (hK : LwN v1 v2 k v3 K) : wA_L_law_213 L xs () K v1 v2 v3 V c s I J := by
  obtain ⟨b1, b2, b3, b4, b5⟩ := hv
  obtain ⟨r, cv, gr, room, p, hW, hG, hT, hL, hC, hP, hB⟩ := hI
  obtain ⟨_, h0, h2, mT, mTS, mJG, mBL, mCO, hM, _⟩ := id hW
  have gj := gJm_r (S := []) J
  have hp4 := rmP_4 (RGi_p hG)
  have hbb := LwB_b hB hp4 hk
  have bad : LwI v1 v2 (k + 1) V c s I J := ⟨r, cv, gr, room, p, hW, hG, hT, hL, hC, LwP_up hP, LwB_up hB⟩
  obtain ⟨T, ct, hT0⟩ := id hT
  unfold wA_L_law_213
  refine ⟨_, _, _, mT, mTS, h0, ?_⟩
  simp only [hM, h2, true_and]
  refine q_untile hT0 (fun _ => lw_eq (lw_nx hK bad)) (fun I' _ hT' g hm0 => lw_eq (lw_nx hK ?_))
  have hm : ∀ j, j ∉ [0] → I' 200 j = I 200 j := fun j hj => hm0 j (fun e => hj (by subst e; decide))
  exact ⟨r, cv, gr, room, p, hW, kG hG g gj (by decide) (by decide), ⟨_, _, hT'⟩, kL hL g hm (by decide) (by decide), kC hC g hm (by decide) (by decide), kP hP g gj hm (by decide) (by decide) (by decide), LwB_up hB⟩
theorem lw_415 (hv : LwV v3 L) (hk : k ≤ 600) (hI : LwI v1 v2 k V c s I J) (hK : LwN v1 v2 k v3 K) : wA_L_law_415 L xs () K v1 v2 v3 V c s I J := by
  obtain ⟨b1, b2, b3, b4, b5⟩ := hv
  obtain ⟨r, cv, gr, room, p, hW, hG, hT, hL, hC, hP, hB⟩ := hI
  obtain ⟨_, h0, h2, mT, mTS, mJG, mBL, mCO, hM, _⟩ := id hW
  have gj := gJm_r (S := []) J
  have hp4 := rmP_4 (RGi_p hG)
  have hbb := LwB_b hB hp4 hk
  have bad : LwI v1 v2 (k + 1) V c s I J := ⟨r, cv, gr, room, p, hW, hG, hT, hL, hC, LwP_up hP, LwB_up hB⟩
  obtain ⟨n, pc, w, hh, hs, tu, mi, ver, lv, Lp, q1, q2, q3, q4, q5⟩ := id hP
  unfold wA_L_law_415
  refine ⟨b1, _, _, _, mT, mJG, h0, ?_⟩
  simp only [b1, hM, h2, true_and]
  refine q_piece q1 _ (lw_eq (lw_nx hK bad)) (lw_eq (lw_nx hK bad)) (fun pc' x I' hR g _ hm0 => lw_eq (lw_nx hK ?_))
  have hm : ∀ j, j ∉ [11] → I' 200 j = I 200 j := fun j hj => hm0 j (fun e => hj (by subst e; decide))
  exact ⟨r, cv, gr, room, p, hW, kG hG g gj (by decide) (by decide), kT hT g hm (by decide) (by decide), kL hL g hm (by decide) (by decide), kC hC g hm (by decide) (by decide), kV q1.1.2.2.2.2.2.2.2.2 q3 q5 hR, LwB_up hB⟩
theorem lw_438 (hv : LwV v3 L) (hk : k ≤ 600) (hI : LwI v1 v2 k V c s I J) (hK : LwN v1 v2 k v3 K) : wA_L_law_438 L xs () K v1 v2 v3 V c s I J := by
  obtain ⟨b1, b2, b3, b4, b5⟩ := hv
  obtain ⟨r, cv, gr, room, p, hW, hG, hT, hL, hC, hP, hB⟩ := hI
  obtain ⟨_, h0, h2, mT, mTS, mJG, mBL, mCO, hM, _⟩ := id hW
  have gj := gJm_r (S := []) J
  have hp4 := rmP_4 (RGi_p hG)
  have hbb := LwB_b hB hp4 hk
  have bad : LwI v1 v2 (k + 1) V c s I J := ⟨r, cv, gr, room, p, hW, hG, hT, hL, hC, LwP_up hP, LwB_up hB⟩
  obtain ⟨n, pc, w, hh, hs, tu, mi, ver, lv, Lp, q1, q2, q3, q4, q5⟩ := id hP
  unfold wA_L_law_438
  refine ⟨_, _, _, mT, mJG, h0, ?_⟩
  simp only [hM, h2, true_and]
  refine q_unpieceR q1 (lw_eq (lw_nx hK bad)) (fun x I' hR g hm0 => lw_eq (lw_nx hK ?_))
  have hm : ∀ j, j ∉ [11] → I' 200 j = I 200 j := fun j hj => hm0 j (fun e => hj (by subst e; decide))
  exact ⟨r, cv, gr, room, p, hW, kG hG g gj (by decide) (by decide), kT hT g hm (by decide) (by decide), kL hL g hm (by decide) (by decide), kC hC g hm (by decide) (by decide), kV q1.1.2.2.2.2.2.2.2.2 q3 q5 hR, LwB_up hB⟩
theorem lw_451 (hv : LwV v3 L) (hk : k ≤ 600) (hI : LwI v1 v2 k V c s I J) (hK : LwN v1 v2 k v3 K) : wA_L_law_451 L xs () K v1 v2 v3 V c s I J := by
  obtain ⟨b1, b2, b3, b4, b5⟩ := hv
  obtain ⟨r, cv, gr, room, p, hW, hG, hT, hL, hC, hP, hB⟩ := hI
  obtain ⟨_, h0, h2, mT, mTS, mJG, mBL, mCO, hM, _⟩ := id hW
  have gj := gJm_r (S := []) J
  have hp4 := rmP_4 (RGi_p hG)
  have hbb := LwB_b hB hp4 hk
  have bad : LwI v1 v2 (k + 1) V c s I J := ⟨r, cv, gr, room, p, hW, hG, hT, hL, hC, LwP_up hP, LwB_up hB⟩
  obtain ⟨n, pc, w, hh, hs, tu, mi, ver, lv, Lp, q1, q2, q3, q4, q5⟩ := id hP
  unfold wA_L_law_451
  refine ⟨b1, b2, b3, _, _, _, mT, mJG, h0, ?_⟩
  simp only [b1, b2, b3, hM, h2, true_and]
  refine q_board q1 _ _ _ (lw_eq (lw_nx hK bad)) (fun w' h' hs' x I' hR g _ hm0 => lw_eq (lw_nx hK ?_))
  have hm : ∀ j, j ∉ [13, 14, 15] → I' 200 j = I 200 j := fun j hj => hm0 j (fun e => hj (by subst e; decide)) (fun e => hj (by subst e; decide)) (fun e => hj (by subst e; decide))
  exact ⟨r, cv, gr, room, p, hW, kG hG g gj (by decide) (by decide), kT hT g hm (by decide) (by decide), kL hL g hm (by decide) (by decide), kC hC g hm (by decide) (by decide), kV q1.1.2.2.2.2.2.2.2.2 q3 q5 hR, LwB_up hB⟩
theorem lw_543 (hv : LwV v3 L) (hk : k ≤ 600) (hI : LwI v1 v2 k V c s I J) (hK : LwN v1 v2 k v3 K) : wA_L_law_543 L xs () K v1 v2 v3 V c s I J := by
  obtain ⟨b1, b2, b3, b4, b5⟩ := hv
  obtain ⟨r, cv, gr, room, p, hW, hG, hT, hL, hC, hP, hB⟩ := hI
  obtain ⟨_, h0, h2, mT, mTS, mJG, mBL, mCO, hM, _⟩ := id hW
  have gj := gJm_r (S := []) J
  have hp4 := rmP_4 (RGi_p hG)
  have hbb := LwB_b hB hp4 hk
  have bad : LwI v1 v2 (k + 1) V c s I J := ⟨r, cv, gr, room, p, hW, hG, hT, hL, hC, LwP_up hP, LwB_up hB⟩
  obtain ⟨n, pc, w, hh, hs, tu, mi, ver, lv, Lp, q1, q2, q3, q4, q5⟩ := id hP
  unfold wA_L_law_543
  refine ⟨b1, _, _, _, mT, mJG, h0, ?_⟩
  simp only [b1, hM, h2, true_and]
  refine q_placements q1 (by omega) q4 _ (lw_eq (lw_nx hK bad)) (fun x I' L' g hR hLs e => lw_eq (lw_nx hK ?_))
  have hm := gM0 (S := []) g (by decide)
  refine ⟨r, cv, gr, room, p, hW, kG hG g gj (by decide) (by decide), kT hT g hm (by decide) (by decide), kL hL g hm (by decide) (by decide), kC hC g hm (by decide) (by decide), ⟨n, pc, w, hh, hs, tu, mi, ver, ver, L', hR, q2, by omega, fun _ => hLs, fun ec => ⟨fun _ => ?_, fun z => absurd rfl z⟩⟩, LwB_up hB⟩
  by_cases ev : lv = ver
  · rw [e ev]; exact (q5 ec).1 ev
  · exact tOld_O ((q5 ec).2 ev)
theorem lw_666 (hv : LwV v3 L) (hk : k ≤ 600) (hI : LwI v1 v2 k V c s I J) (hK : LwN v1 v2 k v3 K) : wA_L_law_666 L xs () K v1 v2 v3 V c s I J := by
  obtain ⟨b1, b2, b3, b4, b5⟩ := hv
  obtain ⟨r, cv, gr, room, p, hW, hG, hT, hL, hC, hP, hB⟩ := hI
  obtain ⟨_, h0, h2, mT, mTS, mJG, mBL, mCO, hM, _⟩ := id hW
  have gj := gJm_r (S := []) J
  have hp4 := rmP_4 (RGi_p hG)
  have hbb := LwB_b hB hp4 hk
  have bad : LwI v1 v2 (k + 1) V c s I J := ⟨r, cv, gr, room, p, hW, hG, hT, hL, hC, LwP_up hP, LwB_up hB⟩
  obtain ⟨n, a, bl, hL0⟩ := id hL
  unfold wA_L_law_666
  refine ⟨b1, b2, _, _, _, mT, mBL, h0, ?_⟩
  simp only [b1, b2, hM, h2, true_and]
  refine q_letters hL0 _ _ (lw_eq (lw_nx hK bad)) (fun n' a' I' hL' g hm0 => lw_eq (lw_nx hK ?_))
  have hm : ∀ j, j ∉ [31, 32] → I' 200 j = I 200 j := fun j hj => hm0 j (fun e => hj (by subst e; decide)) (fun e => hj (by subst e; decide))
  exact ⟨r, cv, gr, room, p, hW, kG hG g gj (by decide) (by decide), kT hT g hm (by decide) (by decide), ⟨_, _, _, hL'⟩, kC hC g hm (by decide) (by decide), kP hP g gj hm (by decide) (by decide) (by decide), LwB_up hB⟩
theorem lw_699 (hv : LwV v3 L) (hk : k ≤ 600) (hI : LwI v1 v2 k V c s I J) (hK : LwN v1 v2 k v3 K) : wA_L_law_699 L xs () K v1 v2 v3 V c s I J := by
  obtain ⟨b1, b2, b3, b4, b5⟩ := hv
  obtain ⟨r, cv, gr, room, p, hW, hG, hT, hL, hC, hP, hB⟩ := hI
  obtain ⟨_, h0, h2, mT, mTS, mJG, mBL, mCO, hM, _⟩ := id hW
  have gj := gJm_r (S := []) J
  have hp4 := rmP_4 (RGi_p hG)
  have hbb := LwB_b hB hp4 hk
  have bad : LwI v1 v2 (k + 1) V c s I J := ⟨r, cv, gr, room, p, hW, hG, hT, hL, hC, LwP_up hP, LwB_up hB⟩
  obtain ⟨n, a, bl, hL0⟩ := id hL
  unfold wA_L_law_699
  refine ⟨b1, b2, b3, b4, _, _, _, mT, mBL, h0, ?_⟩
  simp only [b1, b2, b3, b4, hM, h2, true_and]
  refine q_block hL0 _ _ _ _ (lw_eq (lw_nx hK bad)) (fun v bl' I' hL' g => lw_eq (lw_nx hK ?_))
  have hm := gM0 (S := []) g (by decide)
  exact ⟨r, cv, gr, room, p, hW, kG hG g gj (by decide) (by decide), kT hT g hm (by decide) (by decide), ⟨_, _, _, hL'⟩, kC hC g hm (by decide) (by decide), kP hP g gj hm (by decide) (by decide) (by decide), LwB_up hB⟩
theorem lw_752 (hv : LwV v3 L) (hk : k ≤ 600) (hI : LwI v1 v2 k V c s I J) (hK : LwN v1 v2 k v3 K) : wA_L_law_752 L xs () K v1 v2 v3 V c s I J := by
  obtain ⟨b1, b2, b3, b4, b5⟩ := hv
  obtain ⟨r, cv, gr, room, p, hW, hG, hT, hL, hC, hP, hB⟩ := hI
  obtain ⟨_, h0, h2, mT, mTS, mJG, mBL, mCO, hM, _⟩ := id hW
  have gj := gJm_r (S := []) J
  have hp4 := rmP_4 (RGi_p hG)
  have hbb := LwB_b hB hp4 hk
  have bad : LwI v1 v2 (k + 1) V c s I J := ⟨r, cv, gr, room, p, hW, hG, hT, hL, hC, LwP_up hP, LwB_up hB⟩
  obtain ⟨n, a, bl, hL0⟩ := id hL
  unfold wA_L_law_752
  refine ⟨b1, b2, b3, b4, _, _, _, mT, mBL, h0, ?_⟩
  simp only [b1, b2, b3, b4, hM, h2, true_and]
  exact q_letter hL0 _ _ _ _ (fun x => lw_eq (lw_nx hK bad))
theorem lw_805 (hv : LwV v3 L) (hk : k ≤ 600) (hI : LwI v1 v2 k V c s I J) (hK : LwN v1 v2 k v3 K) : wA_L_law_805 L xs () K v1 v2 v3 V c s I J := by
  obtain ⟨b1, b2, b3, b4, b5⟩ := hv
  obtain ⟨r, cv, gr, room, p, hW, hG, hT, hL, hC, hP, hB⟩ := hI
  obtain ⟨_, h0, h2, mT, mTS, mJG, mBL, mCO, hM, _⟩ := id hW
  have gj := gJm_r (S := []) J
  have hp4 := rmP_4 (RGi_p hG)
  have hbb := LwB_b hB hp4 hk
  have bad : LwI v1 v2 (k + 1) V c s I J := ⟨r, cv, gr, room, p, hW, hG, hT, hL, hC, LwP_up hP, LwB_up hB⟩
  obtain ⟨n, a, bl, hL0⟩ := id hL
  unfold wA_L_law_805
  refine ⟨b1, b2, b3, _, _, _, mT, mBL, h0, ?_⟩
  simp only [b1, b2, b3, hM, h2, true_and]
  refine q_many hL0 _ _ _ (lw_cmp (lw_nx hK bad)) (fun v J' gj => lw_cmp (lw_nx hK ?_))
  have g := gSm_r (S := []) I
  have hm : ∀ j, j ∉ [] → I 200 j = I 200 j := fun _ _ => rfl
  exact ⟨r, cv, gr, room, p, hW, kG hG g gj (by decide) (by decide), hT, hL, hC, kP hP g gj hm (by decide) (by decide) (by decide), LwB_up hB⟩
theorem lw_902 (hv : LwV v3 L) (hk : k ≤ 600) (hI : LwI v1 v2 k V c s I J) (hK : LwN v1 v2 k v3 K) : wA_L_law_902 L xs () K v1 v2 v3 V c s I J := by
  obtain ⟨b1, b2, b3, b4, b5⟩ := hv
  obtain ⟨r, cv, gr, room, p, hW, hG, hT, hL, hC, hP, hB⟩ := hI
  obtain ⟨_, h0, h2, mT, mTS, mJG, mBL, mCO, hM, _⟩ := id hW
  have gj := gJm_r (S := []) J
  have hp4 := rmP_4 (RGi_p hG)
  have hbb := LwB_b hB hp4 hk
  have bad : LwI v1 v2 (k + 1) V c s I J := ⟨r, cv, gr, room, p, hW, hG, hT, hL, hC, LwP_up hP, LwB_up hB⟩
  obtain ⟨n, a, bl, hL0⟩ := id hL
  unfold wA_L_law_902
  refine ⟨_, _, _, mT, mBL, h0, ?_⟩
  simp only [hM, h2, true_and]
  refine q_mixes hL0 (fun x I' g => lw_eq (lw_nx hK ?_))
  have hm := gM0 (S := []) g (by decide)
  exact ⟨r, cv, gr, room, p, hW, kG hG g gj (by decide) (by decide), kT hT g hm (by decide) (by decide), kL hL g hm (by decide) (by decide), kC hC g hm (by decide) (by decide), kP hP g gj hm (by decide) (by decide) (by decide), LwB_up hB⟩
theorem lw_948 (hv : LwV v3 L) (hk : k ≤ 600) (hI : LwI v1 v2 k V c s I J) (hK : LwN v1 v2 k v3 K) : wA_L_law_948 L xs () K v1 v2 v3 V c s I J := by
  obtain ⟨b1, b2, b3, b4, b5⟩ := hv
  obtain ⟨r, cv, gr, room, p, hW, hG, hT, hL, hC, hP, hB⟩ := hI
  obtain ⟨_, h0, h2, mT, mTS, mJG, mBL, mCO, hM, _⟩ := id hW
  have gj := gJm_r (S := []) J
  have hp4 := rmP_4 (RGi_p hG)
  have hbb := LwB_b hB hp4 hk
  have bad : LwI v1 v2 (k + 1) V c s I J := ⟨r, cv, gr, room, p, hW, hG, hT, hL, hC, LwP_up hP, LwB_up hB⟩
  obtain ⟨n, sz, t, hC0⟩ := id hC
  unfold wA_L_law_948
  refine ⟨b1, _, _, _, mT, mCO, h0, ?_⟩
  simp only [b1, hM, h2, true_and]
  refine q_turn (fun _ => lw_eq (lw_nx hK bad)) (fun ha => ⟨fun _ => lw_nx hK ?_, fun z => z (hC0.2.2.2.2.2.1.trans hC0.2.2.2.2.2.2.1.symm)⟩)
  obtain ⟨t', t1, t2, et⟩ := inR_nI (lo := 1) (hi := 18) (by decide) (by decide) ha
  rw [et]
  have g : gSm [60, 200] I (gup (gup I 60 1 (nI t')) 200 40 (nI t')) := gSm_u (gSm_u (gSm_r I) (by decide)) (by decide)
  have hm : ∀ j, j ∉ [40] → (gup (gup I 60 1 (nI t')) 200 40 (nI t')) 200 j = I 200 j := fun j hj => by rw [gup_ne (by intro e; exact hj (by subst e; decide)), gup_o (by decide)]
  obtain ⟨hn, c0, k0, y1, y18, ct, kt, hs, hinj, hbit⟩ := hC0
  refine ⟨r, cv, gr, room, p, hW, kG hG g gj (by decide) (by decide), kT hT g hm (by decide) (by decide), kL hL g hm (by decide) (by decide), ⟨n, sz, t', hn, ?_, ?_, t1, t2, ?_, ?_, fun j hj => ?_, hinj, fun s hs => ?_⟩, kP hP g gj hm (by decide) (by decide) (by decide), LwB_up hB⟩
  · rw [gup_o (by decide), gup_ne (by decide)]; exact c0
  · rw [gup_ne (by decide), gup_o (by decide)]; exact k0
  · rw [gup_o (by decide), gup_at]
  · rw [gup_at]
  · rw [g 62 (by decide), g 229 (by decide)]; exact hs j hj
  · rw [gup_o (by decide), gup_ne (by decide)]; exact hbit s hs
theorem lw_971 (hv : LwV v3 L) (hk : k ≤ 600) (hI : LwI v1 v2 k V c s I J) (hK : LwN v1 v2 k v3 K) : wA_L_law_971 L xs () K v1 v2 v3 V c s I J := by
  obtain ⟨b1, b2, b3, b4, b5⟩ := hv
  obtain ⟨r, cv, gr, room, p, hW, hG, hT, hL, hC, hP, hB⟩ := hI
  obtain ⟨_, h0, h2, mT, mTS, mJG, mBL, mCO, hM, _⟩ := id hW
  have gj := gJm_r (S := []) J
  have hp4 := rmP_4 (RGi_p hG)
  have hbb := LwB_b hB hp4 hk
  have bad : LwI v1 v2 (k + 1) V c s I J := ⟨r, cv, gr, room, p, hW, hG, hT, hL, hC, LwP_up hP, LwB_up hB⟩
  obtain ⟨n, sz, t, hC0⟩ := id hC
  unfold wA_L_law_971
  refine ⟨b1, _, _, _, mT, mCO, h0, ?_⟩
  simp only [b1, hM, h2, true_and]
  refine q_corner hC0 _ (lw_eq (lw_nx hK bad)) (lw_eq (lw_nx hK bad)) (lw_eq (lw_nx hK bad)) (fun sz' I' _ hC' g hm0 => lw_eq (lw_nx hK ?_))
  have hm : ∀ j, j ∉ [41] → I' 200 j = I 200 j := fun j hj => hm0 j (fun e => hj (by subst e; decide))
  exact ⟨r, cv, gr, room, p, hW, kG hG g gj (by decide) (by decide), kT hT g hm (by decide) (by decide), kL hL g hm (by decide) (by decide), ⟨_, _, _, hC'⟩, kP hP g gj hm (by decide) (by decide) (by decide), LwB_up hB⟩
theorem lw_994 (hv : LwV v3 L) (hk : k ≤ 600) (hI : LwI v1 v2 k V c s I J) (hK : LwN v1 v2 k v3 K) : wA_L_law_994 L xs () K v1 v2 v3 V c s I J := by
  obtain ⟨b1, b2, b3, b4, b5⟩ := hv
  obtain ⟨r, cv, gr, room, p, hW, hG, hT, hL, hC, hP, hB⟩ := hI
  obtain ⟨_, h0, h2, mT, mTS, mJG, mBL, mCO, hM, _⟩ := id hW
  have gj := gJm_r (S := []) J
  have hp4 := rmP_4 (RGi_p hG)
  have hbb := LwB_b hB hp4 hk
  have bad : LwI v1 v2 (k + 1) V c s I J := ⟨r, cv, gr, room, p, hW, hG, hT, hL, hC, LwP_up hP, LwB_up hB⟩
  obtain ⟨n, sz, t, hC0⟩ := id hC
  unfold wA_L_law_994
  refine ⟨_, _, _, mT, mCO, h0, ?_⟩
  simp only [hM, h2, true_and]
  refine q_uncorner hC0 (lw_eq (lw_nx hK bad)) (fun I' _ hC' g hm0 => lw_eq (lw_nx hK ?_))
  have hm : ∀ j, j ∉ [41] → I' 200 j = I 200 j := fun j hj => hm0 j (fun e => hj (by subst e; decide))
  exact ⟨r, cv, gr, room, p, hW, kG hG g gj (by decide) (by decide), kT hT g hm (by decide) (by decide), kL hL g hm (by decide) (by decide), ⟨_, _, _, hC'⟩, kP hP g gj hm (by decide) (by decide) (by decide), LwB_up hB⟩
theorem lw_1105 (hv : LwV v3 L) (hk : k ≤ 600) (hI : LwI v1 v2 k V c s I J) (hK : LwN v1 v2 k v3 K) : wA_L_law_1105 L xs () K v1 v2 v3 V c s I J := by
  obtain ⟨b1, b2, b3, b4, b5⟩ := hv
  obtain ⟨r, cv, gr, room, p, hW, hG, hT, hL, hC, hP, hB⟩ := hI
  obtain ⟨_, h0, h2, mT, mTS, mJG, mBL, mCO, hM, _⟩ := id hW
  have gj := gJm_r (S := []) J
  have hp4 := rmP_4 (RGi_p hG)
  have hbb := LwB_b hB hp4 hk
  have bad : LwI v1 v2 (k + 1) V c s I J := ⟨r, cv, gr, room, p, hW, hG, hT, hL, hC, LwP_up hP, LwB_up hB⟩
  obtain ⟨T, ct, hT0⟩ := id hT
  obtain ⟨n, a, bl, hL0⟩ := id hL
  obtain ⟨nc, sz, t, hC0⟩ := id hC
  obtain ⟨np, pc, w, hh, hs, tu, mi, ver, lv, Lp, q1, q2, q3, q4, q5⟩ := id hP
  unfold wA_L_law_1105
  refine ⟨b1, _, _, _, mT, mTS, mJG, mBL, mCO, h0, ?_⟩
  simp only [b1, hM, h2, true_and]
  exact q_count (hT0.2.1.trans hT0.2.2.1.symm) (q1.2.1.1.trans q1.2.2.1.1.symm) (hC0.2.1.trans hC0.2.2.1.symm) (hL0.2.2.2.2.1.trans hL0.2.2.2.2.2.1.symm) (q1.2.1.2.1.trans q1.2.2.1.2.1.symm) (q1.2.1.2.2.1.trans q1.2.2.1.2.2.1.symm) (hC0.2.2.2.2.2.1.trans hC0.2.2.2.2.2.2.1.symm) (fun x => lw_eq (lw_nx hK bad))
theorem lw_513 {s0 : Int32} (hb : ((xs ((v3 + (2 : Int32))).toNatClampNeg) = 0 ∧ s0 = 0) ∨ (¬ (xs ((v3 + (2 : Int32))).toNatClampNeg) = 0 ∧ s0 = 1)) (hv : LwV v3 L) (hk : k ≤ 600) (hI : LwI v1 v2 k V c s I J) (hK : LwN v1 v2 k v3 K) : wA_L_law_513 L xs () K v1 v2 v3 s0 (xs ((v3 + (1 : Int32))).toNatClampNeg) v1 V c s I J := by
  obtain ⟨b1, b2, b3, b4, b5⟩ := hv
  obtain ⟨r, cv, gr, room, p, hW, hG, hT, hL, hC, hP, hB⟩ := hI
  obtain ⟨_, h0, h2, mT, mTS, mJG, mBL, mCO, hM, _⟩ := id hW
  have gj := gJm_r (S := []) J
  have hp4 := rmP_4 (RGi_p hG)
  have hbb := LwB_b hB hp4 hk
  have bad : LwI v1 v2 (k + 1) V c s I J := ⟨r, cv, gr, room, p, hW, hG, hT, hL, hC, LwP_up hP, LwB_up hB⟩
  obtain ⟨n, pc, w, hh, hs, tu, mi, ver, lv, Lp, q1, q2, q3, q4, q5⟩ := id hP
  have h01 : s0 = 0 ∨ s0 = 1 := by rcases hb with ⟨_, e⟩ | ⟨_, e⟩ <;> simp [e]
  have E : ∀ {X Y : Prop}, s0 = 0 → (((xs ((v3 + (2 : Int32))).toNatClampNeg) = 0 → X) ∧ (¬ (xs ((v3 + (2 : Int32))).toNatClampNeg) = 0 → Y)) = X := fun e => by
    rcases hb with ⟨e1, _⟩ | ⟨_, e2⟩
    · exact lw_b0 e1
    · rw [e2] at e; exact absurd e (by decide)
  have E' : ∀ {X Y : Prop}, s0 = 1 → (((xs ((v3 + (2 : Int32))).toNatClampNeg) = 0 → X) ∧ (¬ (xs ((v3 + (2 : Int32))).toNatClampNeg) = 0 → Y)) = Y := fun e => by
    rcases hb with ⟨_, e2⟩ | ⟨e1, _⟩
    · rw [e2] at e; exact absurd e (by decide)
    · exact lw_b1 e1
  unfold wA_L_law_513
  refine ⟨_, _, _, mT, mJG, h0, ?_⟩
  rcases h01 with rfl | rfl
  · simp only [E rfl, b1, b2, wA_L_law_535, hM, h2, true_and]
    refine q_mayR q1 (Or.inl rfl) (lw_eq (lw_nx hK bad)) (fun x tu' mi' I' hR g hm0 => lw_eq (lw_nx hK ?_))
    have hm : ∀ j, j ∉ [16, 17] → I' 200 j = I 200 j := fun j hj => hm0 j (fun e => hj (by subst e; decide)) (fun e => hj (by subst e; decide))
    exact ⟨r, cv, gr, room, p, hW, kG hG g gj (by decide) (by decide), kT hT g hm (by decide) (by decide), kL hL g hm (by decide) (by decide), kC hC g hm (by decide) (by decide), kV q1.1.2.2.2.2.2.2.2.2 q3 q5 hR, LwB_up hB⟩
  · simp only [E' rfl, b1, b2, wA_L_law_535, hM, h2, true_and]
    refine q_mayR q1 (Or.inr rfl) (lw_eq (lw_nx hK bad)) (fun x tu' mi' I' hR g hm0 => lw_eq (lw_nx hK ?_))
    have hm : ∀ j, j ∉ [16, 17] → I' 200 j = I 200 j := fun j hj => hm0 j (fun e => hj (by subst e; decide)) (fun e => hj (by subst e; decide))
    exact ⟨r, cv, gr, room, p, hW, kG hG g gj (by decide) (by decide), kT hT g hm (by decide) (by decide), kL hL g hm (by decide) (by decide), kC hC g hm (by decide) (by decide), kV q1.1.2.2.2.2.2.2.2.2 q3 q5 hR, LwB_up hB⟩
theorem lw_1021 {s0 : Int32} (hb : ((xs ((v3 + (1 : Int32))).toNatClampNeg) = 0 ∧ s0 = 0) ∨ (¬ (xs ((v3 + (1 : Int32))).toNatClampNeg) = 0 ∧ s0 = 1)) (hv : LwV v3 L) (hk : k ≤ 600) (hI : LwI v1 v2 k V c s I J) (hK : LwN v1 v2 k v3 K) : wA_L_law_1021 L xs () K v1 v2 v3 s0 v1 V c s I J := by
  obtain ⟨b1, b2, b3, b4, b5⟩ := hv
  obtain ⟨r, cv, gr, room, p, hW, hG, hT, hL, hC, hP, hB⟩ := hI
  obtain ⟨_, h0, h2, mT, mTS, mJG, mBL, mCO, hM, _⟩ := id hW
  have gj := gJm_r (S := []) J
  have hp4 := rmP_4 (RGi_p hG)
  have hbb := LwB_b hB hp4 hk
  have bad : LwI v1 v2 (k + 1) V c s I J := ⟨r, cv, gr, room, p, hW, hG, hT, hL, hC, LwP_up hP, LwB_up hB⟩
  obtain ⟨n, sz, t, hC0⟩ := id hC
  have h01 : s0 = 0 ∨ s0 = 1 := by rcases hb with ⟨_, e⟩ | ⟨_, e⟩ <;> simp [e]
  have E : ∀ {X Y : Prop}, s0 = 0 → (((xs ((v3 + (1 : Int32))).toNatClampNeg) = 0 → X) ∧ (¬ (xs ((v3 + (1 : Int32))).toNatClampNeg) = 0 → Y)) = X := fun e => by
    rcases hb with ⟨e1, _⟩ | ⟨_, e2⟩
    · exact lw_b0 e1
    · rw [e2] at e; exact absurd e (by decide)
  have E' : ∀ {X Y : Prop}, s0 = 1 → (((xs ((v3 + (1 : Int32))).toNatClampNeg) = 0 → X) ∧ (¬ (xs ((v3 + (1 : Int32))).toNatClampNeg) = 0 → Y)) = Y := fun e => by
    rcases hb with ⟨_, e2⟩ | ⟨e1, _⟩
    · rw [e2] at e; exact absurd e (by decide)
    · exact lw_b1 e1
  unfold wA_L_law_1021
  refine ⟨_, _, _, mT, mCO, h0, ?_⟩
  rcases h01 with rfl | rfl
  · simp only [E rfl, b1, wA_L_law_1038, hM, h2, true_and]
    refine q_rounds hC0 (Or.inl rfl) (fun x I' kp => lw_eq (lw_nx hK ?_))
    obtain ⟨g, g2, hm0⟩ := id kp
    have hm : ∀ j, j ∉ [44] → I' 200 j = I 200 j := fun j hj => hm0 j (fun e => hj (by subst e; decide))
    exact ⟨r, cv, gr, room, p, hW, kG hG g gj (by decide) (by decide), kT hT g hm (by decide) (by decide), kL hL g hm (by decide) (by decide), ⟨_, _, _, RelC_k hC0 kp⟩, kP hP g gj hm (by decide) (by decide) (by decide), LwB_up hB⟩
  · simp only [E' rfl, b1, wA_L_law_1038, hM, h2, true_and]
    refine q_rounds hC0 (Or.inr rfl) (fun x I' kp => lw_eq (lw_nx hK ?_))
    obtain ⟨g, g2, hm0⟩ := id kp
    have hm : ∀ j, j ∉ [44] → I' 200 j = I 200 j := fun j hj => hm0 j (fun e => hj (by subst e; decide))
    exact ⟨r, cv, gr, room, p, hW, kG hG g gj (by decide) (by decide), kT hT g hm (by decide) (by decide), kL hL g hm (by decide) (by decide), ⟨_, _, _, RelC_k hC0 kp⟩, kP hP g gj hm (by decide) (by decide) (by decide), LwB_up hB⟩
theorem lw_1060 {s0 : Int32} (hb : ((xs ((v3 + (1 : Int32))).toNatClampNeg) = 0 ∧ s0 = 0) ∨ (¬ (xs ((v3 + (1 : Int32))).toNatClampNeg) = 0 ∧ s0 = 1)) (hv : LwV v3 L) (hk : k ≤ 600) (hI : LwI v1 v2 k V c s I J) (hK : LwN v1 v2 k v3 K) : wA_L_law_1060 L xs () K v1 v2 v3 s0 v1 V c s I J := by
  obtain ⟨b1, b2, b3, b4, b5⟩ := hv
  obtain ⟨r, cv, gr, room, p, hW, hG, hT, hL, hC, hP, hB⟩ := hI
  obtain ⟨_, h0, h2, mT, mTS, mJG, mBL, mCO, hM, _⟩ := id hW
  have gj := gJm_r (S := []) J
  have hp4 := rmP_4 (RGi_p hG)
  have hbb := LwB_b hB hp4 hk
  have bad : LwI v1 v2 (k + 1) V c s I J := ⟨r, cv, gr, room, p, hW, hG, hT, hL, hC, LwP_up hP, LwB_up hB⟩
  obtain ⟨n, sz, t, hC0⟩ := id hC
  have h01 : s0 = 0 ∨ s0 = 1 := by rcases hb with ⟨_, e⟩ | ⟨_, e⟩ <;> simp [e]
  have E : ∀ {X Y : Prop}, s0 = 0 → (((xs ((v3 + (1 : Int32))).toNatClampNeg) = 0 → X) ∧ (¬ (xs ((v3 + (1 : Int32))).toNatClampNeg) = 0 → Y)) = X := fun e => by
    rcases hb with ⟨e1, _⟩ | ⟨_, e2⟩
    · exact lw_b0 e1
    · rw [e2] at e; exact absurd e (by decide)
  have E' : ∀ {X Y : Prop}, s0 = 1 → (((xs ((v3 + (1 : Int32))).toNatClampNeg) = 0 → X) ∧ (¬ (xs ((v3 + (1 : Int32))).toNatClampNeg) = 0 → Y)) = Y := fun e => by
    rcases hb with ⟨_, e2⟩ | ⟨e1, _⟩
    · rw [e2] at e; exact absurd e (by decide)
    · exact lw_b1 e1
  unfold wA_L_law_1060
  refine ⟨b2, b3, _, _, _, mT, mCO, h0, ?_⟩
  rcases h01 with rfl | rfl
  · simp only [E rfl, b1, b2, b3, wA_L_law_1087, hM, h2, true_and]
    refine q_round hC0 (Or.inl rfl) _ _ (fun x I' kp => lw_eq (lw_nx hK ?_))
    obtain ⟨g, g2, hm0⟩ := id kp
    have hm : ∀ j, j ∉ [44] → I' 200 j = I 200 j := fun j hj => hm0 j (fun e => hj (by subst e; decide))
    exact ⟨r, cv, gr, room, p, hW, kG hG g gj (by decide) (by decide), kT hT g hm (by decide) (by decide), kL hL g hm (by decide) (by decide), ⟨_, _, _, RelC_k hC0 kp⟩, kP hP g gj hm (by decide) (by decide) (by decide), LwB_up hB⟩
  · simp only [E' rfl, b1, b2, b3, wA_L_law_1087, hM, h2, true_and]
    refine q_round hC0 (Or.inr rfl) _ _ (fun x I' kp => lw_eq (lw_nx hK ?_))
    obtain ⟨g, g2, hm0⟩ := id kp
    have hm : ∀ j, j ∉ [44] → I' 200 j = I 200 j := fun j hj => hm0 j (fun e => hj (by subst e; decide))
    exact ⟨r, cv, gr, room, p, hW, kG hG g gj (by decide) (by decide), kT hT g hm (by decide) (by decide), kL hL g hm (by decide) (by decide), ⟨_, _, _, RelC_k hC0 kp⟩, kP hP g gj hm (by decide) (by decide) (by decide), LwB_up hB⟩
theorem lw_494 (hv : LwV v3 L) (hk : k ≤ 600) (hI : LwI v1 v2 k V c s I J) (hK : LwN v1 v2 k v3 K) : wA_L_law_494 L xs () K v1 v2 v3 V c s I J := by
  obtain ⟨b1, b2, b3, b4, b5⟩ := id hv
  unfold wA_L_law_494
  exact ⟨b1, b2, fun e => lw_513 (Or.inl ⟨e, rfl⟩) hv hk hI hK, fun e => lw_513 (Or.inr ⟨e, rfl⟩) hv hk hI hK⟩
theorem lw_1007 (hv : LwV v3 L) (hk : k ≤ 600) (hI : LwI v1 v2 k V c s I J) (hK : LwN v1 v2 k v3 K) : wA_L_law_1007 L xs () K v1 v2 v3 V c s I J := by
  obtain ⟨b1, b2, b3, b4, b5⟩ := id hv
  unfold wA_L_law_1007
  exact ⟨b1, fun e => lw_1021 (Or.inl ⟨e, rfl⟩) hv hk hI hK, fun e => lw_1021 (Or.inr ⟨e, rfl⟩) hv hk hI hK⟩
theorem lw_1046 (hv : LwV v3 L) (hk : k ≤ 600) (hI : LwI v1 v2 k V c s I J) (hK : LwN v1 v2 k v3 K) : wA_L_law_1046 L xs () K v1 v2 v3 V c s I J := by
  obtain ⟨b1, b2, b3, b4, b5⟩ := id hv
  unfold wA_L_law_1046
  exact ⟨b1, fun e => lw_1060 (Or.inl ⟨e, rfl⟩) hv hk hI hK, fun e => lw_1060 (Or.inr ⟨e, rfl⟩) hv hk hI hK⟩
end
