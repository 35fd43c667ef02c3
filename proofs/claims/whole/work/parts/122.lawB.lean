/-! THE LAW'S CASES: calls that make cells -/
section
variable {L : Nat} {xs : Nat → Int32} {K : Int32 → gV → Nat → Nat → gI → gL → Prop} {v1 v2 : Nat} {v3 : Int32} {V : gV} {c s k : Nat} {I : gI} {J : gL}
theorem lw_rows {cv gr : Bool} {p q : Nat} {V' : gV} {I' : gI} {J' : gL} (hT : LwT I) (hL : LwL I) (hC : LwC I) (hP : LwP cv k I J) (hB : LwB cv k p c s) (hq : p ≤ q) (h : rwK v1 v2 cv gr q I J V' I' J') : LwI v1 v2 (k + 1) V' (c + (q - p)) (s + 32 * (q - p)) I' J' := by
  obtain ⟨qW, qG, g, hm0, gj⟩ := h
  have hm : ∀ j, j ∉ [5] → I' 200 j = I 200 j := fun j hj => hm0 j (fun e => hj (by subst e; decide))
  exact ⟨true, cv, gr, q, q, qW, qG, kT hT g hm (by decide) (by decide), kL hL g hm (by decide) (by decide), kC hC g hm (by decide) (by decide), kP hP g gj hm (by decide) (by decide) (by decide), LwB_r hB hq⟩
theorem nI_one {a b : Nat} (h : nI a = nI b) (ha : a < 2147483648) (hb : b < 2147483648) : a = b := by
  have e := congrArg Int32.toNatClampNeg h
  rw [nI_clamp ha, nI_clamp hb] at e
  exact e
theorem lw_365 (hv : LwV v3 L) (hk : k ≤ 600) (hI : LwI v1 v2 k V c s I J) (hK : LwN v1 v2 k v3 K) : wA_L_law_365 L xs () K v1 v2 v3 V c s I J := by
  obtain ⟨b1, b2, b3, b4, b5⟩ := hv
  obtain ⟨r, cv, gr, room, p, hW, hG, hT, hL, hC, hP, hB⟩ := hI
  obtain ⟨_, h0, h2, mT, mTS, mJG, mBL, mCO, hM, _⟩ := id hW
  have gj := gJm_r (S := []) J
  have hp4 := rmP_4 (RGi_p hG)
  have hbb := LwB_b hB hp4 hk
  have bad : LwI v1 v2 (k + 1) V c s I J := ⟨r, cv, gr, room, p, hW, hG, hT, hL, hC, LwP_up hP, LwB_up hB⟩
  obtain ⟨T, ct, hT0⟩ := id hT
  have hT8 := hT0.1
  have hq : p ≤ rmC T p (min (rpS T ct + 1) 64) := rmC_m (p := p) hT8 (RGi_p hG) (i := 0) (Nat.zero_le _)
  have hq4 := rmP_4 (rmC_p (T := T) (RGi_p hG) (min (rpS T ct + 1) 64))
  unfold wA_L_law_365
  refine ⟨_, rmC T p (min (rpS T ct + 1) 64) - p, 32 * (rmC T p (min (rpS T ct + 1) 64) - p), mT.1, h0, mT.2, by omega, by omega, ?_⟩
  simp only [← and_assoc]
  exact q_repeats hW hG hT0 (Nat.le_refl _) (Nat.le_refl _) (fun V' _ _ _ _ z => ⟨z.2.2.2.2.2.2.2.2.1, z.2.2.1⟩) (fun x V' I' J' z => lw_eq (lw_nx hK (lw_rows hT hL hC hP hB hq z)))
theorem lw_378 (hv : LwV v3 L) (hk : k ≤ 600) (hI : LwI v1 v2 k V c s I J) (hK : LwN v1 v2 k v3 K) : wA_L_law_378 L xs () K v1 v2 v3 V c s I J := by
  obtain ⟨b1, b2, b3, b4, b5⟩ := hv
  obtain ⟨r, cv, gr, room, p, hW, hG, hT, hL, hC, hP, hB⟩ := hI
  obtain ⟨_, h0, h2, mT, mTS, mJG, mBL, mCO, hM, _⟩ := id hW
  have gj := gJm_r (S := []) J
  have hp4 := rmP_4 (RGi_p hG)
  have hbb := LwB_b hB hp4 hk
  have bad : LwI v1 v2 (k + 1) V c s I J := ⟨r, cv, gr, room, p, hW, hG, hT, hL, hC, LwP_up hP, LwB_up hB⟩
  obtain ⟨T, ct, hT0⟩ := id hT
  have hT8 := hT0.1
  have hq : p ≤ rmB T p (min (rdS T ct + 1) 4) := rmB_m (p := p) hT8 (RGi_p hG) (i := 0) (Nat.zero_le _) (Nat.min_le_right _ _)
  have hq4 := rmP_4 (rmB_p (T := T) (RGi_p hG) (min (rdS T ct + 1) 4))
  unfold wA_L_law_378
  refine ⟨_, rmB T p (min (rdS T ct + 1) 4) - p, 32 * (rmB T p (min (rdS T ct + 1) 4) - p), mT.1, h0, mT.2, by omega, by omega, ?_⟩
  simp only [← and_assoc]
  exact q_radius hW hG hT0 (Nat.le_refl _) (Nat.le_refl _) (fun V' _ _ _ _ z => ⟨z.2.2.2.2.2.2.2.2.1, z.2.2.1⟩) (fun x V' I' J' z => lw_eq (lw_nx hK (lw_rows hT hL hC hP hB hq z)))
theorem lw_391 (hv : LwV v3 L) (hk : k ≤ 600) (hI : LwI v1 v2 k V c s I J) (hK : LwN v1 v2 k v3 K) : wA_L_law_391 L xs () K v1 v2 v3 V c s I J := by
  obtain ⟨b1, b2, b3, b4, b5⟩ := hv
  obtain ⟨r, cv, gr, room, p, hW, hG, hT, hL, hC, hP, hB⟩ := hI
  obtain ⟨_, h0, h2, mT, mTS, mJG, mBL, mCO, hM, _⟩ := id hW
  have gj := gJm_r (S := []) J
  have hp4 := rmP_4 (RGi_p hG)
  have hbb := LwB_b hB hp4 hk
  have bad : LwI v1 v2 (k + 1) V c s I J := ⟨r, cv, gr, room, p, hW, hG, hT, hL, hC, LwP_up hP, LwB_up hB⟩
  obtain ⟨T, ct, hT0⟩ := id hT
  have hT8 := hT0.1
  have hq := nxR_le (X := T ^ 3) (RGi_p hG) (pT4 hT8 (by omega))
  unfold wA_L_law_391
  by_cases ok : inR (xs ((v3 + (1 : Int32))).toNatClampNeg) 0 (nI T - 1)
  · refine ⟨b1, _, nxR p (T ^ 3) - p, 32 * (nxR p (T ^ 3) - p), mT.1, h0, mT.2, by omega, by omega, ?_⟩
    simp only [b1, true_and, ← and_assoc]
    exact q_middle hW hG hT0 _ (fun V' _ _ _ _ z => ⟨z.2.2.2.2.2.2.2.2.1, z.2.2.1⟩) (fun z => absurd ok z) (fun _ => ⟨⟨Nat.le_refl _, Nat.le_refl _⟩, fun x V' I' J' z => lw_cmp (lw_nx hK (lw_rows hT hL hC hP hB hq.1 z))⟩)
  · refine ⟨b1, _, 0, 0, mT.1, h0, mT.2, by omega, by omega, ?_⟩
    simp only [b1, true_and, ← and_assoc]
    exact q_middle hW hG hT0 _ (fun V' _ _ _ _ z => ⟨z.2.2.2.2.2.2.2.2.1, z.2.2.1⟩) (fun _ => lw_cmp (lw_nx hK bad)) (fun z => absurd z ok)
theorem lw_250 {s0 : Int32} (hb : ((xs ((v3 + (3 : Int32))).toNatClampNeg) = 0 ∧ s0 = 0) ∨ (¬ (xs ((v3 + (3 : Int32))).toNatClampNeg) = 0 ∧ s0 = 1)) (hv : LwV v3 L) (hk : k ≤ 600) (hI : LwI v1 v2 k V c s I J) (hK : LwN v1 v2 k v3 K) : wA_L_law_250 L xs () K v1 v2 v3 s0 (xs ((v3 + (2 : Int32))).toNatClampNeg) (xs ((v3 + (1 : Int32))).toNatClampNeg) v1 V c s I J := by
  obtain ⟨b1, b2, b3, b4, b5⟩ := hv
  obtain ⟨r, cv, gr, room, p, hW, hG, hT, hL, hC, hP, hB⟩ := hI
  obtain ⟨_, h0, h2, mT, mTS, mJG, mBL, mCO, hM, _⟩ := id hW
  have gj := gJm_r (S := []) J
  have hp4 := rmP_4 (RGi_p hG)
  have hbb := LwB_b hB hp4 hk
  have bad : LwI v1 v2 (k + 1) V c s I J := ⟨r, cv, gr, room, p, hW, hG, hT, hL, hC, LwP_up hP, LwB_up hB⟩
  obtain ⟨T, ct, hT0⟩ := id hT
  have hT8 := hT0.1
  have h01 : s0 = 0 ∨ s0 = 1 := by rcases hb with ⟨_, e⟩ | ⟨_, e⟩ <;> simp [e]
  have E : ∀ {X Y : Prop}, s0 = 0 → (((xs ((v3 + (3 : Int32))).toNatClampNeg) = 0 → X) ∧ (¬ (xs ((v3 + (3 : Int32))).toNatClampNeg) = 0 → Y)) = X := fun e => by
    rcases hb with ⟨e1, _⟩ | ⟨_, e2⟩
    · exact lw_b0 e1
    · rw [e2] at e; exact absurd e (by decide)
  have E' : ∀ {X Y : Prop}, s0 = 1 → (((xs ((v3 + (3 : Int32))).toNatClampNeg) = 0 → X) ∧ (¬ (xs ((v3 + (3 : Int32))).toNatClampNeg) = 0 → Y)) = Y := fun e => by
    rcases hb with ⟨_, e2⟩ | ⟨e1, _⟩
    · rw [e2] at e; exact absurd e (by decide)
    · exact lw_b1 e1
  unfold wA_L_law_250
  by_cases ok : inR (xs ((v3 + (1 : Int32))).toNatClampNeg) 1 4 ∧ inR (xs ((v3 + (2 : Int32))).toNatClampNeg) 1 4
  · obtain ⟨w, w1, w4, ew⟩ := inR_nI (lo := 1) (hi := 4) (by decide) (by decide) ok.1
    have hq := nxR_le (X := T ^ w) (RGi_p hG) (pT4 hT8 w4)
    refine ⟨_, nxR p (T ^ w) - p, 32 * (nxR p (T ^ w) - p), mT.1, h0, mT.2, by omega, by omega, ?_⟩
    rcases h01 with rfl | rfl
    · simp only [b1, b2, b3, E rfl, wA_L_law_277, true_and, ← and_assoc]
      exact q_fillings hW hG hT0 _ _ _ (Or.inl rfl) (fun V' _ _ _ _ z => ⟨z.2.2.2.2.2.2.2.2.1, z.2.2.1⟩) (fun z => absurd ok z) (fun w' e' _ h4 _ => by
        rw [nI_one (e'.symm.trans ew) (by omega) (by omega)]
        exact ⟨⟨Nat.le_refl _, Nat.le_refl _⟩, fun x V' I' J' z => lw_cmp (lw_nx hK (lw_rows hT hL hC hP hB hq.1 z))⟩)
    · simp only [b1, b2, b3, E' rfl, wA_L_law_277, true_and, ← and_assoc]
      exact q_fillings hW hG hT0 _ _ _ (Or.inr rfl) (fun V' _ _ _ _ z => ⟨z.2.2.2.2.2.2.2.2.1, z.2.2.1⟩) (fun z => absurd ok z) (fun w' e' _ h4 _ => by
        rw [nI_one (e'.symm.trans ew) (by omega) (by omega)]
        exact ⟨⟨Nat.le_refl _, Nat.le_refl _⟩, fun x V' I' J' z => lw_cmp (lw_nx hK (lw_rows hT hL hC hP hB hq.1 z))⟩)
  · refine ⟨_, 0, 0, mT.1, h0, mT.2, by omega, by omega, ?_⟩
    rcases h01 with rfl | rfl
    · simp only [b1, b2, b3, E rfl, wA_L_law_277, true_and, ← and_assoc]
      exact q_fillings hW hG hT0 _ _ _ (Or.inl rfl) (fun V' _ _ _ _ z => ⟨z.2.2.2.2.2.2.2.2.1, z.2.2.1⟩) (fun _ => lw_cmp (lw_nx hK bad)) (fun w' e' h1 h4 z => absurd ⟨e' ▸ inR_of (lo := 1) (hi := 4) (by decide) h1 h4, z⟩ ok)
    · simp only [b1, b2, b3, E' rfl, wA_L_law_277, true_and, ← and_assoc]
      exact q_fillings hW hG hT0 _ _ _ (Or.inr rfl) (fun V' _ _ _ _ z => ⟨z.2.2.2.2.2.2.2.2.1, z.2.2.1⟩) (fun _ => lw_cmp (lw_nx hK bad)) (fun w' e' h1 h4 z => absurd ⟨e' ▸ inR_of (lo := 1) (hi := 4) (by decide) h1 h4, z⟩ ok)
theorem lw_310 {s0 : Int32} (hb : ((xs ((v3 + (3 : Int32))).toNatClampNeg) = 0 ∧ s0 = 0) ∨ (¬ (xs ((v3 + (3 : Int32))).toNatClampNeg) = 0 ∧ s0 = 1)) (hv : LwV v3 L) (hk : k ≤ 600) (hI : LwI v1 v2 k V c s I J) (hK : LwN v1 v2 k v3 K) : wA_L_law_310 L xs () K v1 v2 v3 s0 (xs ((v3 + (2 : Int32))).toNatClampNeg) (xs ((v3 + (1 : Int32))).toNatClampNeg) v1 V c s I J := by
  obtain ⟨b1, b2, b3, b4, b5⟩ := hv
  obtain ⟨r, cv, gr, room, p, hW, hG, hT, hL, hC, hP, hB⟩ := hI
  obtain ⟨_, h0, h2, mT, mTS, mJG, mBL, mCO, hM, _⟩ := id hW
  have gj := gJm_r (S := []) J
  have hp4 := rmP_4 (RGi_p hG)
  have hbb := LwB_b hB hp4 hk
  have bad : LwI v1 v2 (k + 1) V c s I J := ⟨r, cv, gr, room, p, hW, hG, hT, hL, hC, LwP_up hP, LwB_up hB⟩
  obtain ⟨T, ct, hT0⟩ := id hT
  have hT8 := hT0.1
  have h01 : s0 = 0 ∨ s0 = 1 := by rcases hb with ⟨_, e⟩ | ⟨_, e⟩ <;> simp [e]
  have E : ∀ {X Y : Prop}, s0 = 0 → (((xs ((v3 + (3 : Int32))).toNatClampNeg) = 0 → X) ∧ (¬ (xs ((v3 + (3 : Int32))).toNatClampNeg) = 0 → Y)) = X := fun e => by
    rcases hb with ⟨e1, _⟩ | ⟨_, e2⟩
    · exact lw_b0 e1
    · rw [e2] at e; exact absurd e (by decide)
  have E' : ∀ {X Y : Prop}, s0 = 1 → (((xs ((v3 + (3 : Int32))).toNatClampNeg) = 0 → X) ∧ (¬ (xs ((v3 + (3 : Int32))).toNatClampNeg) = 0 → Y)) = Y := fun e => by
    rcases hb with ⟨_, e2⟩ | ⟨e1, _⟩
    · rw [e2] at e; exact absurd e (by decide)
    · exact lw_b1 e1
  unfold wA_L_law_310
  by_cases ok : (inR (xs ((v3 + (1 : Int32))).toNatClampNeg) 1 4 ∧ inR (xs ((v3 + (2 : Int32))).toNatClampNeg) 1 4) ∧ inR (xs ((v3 + (4 : Int32))).toNatClampNeg) 0 ((xs ((v3 + (1 : Int32))).toNatClampNeg) - 1) ∧ inR (xs ((v3 + (5 : Int32))).toNatClampNeg) 0 ((xs ((v3 + (2 : Int32))).toNatClampNeg) - 1)
  · obtain ⟨w, w1, w4, ew⟩ := inR_nI (lo := 1) (hi := 4) (by decide) (by decide) ok.1.1
    have hq := nxR_le (X := T ^ w) (RGi_p hG) (pT4 hT8 w4)
    refine ⟨b4, b5, _, nxR p (T ^ w) - p, 32 * (nxR p (T ^ w) - p), mT.1, h0, mT.2, by omega, by omega, ?_⟩
    rcases h01 with rfl | rfl
    · simp only [b1, b2, b3, b4, b5, E rfl, wA_L_law_347, true_and, ← and_assoc]
      exact q_laid hW hG hT0 _ _ _ _ _ (Or.inl rfl) (fun V' _ _ _ _ z => ⟨z.2.2.2.2.2.2.2.2.1, z.2.2.1⟩) (fun z => absurd ok z) (fun w' e' _ h4 _ _ _ => by
        rw [nI_one (e'.symm.trans ew) (by omega) (by omega)]
        exact ⟨⟨Nat.le_refl _, Nat.le_refl _⟩, fun x V' I' J' z => lw_eq (lw_nx hK (lw_rows hT hL hC hP hB hq.1 z))⟩)
    · simp only [b1, b2, b3, b4, b5, E' rfl, wA_L_law_347, true_and, ← and_assoc]
      exact q_laid hW hG hT0 _ _ _ _ _ (Or.inr rfl) (fun V' _ _ _ _ z => ⟨z.2.2.2.2.2.2.2.2.1, z.2.2.1⟩) (fun z => absurd ok z) (fun w' e' _ h4 _ _ _ => by
        rw [nI_one (e'.symm.trans ew) (by omega) (by omega)]
        exact ⟨⟨Nat.le_refl _, Nat.le_refl _⟩, fun x V' I' J' z => lw_eq (lw_nx hK (lw_rows hT hL hC hP hB hq.1 z))⟩)
  · refine ⟨b4, b5, _, 0, 0, mT.1, h0, mT.2, by omega, by omega, ?_⟩
    rcases h01 with rfl | rfl
    · simp only [b1, b2, b3, b4, b5, E rfl, wA_L_law_347, true_and, ← and_assoc]
      exact q_laid hW hG hT0 _ _ _ _ _ (Or.inl rfl) (fun V' _ _ _ _ z => ⟨z.2.2.2.2.2.2.2.2.1, z.2.2.1⟩) (fun _ => lw_eq (lw_nx hK bad)) (fun w' e' h1 h4 z z4 z5 => absurd ⟨⟨e' ▸ inR_of (lo := 1) (hi := 4) (by decide) h1 h4, z⟩, z4, z5⟩ ok)
    · simp only [b1, b2, b3, b4, b5, E' rfl, wA_L_law_347, true_and, ← and_assoc]
      exact q_laid hW hG hT0 _ _ _ _ _ (Or.inr rfl) (fun V' _ _ _ _ z => ⟨z.2.2.2.2.2.2.2.2.1, z.2.2.1⟩) (fun _ => lw_eq (lw_nx hK bad)) (fun w' e' h1 h4 z z4 z5 => absurd ⟨⟨e' ▸ inR_of (lo := 1) (hi := 4) (by decide) h1 h4, z⟩, z4, z5⟩ ok)
theorem lw_226 (hv : LwV v3 L) (hk : k ≤ 600) (hI : LwI v1 v2 k V c s I J) (hK : LwN v1 v2 k v3 K) : wA_L_law_226 L xs () K v1 v2 v3 V c s I J := by
  obtain ⟨b1, b2, b3, b4, b5⟩ := id hv
  unfold wA_L_law_226
  exact ⟨b1, b2, b3, fun e => lw_250 (Or.inl ⟨e, rfl⟩) hv hk hI hK, fun e => lw_250 (Or.inr ⟨e, rfl⟩) hv hk hI hK⟩
theorem lw_286 (hv : LwV v3 L) (hk : k ≤ 600) (hI : LwI v1 v2 k V c s I J) (hK : LwN v1 v2 k v3 K) : wA_L_law_286 L xs () K v1 v2 v3 V c s I J := by
  obtain ⟨b1, b2, b3, b4, b5⟩ := id hv
  unfold wA_L_law_286
  exact ⟨b1, b2, b3, fun e => lw_310 (Or.inl ⟨e, rfl⟩) hv hk hI hK, fun e => lw_310 (Or.inr ⟨e, rfl⟩) hv hk hI hK⟩
theorem lw_566 (hv : LwV v3 L) (hk : k ≤ 600) (hI : LwI v1 v2 k V c s I J) (hK : LwN v1 v2 k v3 K) : wA_L_law_566 L xs () K v1 v2 v3 V c s I J := by
  obtain ⟨b1, b2, b3, b4, b5⟩ := hv
  obtain ⟨r, cv, gr, room, p, hW, hG, hT, hL, hC, hP, hB⟩ := hI
  obtain ⟨_, h0, h2, mT, mTS, mJG, mBL, mCO, hM, _⟩ := id hW
  have gj := gJm_r (S := []) J
  have hp4 := rmP_4 (RGi_p hG)
  have hbb := LwB_b hB hp4 hk
  have bad : LwI v1 v2 (k + 1) V c s I J := ⟨r, cv, gr, room, p, hW, hG, hT, hL, hC, LwP_up hP, LwB_up hB⟩
  obtain ⟨np, pc, w, hh, hs, tu, mi, ver, lv, Lp, q1, q2, q3, q4, q5⟩ := id hP
  have step : ∀ {c' s' : Nat} {V' : gV} {I' : gI} {J' : gL} {L' : Nat → Nat → List Nat}, LwB true (k + 1) p c' s' → gWl v1 v2 r true gr room V' → gSm cvC I I' → (∀ j, j ≠ 30 → I' 200 j = I 200 j) → gJm cvJ J J' → RelP np pc w hh hs tu mi ver ver I' → Lst np pc w hh hs tu mi L' I' → tbO ver (w * hh) np (fun s => elP L' s np) J' → LwI v1 v2 (k + 1) V' c' s' I' J' := by
    intro c' s' V' I' J' L' hB' hW' g hm0 gj hR hLs hTb
    have hm : ∀ j, j ∉ [30] → I' 200 j = I 200 j := fun j hj => hm0 j (fun e => hj (by subst e; decide))
    exact ⟨r, true, gr, room, p, hW', kG hG g gj (by decide) (by decide), kT hT g hm (by decide) (by decide), kL hL g hm (by decide) (by decide), kC hC g hm (by decide) (by decide), ⟨np, pc, w, hh, hs, tu, mi, ver, ver, L', hR, q2, by omega, fun _ => hLs, fun _ => ⟨fun _ => hTb, fun z => absurd rfl z⟩⟩, hB'⟩
  unfold wA_L_law_566
  by_cases ok : inR (xs ((v3 + (1 : Int32))).toNatClampNeg) 0 2
  · cases cv with
    | true =>
      refine ⟨b1, _, 0, 0, mT.1, h0, mT.2, by omega, by omega, ?_⟩
      simp only [b1, true_and, ← and_assoc]
      exact q_coversA hW (xs ((v3 + (1 : Int32))).toNatClampNeg) (fun _ => Or.inl rfl) q1 q2 (by omega) q4 q5 (fun V' _ _ _ _ z => ⟨z.2.2.2.2.2.2.2.2.1, z.2.2.1⟩) (fun z => absurd ok z) (fun x V' I' J' L' y1 y2 y3 y4 y5 y6 y7 => lw_cmp (lw_nx hK (step (LwB_up hB) y1 y2 y3 y4 y5 y6 y7)))
    | false =>
      refine ⟨b1, _, 5, 32906, mT.1, h0, mT.2, by omega, by omega, ?_⟩
      simp only [b1, true_and, ← and_assoc]
      exact q_coversA hW (xs ((v3 + (1 : Int32))).toNatClampNeg) (fun _ => Or.inr ⟨Nat.le_refl _, Nat.le_refl _⟩) q1 q2 (by omega) q4 q5 (fun V' _ _ _ _ z => ⟨z.2.2.2.2.2.2.2.2.1, z.2.2.1⟩) (fun z => absurd ok z) (fun x V' I' J' L' y1 y2 y3 y4 y5 y6 y7 => lw_cmp (lw_nx hK (step (LwB_c hB) y1 y2 y3 y4 y5 y6 y7)))
  · refine ⟨b1, _, 0, 0, mT.1, h0, mT.2, by omega, by omega, ?_⟩
    simp only [b1, true_and, ← and_assoc]
    exact q_coversA hW (xs ((v3 + (1 : Int32))).toNatClampNeg) (fun z => absurd z ok) q1 q2 (by omega) q4 q5 (fun V' _ _ _ _ z => ⟨z.2.2.2.2.2.2.2.2.1, z.2.2.1⟩) (fun _ => lw_cmp (lw_nx hK bad)) (fun x V' I' J' L' y1 y2 y3 y4 y5 y6 y7 => lw_cmp (lw_nx hK (step (LwB_t hB) y1 y2 y3 y4 y5 y6 y7)))
theorem lw_643 (hv : LwV v3 L) (hk : k ≤ 600) (hI : LwI v1 v2 k V c s I J) (hK : LwN v1 v2 k v3 K) : wA_L_law_643 L xs () K v1 v2 v3 V c s I J := by
  obtain ⟨b1, b2, b3, b4, b5⟩ := hv
  obtain ⟨r, cv, gr, room, p, hW, hG, hT, hL, hC, hP, hB⟩ := hI
  obtain ⟨_, h0, h2, mT, mTS, mJG, mBL, mCO, hM, _⟩ := id hW
  have gj := gJm_r (S := []) J
  have hp4 := rmP_4 (RGi_p hG)
  have hbb := LwB_b hB hp4 hk
  have bad : LwI v1 v2 (k + 1) V c s I J := ⟨r, cv, gr, room, p, hW, hG, hT, hL, hC, LwP_up hP, LwB_up hB⟩
  obtain ⟨np, pc, w, hh, hs, tu, mi, ver, lv, Lp, q1, q2, q3, q4, q5⟩ := id hP
  have step : ∀ {c' s' : Nat} {V' : gV} {I' : gI} {J' : gL} {L' : Nat → Nat → List Nat}, LwB true (k + 1) p c' s' → gWl v1 v2 r true gr room V' → gSm cvC I I' → (∀ j, j ≠ 30 → I' 200 j = I 200 j) → gJm cvJ J J' → RelP np pc w hh hs tu mi ver ver I' → Lst np pc w hh hs tu mi L' I' → tbO ver (w * hh) np (fun s => elP L' s np) J' → LwI v1 v2 (k + 1) V' c' s' I' J' := by
    intro c' s' V' I' J' L' hB' hW' g hm0 gj hR hLs hTb
    have hm : ∀ j, j ∉ [30] → I' 200 j = I 200 j := fun j hj => hm0 j (fun e => hj (by subst e; decide))
    exact ⟨r, true, gr, room, p, hW', kG hG g gj (by decide) (by decide), kT hT g hm (by decide) (by decide), kL hL g hm (by decide) (by decide), kC hC g hm (by decide) (by decide), ⟨np, pc, w, hh, hs, tu, mi, ver, ver, L', hR, q2, by omega, fun _ => hLs, fun _ => ⟨fun _ => hTb, fun z => absurd rfl z⟩⟩, hB'⟩
  unfold wA_L_law_643
  by_cases ok : inR (xs ((v3 + (1 : Int32))).toNatClampNeg) 0 2
  · cases cv with
    | true =>
      refine ⟨b1, _, 0, 0, mT.1, h0, mT.2, by omega, by omega, ?_⟩
      simp only [b1, true_and, ← and_assoc]
      exact q_fewestA hW (xs ((v3 + (1 : Int32))).toNatClampNeg) (fun _ => Or.inl rfl) q1 q2 (by omega) q4 q5 (fun V' _ _ _ _ z => ⟨z.2.2.2.2.2.2.2.2.1, z.2.2.1⟩) (fun z => absurd ok z) (fun x V' I' J' L' y1 y2 y3 y4 y5 y6 y7 => lw_eq (lw_nx hK (step (LwB_up hB) y1 y2 y3 y4 y5 y6 y7)))
    | false =>
      refine ⟨b1, _, 5, 32906, mT.1, h0, mT.2, by omega, by omega, ?_⟩
      simp only [b1, true_and, ← and_assoc]
      exact q_fewestA hW (xs ((v3 + (1 : Int32))).toNatClampNeg) (fun _ => Or.inr ⟨Nat.le_refl _, Nat.le_refl _⟩) q1 q2 (by omega) q4 q5 (fun V' _ _ _ _ z => ⟨z.2.2.2.2.2.2.2.2.1, z.2.2.1⟩) (fun z => absurd ok z) (fun x V' I' J' L' y1 y2 y3 y4 y5 y6 y7 => lw_eq (lw_nx hK (step (LwB_c hB) y1 y2 y3 y4 y5 y6 y7)))
  · refine ⟨b1, _, 0, 0, mT.1, h0, mT.2, by omega, by omega, ?_⟩
    simp only [b1, true_and, ← and_assoc]
    exact q_fewestA hW (xs ((v3 + (1 : Int32))).toNatClampNeg) (fun z => absurd z ok) q1 q2 (by omega) q4 q5 (fun V' _ _ _ _ z => ⟨z.2.2.2.2.2.2.2.2.1, z.2.2.1⟩) (fun _ => lw_eq (lw_nx hK bad)) (fun x V' I' J' L' y1 y2 y3 y4 y5 y6 y7 => lw_eq (lw_nx hK (step (LwB_t hB) y1 y2 y3 y4 y5 y6 y7)))
theorem lw_590 (hv : LwV v3 L) (hk : k ≤ 600) (hI : LwI v1 v2 k V c s I J) (hK : LwN v1 v2 k v3 K) : wA_L_law_590 L xs () K v1 v2 v3 V c s I J := by
  obtain ⟨b1, b2, b3, b4, b5⟩ := hv
  obtain ⟨r, cv, gr, room, p, hW, hG, hT, hL, hC, hP, hB⟩ := hI
  obtain ⟨_, h0, h2, mT, mTS, mJG, mBL, mCO, hM, _⟩ := id hW
  have gj := gJm_r (S := []) J
  have hp4 := rmP_4 (RGi_p hG)
  have hbb := LwB_b hB hp4 hk
  have bad : LwI v1 v2 (k + 1) V c s I J := ⟨r, cv, gr, room, p, hW, hG, hT, hL, hC, LwP_up hP, LwB_up hB⟩
  obtain ⟨np, pc, w, hh, hs, tu, mi, ver, lv, Lp, q1, q2, q3, q4, q5⟩ := id hP
  have step : ∀ {c' s' : Nat} {V' : gV} {I' : gI} {J' : gL} {L' : Nat → Nat → List Nat}, LwB true (k + 1) p c' s' → gWl v1 v2 r true gr room V' → gSm cvC I I' → (∀ j, j ≠ 30 → I' 200 j = I 200 j) → gJm cvJ J J' → RelP np pc w hh hs tu mi ver ver I' → Lst np pc w hh hs tu mi L' I' → tbO ver (w * hh) np (fun s => elP L' s np) J' → LwI v1 v2 (k + 1) V' c' s' I' J' := by
    intro c' s' V' I' J' L' hB' hW' g hm0 gj hR hLs hTb
    have hm : ∀ j, j ∉ [30] → I' 200 j = I 200 j := fun j hj => hm0 j (fun e => hj (by subst e; decide))
    exact ⟨r, true, gr, room, p, hW', kG hG g gj (by decide) (by decide), kT hT g hm (by decide) (by decide), kL hL g hm (by decide) (by decide), kC hC g hm (by decide) (by decide), ⟨np, pc, w, hh, hs, tu, mi, ver, ver, L', hR, q2, by omega, fun _ => hLs, fun _ => ⟨fun _ => hTb, fun z => absurd rfl z⟩⟩, hB'⟩
  unfold wA_L_law_590
  by_cases ok : inR (xs ((v3 + (1 : Int32))).toNatClampNeg) 0 2 ∧ inR (xs ((v3 + (2 : Int32))).toNatClampNeg) 0 (nI (w - 1)) ∧ inR (xs ((v3 + (3 : Int32))).toNatClampNeg) 0 (nI (hh - 1)) ∧ inR (xs ((v3 + (4 : Int32))).toNatClampNeg) 0 1
  · cases cv with
    | true =>
      refine ⟨b1, b2, b3, b4, _, 0, 0, mT.1, h0, mT.2, by omega, by omega, ?_⟩
      simp only [b1, b2, b3, b4, true_and, ← and_assoc]
      exact q_coverA hW (xs ((v3 + (1 : Int32))).toNatClampNeg) (xs ((v3 + (2 : Int32))).toNatClampNeg) (xs ((v3 + (3 : Int32))).toNatClampNeg) (xs ((v3 + (4 : Int32))).toNatClampNeg) (fun _ => Or.inl rfl) q1 q2 (by omega) q4 q5 (fun V' _ _ _ _ z => ⟨z.2.2.2.2.2.2.2.2.1, z.2.2.1⟩) (fun z => absurd ok z) (fun x V' I' J' L' y1 y2 y3 y4 y5 y6 y7 => lw_eq (lw_nx hK (step (LwB_up hB) y1 y2 y3 y4 y5 y6 y7)))
    | false =>
      refine ⟨b1, b2, b3, b4, _, 5, 32906, mT.1, h0, mT.2, by omega, by omega, ?_⟩
      simp only [b1, b2, b3, b4, true_and, ← and_assoc]
      exact q_coverA hW (xs ((v3 + (1 : Int32))).toNatClampNeg) (xs ((v3 + (2 : Int32))).toNatClampNeg) (xs ((v3 + (3 : Int32))).toNatClampNeg) (xs ((v3 + (4 : Int32))).toNatClampNeg) (fun _ => Or.inr ⟨Nat.le_refl _, Nat.le_refl _⟩) q1 q2 (by omega) q4 q5 (fun V' _ _ _ _ z => ⟨z.2.2.2.2.2.2.2.2.1, z.2.2.1⟩) (fun z => absurd ok z) (fun x V' I' J' L' y1 y2 y3 y4 y5 y6 y7 => lw_eq (lw_nx hK (step (LwB_c hB) y1 y2 y3 y4 y5 y6 y7)))
  · refine ⟨b1, b2, b3, b4, _, 0, 0, mT.1, h0, mT.2, by omega, by omega, ?_⟩
    simp only [b1, b2, b3, b4, true_and, ← and_assoc]
    exact q_coverA hW (xs ((v3 + (1 : Int32))).toNatClampNeg) (xs ((v3 + (2 : Int32))).toNatClampNeg) (xs ((v3 + (3 : Int32))).toNatClampNeg) (xs ((v3 + (4 : Int32))).toNatClampNeg) (fun z => absurd z ok) q1 q2 (by omega) q4 q5 (fun V' _ _ _ _ z => ⟨z.2.2.2.2.2.2.2.2.1, z.2.2.1⟩) (fun _ => lw_eq (lw_nx hK bad)) (fun x V' I' J' L' y1 y2 y3 y4 y5 y6 y7 => lw_eq (lw_nx hK (step (LwB_t hB) y1 y2 y3 y4 y5 y6 y7)))
theorem lw_849 (hv : LwV v3 L) (hk : k ≤ 600) (hI : LwI v1 v2 k V c s I J) (hK : LwN v1 v2 k v3 K) : wA_L_law_849 L xs () K v1 v2 v3 V c s I J := by
  obtain ⟨b1, b2, b3, b4, b5⟩ := hv
  obtain ⟨r, cv, gr, room, p, hW, hG, hT, hL, hC, hP, hB⟩ := hI
  obtain ⟨_, h0, h2, mT, mTS, mJG, mBL, mCO, hM, _⟩ := id hW
  have gj := gJm_r (S := []) J
  have hp4 := rmP_4 (RGi_p hG)
  have hbb := LwB_b hB hp4 hk
  have bad : LwI v1 v2 (k + 1) V c s I J := ⟨r, cv, gr, room, p, hW, hG, hT, hL, hC, LwP_up hP, LwB_up hB⟩
  obtain ⟨n, a, bl, hL0⟩ := id hL
  have bad3 : LwI v1 v2 (k + 1) V (c + 3) (s + 48) I J := ⟨r, cv, gr, room, p, hW, hG, hT, hL, hC, LwP_up hP, LwB_3 hB⟩
  unfold wA_L_law_849
  refine ⟨b1, b2, b3, b4, _, 3, 48, mT.1, h0, mT.2, by omega, by omega, ?_⟩
  simp only [b1, b2, b3, b4, true_and, ← and_assoc]
  refine q_besideA hW hL0 (Or.inr ⟨Nat.le_refl _, Nat.le_refl _⟩) _ _ _ _ (fun V' _ _ _ _ z => ⟨z.2.2.2.2.2.2.2.2.1, z.2.2.1⟩) (lw_eq (lw_nx hK bad3)) (fun x V' I' J' hW' g gj => lw_eq (lw_nx hK ?_))
  have hm := gM0 (S := []) g (by decide)
  exact ⟨r, cv, true, room, p, hW', kG hG g gj (by decide) (by decide), kT hT g hm (by decide) (by decide), kL hL g hm (by decide) (by decide), kC hC g hm (by decide) (by decide), kP hP g gj hm (by decide) (by decide) (by decide), LwB_3 hB⟩
theorem lw_915 (hv : LwV v3 L) (hk : k ≤ 600) (hI : LwI v1 v2 k V c s I J) (hK : LwN v1 v2 k v3 K) : wA_L_law_915 L xs () K v1 v2 v3 V c s I J := by
  obtain ⟨b1, b2, b3, b4, b5⟩ := hv
  obtain ⟨r, cv, gr, room, p, hW, hG, hT, hL, hC, hP, hB⟩ := hI
  obtain ⟨_, h0, h2, mT, mTS, mJG, mBL, mCO, hM, _⟩ := id hW
  have gj := gJm_r (S := []) J
  have hp4 := rmP_4 (RGi_p hG)
  have hbb := LwB_b hB hp4 hk
  have bad : LwI v1 v2 (k + 1) V c s I J := ⟨r, cv, gr, room, p, hW, hG, hT, hL, hC, LwP_up hP, LwB_up hB⟩
  obtain ⟨n, a, bl, hL0⟩ := id hL
  have bad3 : LwI v1 v2 (k + 1) V (c + 3) (s + 48) I J := ⟨r, cv, gr, room, p, hW, hG, hT, hL, hC, LwP_up hP, LwB_3 hB⟩
  unfold wA_L_law_915
  refine ⟨b1, b2, _, 3, 48, mT.1, h0, mT.2, by omega, by omega, ?_⟩
  simp only [b1, b2, true_and, ← and_assoc]
  refine q_squaresA hW hL0 (Or.inr ⟨Nat.le_refl _, Nat.le_refl _⟩) _ _ (fun V' _ _ _ _ z => ⟨z.2.2.2.2.2.2.2.2.1, z.2.2.1⟩) (lw_eq (lw_nx hK bad3)) (fun x V' I' J' hW' g gj => lw_eq (lw_nx hK ?_))
  have hm := gM0 (S := []) g (by decide)
  exact ⟨r, cv, true, room, p, hW', kG hG g gj (by decide) (by decide), kT hT g hm (by decide) (by decide), kL hL g hm (by decide) (by decide), kC hC g hm (by decide) (by decide), kP hP g gj hm (by decide) (by decide) (by decide), LwB_3 hB⟩
end
