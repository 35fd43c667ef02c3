/-! fillings, laid, middle: class and model side by side -/
theorem p_isSide {a : Int32} {Po : Int32 → Prop} (h1 : inR a 1 4 → Po 1) (h0 : ¬ inR a 1 4 → Po 0) : wp_X9_isSide a Po := by
  unfold wp_X9_isSide
  exact p_isBetween (fun h => ⟨Or.inr rfl, h1 h⟩) (fun h => ⟨Or.inl rfl, h0 h⟩)
theorem p_isSize {a b : Int32} {Po : Int32 → Prop} (h1 : inR a 1 4 → inR b 1 4 → Po 1) (h0 : ¬ (inR a 1 4 ∧ inR b 1 4) → Po 0) : wp_X10_isSize a b Po := by
  unfold wp_X10_isSize
  exact p_isIn (fun h => ⟨fun z => absurd z one_ne, fun _ => p_isIn (fun h' => ⟨fun z => absurd z one_ne, fun _ => h1 h h'⟩) (fun h' => ⟨fun _ => h0 (fun z => h' z.2), fun z => absurd rfl z⟩)⟩) (fun h => ⟨fun _ => h0 (fun z => h z.1), fun z => absurd rfl z⟩)
theorem RGi_S {r : Bool} {room p : Nat} {I I' : gI} {J J' : gL} {A B : List Nat} (h : RGi r room p I J) (g : gSm A I I') (gj : gJm B J J') (hA : ∀ k, 70 ≤ k → k ≤ 93 → k ∉ A) (hB : ∀ k, 70 ≤ k → k ≤ 93 → k ∉ B) : RGi r room p I' J' := by
  refine ⟨h.1, fun e => ?_⟩
  obtain ⟨q1, q2, q3, Fs, q4⟩ := h.2 e
  refine ⟨q1, q2, by rw [g 70 (hA 70 (by decide) (by decide))]; exact q3, Fs, fun d hd => Tl_k (q4 d hd) ?_ ?_ ?_⟩
  · rw [g (82 + d) (hA _ (by omega) (by omega))]
  · exact g (90 + d) (hA _ (by omega) (by omega))
  · exact gj (86 + d) (hB _ (by omega) (by omega))
theorem RelT_S {T : Nat} {c : Nat → Nat → Nat} {I I' : gI} {A : List Nat} (h : RelT T c I) (g : gSm A I I') (hA : ∀ k, 10 ≤ k → k ≤ 14 → k ∉ A) (g2 : I' 200 0 = I 200 0) (g3 : 201 ∉ A) : RelT T c I' := by
  obtain ⟨q1, q2, q3, q4⟩ := h
  refine ⟨q1, by rw [g 10 (hA 10 (by decide) (by decide))]; exact q2, by rw [g2]; exact q3, fun j hj d hd => ?_⟩
  rw [g 201 g3, g (11 + d) (hA _ (by omega) (by omega))]
  exact q4 j hj d hd
abbrev rwI : List Nat := lRG ++ [200, 202, 203, 204, 205, 207]
abbrev rwJ : List Nat := lRG ++ [206, 208, 209]
/-- behind a call about rows -/
def rwK (v1 v2 : Nat) (cv gr : Bool) (q : Nat) (I : gI) (J : gL) (V' : gV) (I' : gI) (J' : gL) : Prop := gWl v1 v2 true cv gr q V' ∧ RGi true q q I' J' ∧ gSm rwI I I' ∧ (∀ j, j ≠ 5 → I' 200 j = I 200 j) ∧ gJm rwJ J J'
theorem pow0 {T w : Nat} (hT : ¬ 0 < T) (hw : 1 ≤ w) : T ^ w = 0 := by
  rw [show T = 0 by omega, Nat.zero_pow (by omega)]
theorem smM_63 {X : Nat} {ok : Nat → Bool} {N S : Nat → Nat} {cl : Bool} {ht : Nat} (hX : X ≤ 4096) (h1 : 1 ≤ ht) (h4 : ht ≤ 4) : smM X ok N S cl ht < 9223372036854775808 := by
  have h2 := sN_le (p := ok) (f := fun x => wy X ok N S (eM N cl x) (ht - 1) (S x)) (B := 4096 ^ 3) (n := X) (fun x _ _ => by
    have a1 := wy_le (X := X) (ok := ok) (N := N) (S := S) (E := eM N cl x) (fun v => eM_le) (ht - 1) (S x)
    have a2 : X ^ (ht - 1) ≤ 4096 ^ (ht - 1) := Nat.pow_le_pow_left hX _
    have a3 : 4096 ^ (ht - 1) ≤ 4096 ^ 3 := Nat.pow_le_pow_right (by decide) (by omega)
    exact Nat.le_trans a1 (Nat.le_trans a2 a3))
  have h3 := cN_le ok X
  have h5 : cN ok X * 4096 ^ 3 ≤ 4096 * 4096 ^ 3 := Nat.mul_le_mul_right _ (by omega)
  have h6 : 4096 * 4096 ^ 3 < 9223372036854775808 := by decide
  exact Nat.lt_of_le_of_lt (Nat.le_trans h2 h5) h6
section
variable {v1 v2 : Nat} {r cv gr : Bool} {room mc ms p T : Nat} {c : Nat → Nat → Nat} {V : gV} {I : gI} {J : gL}
theorem RelT_9 (hR : RelT T c I) : ∀ t, t < T → ∀ d, d < 4 → c t d ≤ 9 := fun t ht d hd => (hR.2.2.2 t ht d hd).1
/-- behind the class's part -/
theorem rwK_c {q : Nat} {V1 : gV} {I1 I2 : gI} {J1 J2 : gL} (hW1 : gWl v1 v2 true cv gr q V1) (g1 : gSm lRG I I1) (g2 : gJm lRG J J1) (hG1 : RGi true q q I1 J1) (s1 : gSm tlI I1 I2) (s2 : gJm tlJ J1 J2) (hT2 : ∃ Fs', Tls q Fs' I2 J2) : gSm lRG I I2 ∧ gJm lRG J J2 ∧ RGi true q q I2 J2 := by
  obtain ⟨q1, q2, q3, _⟩ := hG1.2 rfl
  exact ⟨gSm_t g1 (gSm_w s1 (by decide)), gJm_t g2 (gJm_w s2 (by decide)), fun e => absurd e (by decide), fun _ => ⟨q1, q2, by rw [s1 70 (by decide)]; exact q3, hT2⟩⟩
/-- and behind the model's -/
theorem rwK_m {q : Nat} {V1 : gV} {I2 I3 : gI} {J2 J3 : gL} (hW1 : gWl v1 v2 true cv gr q V1) (g1 : gSm lRG I I2) (g2 : gJm lRG J J2) (hG2 : RGi true q q I2 J2) (s1 : gSm [200, 202, 203, 204, 205, 207] I2 I3) (s2 : ∀ j, j ≠ 5 → I3 200 j = I2 200 j) (s3 : gJm [206, 208, 209] J2 J3) : rwK v1 v2 cv gr q I J V1 I3 J3 := by
  refine ⟨hW1, RGi_S hG2 s1 s3 (fun k h1 h2 => by simp only [List.mem_cons, List.not_mem_nil, or_false]; omega) (fun k h1 h2 => by simp only [List.mem_cons, List.not_mem_nil, or_false]; omega), gSm_t (gSm_w g1 (fun k hk => List.mem_append_left _ hk)) (gSm_w s1 (fun k hk => List.mem_append_right _ hk)), fun j hj => by rw [s2 j hj, g1 200 (by decide)], gJm_t (gJm_w g2 (fun k hk => List.mem_append_left _ hk)) (gJm_w s3 (fun k hk => List.mem_append_right _ hk))⟩
theorem q_fillings (hW : gWl v1 v2 r cv gr room V) (hG : RGi r room p I J) (hR : RelT T c I) (a1 a2 a3 : Int32) (h3 : a3 = 0 ∨ a3 = 1) {A : gV → Prop} (hA : ∀ V' r' cv' gr' room', gWl v1 v2 r' cv' gr' room' V' → A V') {Po : Int64 → Int64 → gV → gI → gL → Prop} (hbad : ¬ (inR a1 1 4 ∧ inR a2 1 4) → Po (-2) (-2) V I J) (hok : ∀ w, a1 = nI w → 1 ≤ w → w ≤ 4 → inR a2 1 4 → (nxR p (T ^ w) - p ≤ mc ∧ 32 * (nxR p (T ^ w) - p) ≤ ms) ∧ ∀ x V' I' J', rwK v1 v2 cv gr (nxR p (T ^ w)) I J V' I' J' → Po x x V' I' J') : wA_X9_fillings mc ms v1 a1 a2 a3 V I J (fun x V1 I1 J1 => A V1 ∧ wp_X10_fillings a1 a2 a3 I1 J1 (fun x2 I2 J2 => Po x x2 V1 I2 J2)) := by
  have bad : ¬ (inR a1 1 4 ∧ inR a2 1 4) → wp_X10_fillings a1 a2 a3 I J (fun x2 I2 J2 => Po (-2) x2 V I2 J2) := fun hn => by
    unfold wp_X10_fillings
    exact p_isSize (fun h1 h2 => absurd ⟨h1, h2⟩ hn) (fun h => ⟨fun _ => hbad h, fun z => absurd rfl z⟩)
  unfold wA_X9_fillings
  refine p_isSide (fun h1 => ⟨fun z => absurd z one_ne, fun _ => ?_⟩) (fun h1 => ⟨fun _ => ⟨hA _ _ _ _ _ hW, bad (fun z => h1 z.1)⟩, fun z => absurd rfl z⟩)
  refine p_isSide (fun h2 => ⟨fun _ => ?_, fun z => absurd z one_ne⟩) (fun h2 => ⟨fun z => absurd rfl z, fun _ => ⟨hA _ _ _ _ _ hW, bad (fun z => h2 z.2)⟩⟩)
  obtain ⟨w, hw1, hw4, rfl⟩ := inR_nI (lo := 1) (hi := 4) (by decide) (by decide) h1
  obtain ⟨⟨hc, hs⟩, hgo⟩ := hok w rfl hw1 hw4 h2
  have h2' := h2
  obtain ⟨ht, ht1, ht4, rfl⟩ := inR_nI (lo := 1) (hi := 4) (by decide) (by decide) h2
  obtain ⟨w1, w2, w3, wT, _⟩ := id hW
  have hT8 := hR.1
  have model : ∀ (cl : Bool) (V1 : gV) (I2 : gI) (J2 : gL), (a3 = 0 ↔ cl = false) → gWl v1 v2 true cv gr (nxR p (T ^ w)) V1 → gSm lRG I I2 → gJm lRG J J2 → RGi true (nxR p (T ^ w)) (nxR p (T ^ w)) I2 J2 → wp_X10_fillings (nI w) (nI ht) a3 I2 J2 (fun x2 I3 J3 => Po (lN (smM (T ^ w) (okM T w c cl) (cd T 10 (fun t => c t 0) w) (cd T 10 (fun t => c t 2) w) cl ht)) x2 V1 I3 J3) := by
    intro cl V1 I2 J2 hcl hW1 k1 k2 k3
    unfold wp_X10_fillings
    refine p_isSize (fun _ _ => ⟨fun z => absurd z one_ne, fun _ => ?_⟩) (fun h => absurd ⟨h1, h2'⟩ h)
    refine p_fillM (cl := cl) (RelT_S hR k1 (fun k h1 h2 => by simp only [List.mem_cons, List.not_mem_nil, or_false]; omega) (by rw [k1 200 (by decide)]) (by decide)) hw1 hw4 ht1 ht4 hcl (fun I3 J3 s1 s2 s3 => ?_)
    exact hgo _ V1 I3 J3 (rwK_m hW1 k1 k2 k3 s1 s2 s3)
  refine ⟨_, nxR p (T ^ w) - p, 32 * (nxR p (T ^ w) - p), wT.1, w2, wT.2, by omega, by omega, ?_⟩
  rcases h3 with rfl | rfl
  · refine p_rowsOf (cl := false) hW hG hR hw1 hw4 (Or.inl rfl) ⟨fun _ => rfl, fun _ => rfl⟩ (Nat.le_refl _) (Nat.le_refl _) (fun V1 I1 J1 D dig hW1 g1 g2 hG1 hB hD hi hR1 => ⟨fun _ => ?_, fun z => absurd rfl z⟩)
    obtain ⟨_, _, _, Fs, hTl⟩ := hG1.2 rfl
    obtain ⟨_, _, _, xT, xTS, _, _, _, _, xr, _⟩ := id hW1
    refine ⟨_, xTS, xr rfl, rfl, p_countOpen hB hTl ht1 ht4 (fun I2 J2 s1 s2 s3 => ?_)⟩
    obtain ⟨k1, k2, k3⟩ := rwK_c hW1 g1 g2 hG1 s1 s2 s3
    have e : sN (okJ T w c false w) (fun x => wy (T ^ w) (fun x => okJ T w c false w x && allP T (hasN T c) w x) (cd T D (fun t => dig (c t 0)) w) (cd T D (fun t => dig (c t 2)) w) (fun v => if v < D ^ w then 1 else 0) (ht - 1) (cd T D (fun t => dig (c t 2)) w x)) (T ^ w) = smM (T ^ w) (okM T w c false) (cd T 10 (fun t => c t 0) w) (cd T 10 (fun t => c t 2) w) false ht := by
      by_cases hT : 0 < T
      · exact br_open hT (RelT_9 hR) hD hi ht
      · rw [pow0 hT hw1]; rfl
    rw [e]
    exact ⟨hA _ _ _ _ _ hW1, model false V1 I2 J2 ⟨fun _ => rfl, fun _ => rfl⟩ hW1 k1 k2 k3⟩
  · refine p_rowsOf (cl := true) hW hG hR hw1 hw4 (Or.inr rfl) ⟨fun z => absurd z one_ne, fun z => absurd z (by decide)⟩ (Nat.le_refl _) (Nat.le_refl _) (fun V1 I1 J1 D dig hW1 g1 g2 hG1 hB hD hi hR1 => ⟨fun z => absurd z one_ne, fun _ => ?_⟩)
    obtain ⟨_, _, _, Fs, hTl⟩ := hG1.2 rfl
    obtain ⟨_, _, _, xT, xTS, _, _, _, _, xr, _⟩ := id hW1
    refine ⟨_, xTS, xr rfl, rfl, p_countRings hB hTl ht1 ht4 (fun I2 J2 s1 s2 s3 => ?_)⟩
    obtain ⟨k1, k2, k3⟩ := rwK_c hW1 g1 g2 hG1 s1 s2 s3
    have e : sN (fun x => okJ T w c true w x && allP T (hasN T c) w x) (fun x => wy (T ^ w) (fun x => okJ T w c true w x && allP T (hasN T c) w x) (cd T D (fun t => dig (c t 0)) w) (cd T D (fun t => dig (c t 2)) w) (fun v => if v = cd T D (fun t => dig (c t 0)) w x then 1 else 0) (ht - 1) (cd T D (fun t => dig (c t 2)) w x)) (T ^ w) = smM (T ^ w) (okM T w c true) (cd T 10 (fun t => c t 0) w) (cd T 10 (fun t => c t 2) w) true ht := by
      by_cases hT : 0 < T
      · exact br_ring hT (RelT_9 hR) hD hi ht
      · rw [pow0 hT hw1]; rfl
    rw [e]
    exact ⟨hA _ _ _ _ _ hW1, model true V1 I2 J2 ⟨fun z => absurd z one_ne, fun z => absurd z (by decide)⟩ hW1 k1 k2 k3⟩
theorem q_laid (hW : gWl v1 v2 r cv gr room V) (hG : RGi r room p I J) (hR : RelT T c I) (a1 a2 a3 a4 a5 : Int32) (h3 : a3 = 0 ∨ a3 = 1) {A : gV → Prop} (hA : ∀ V' r' cv' gr' room', gWl v1 v2 r' cv' gr' room' V' → A V') {Po : Int32 → Int32 → gV → gI → gL → Prop} (hbad : ¬ ((inR a1 1 4 ∧ inR a2 1 4) ∧ inR a4 0 (a1 - 1) ∧ inR a5 0 (a2 - 1)) → Po (-2) (-2) V I J) (hok : ∀ w, a1 = nI w → 1 ≤ w → w ≤ 4 → inR a2 1 4 → inR a4 0 (a1 - 1) → inR a5 0 (a2 - 1) → (nxR p (T ^ w) - p ≤ mc ∧ 32 * (nxR p (T ^ w) - p) ≤ ms) ∧ ∀ x V' I' J', rwK v1 v2 cv gr (nxR p (T ^ w)) I J V' I' J' → Po x x V' I' J') : wA_X9_laid mc ms v1 a1 a2 a3 a4 a5 V I J (fun x V1 I1 J1 => A V1 ∧ wp_X10_laid a1 a2 a3 a4 a5 I1 J1 (fun x2 I2 J2 => Po x x2 V1 I2 J2)) := by
  have bad : ¬ ((inR a1 1 4 ∧ inR a2 1 4) ∧ inR a4 0 (a1 - 1) ∧ inR a5 0 (a2 - 1)) → wp_X10_laid a1 a2 a3 a4 a5 I J (fun x2 I2 J2 => Po (-2) x2 V I2 J2) := fun hn => by
    unfold wp_X10_laid
    refine p_isSize (fun h1 h2 => ⟨fun z => absurd z one_ne, fun _ => ?_⟩) (fun h => ⟨fun _ => hbad hn, fun z => absurd rfl z⟩)
    refine p_isIn (fun h4 => ⟨fun z => absurd z one_ne, fun _ => ?_⟩) (fun h => ⟨fun _ => hbad hn, fun z => absurd rfl z⟩)
    exact p_isIn (fun h5 => absurd ⟨⟨h1, h2⟩, h4, h5⟩ hn) (fun h => ⟨fun z => absurd rfl z, fun _ => hbad hn⟩)
  unfold wA_X9_laid
  refine p_isSide (fun h1 => ⟨fun z => absurd z one_ne, fun _ => ?_⟩) (fun h1 => ⟨fun _ => ⟨hA _ _ _ _ _ hW, bad (fun z => h1 z.1.1)⟩, fun z => absurd rfl z⟩)
  refine p_isSide (fun h2 => ⟨fun z => absurd z one_ne, fun _ => ?_⟩) (fun h2 => ⟨fun _ => ⟨hA _ _ _ _ _ hW, bad (fun z => h2 z.1.2)⟩, fun z => absurd rfl z⟩)
  refine p_isBetween (fun h4 => ⟨fun z => absurd z one_ne, fun _ => ?_⟩) (fun h4 => ⟨fun _ => ⟨hA _ _ _ _ _ hW, bad (fun z => h4 z.2.1)⟩, fun z => absurd rfl z⟩)
  refine p_isBetween (fun h5 => ⟨fun _ => ?_, fun z => absurd z one_ne⟩) (fun h5 => ⟨fun z => absurd rfl z, fun _ => ⟨hA _ _ _ _ _ hW, bad (fun z => h5 z.2.2)⟩⟩)
  obtain ⟨w, hw1, hw4, rfl⟩ := inR_nI (lo := 1) (hi := 4) (by decide) (by decide) h1
  obtain ⟨⟨hc, hs⟩, hgo⟩ := hok w rfl hw1 hw4 h2 h4 h5
  have h2' := h2
  obtain ⟨ht, ht1, ht4, rfl⟩ := inR_nI (lo := 1) (hi := 4) (by decide) (by decide) h2
  have h4' := h4
  have h5' := h5
  rw [i_1, pk_sub hw1] at h4
  rw [i_1, pk_sub ht1] at h5
  obtain ⟨a, _, ha, rfl⟩ := inR_nI (lo := 0) (by decide) (by omega) h4
  obtain ⟨b, _, hb, rfl⟩ := inR_nI (lo := 0) (by decide) (by omega) h5
  obtain ⟨w1, w2, w3, wT, _⟩ := id hW
  have hT8 := hR.1
  refine ⟨_, nxR p (T ^ w) - p, 32 * (nxR p (T ^ w) - p), wT.1, w2, wT.2, by omega, by omega, ?_⟩
  obtain ⟨cl, hcl⟩ : ∃ cl : Bool, a3 = 0 ↔ cl = false := by
    rcases h3 with rfl | rfl
    · exact ⟨false, fun _ => rfl, fun _ => rfl⟩
    · exact ⟨true, fun z => absurd z one_ne, fun z => absurd z (by decide)⟩
  refine p_rowsOf (cl := cl) hW hG hR hw1 hw4 h3 hcl (Nat.le_refl _) (Nat.le_refl _) (fun V1 I1 J1 D dig hW1 g1 g2 hG1 hB hD hi hR1 => ?_)
  obtain ⟨_, _, _, Fs, hTl⟩ := hG1.2 rfl
  obtain ⟨_, _, _, xT, xTS, _, _, _, _, xr, _⟩ := id hW1
  refine ⟨_, xTS, xr rfl, rfl, p_firstTileAt (E := eC (cd T D (fun t => dig (c t 0)) w) (D ^ w) cl) hB hTl (fun e => by rw [e]; rfl) (fun e => by rw [e]; rfl) ht1 ht4 (by omega) (by omega) (fun I2 J2 s1 s2 s3 => ?_)⟩
  obtain ⟨k1, k2, k3⟩ := rwK_c hW1 g1 g2 hG1 s1 s2 s3
  refine ⟨hA _ _ _ _ _ hW1, ?_⟩
  unfold wp_X10_laid
  refine p_isSize (fun _ _ => ⟨fun z => absurd z one_ne, fun _ => ?_⟩) (fun h => absurd ⟨h1, h2'⟩ h)
  refine p_isIn (fun _ => ⟨fun z => absurd z one_ne, fun _ => ?_⟩) (fun h => absurd h4' h)
  refine p_isIn (fun _ => ⟨fun _ => ?_, fun z => absurd z one_ne⟩) (fun h => absurd h5' h)
  have hR2 := RelT_S hR k1 (fun k h1 h2 => by simp only [List.mem_cons, List.not_mem_nil, or_false]; omega) (by rw [k1 200 (by decide)]) (by decide)
  refine p_layRows (cl := cl) hR2 hw1 hw4 hcl (fun I3 y1 y2 hM => ?_)
  refine p_laidG (T := T) (w := w) (cl := cl) hM (by rw [y2 0 (by decide)]; exact hR2.2.2.1) hT8 rfl hw1 hw4 ht1 ht4 (by omega) (by omega) hcl (fun J3 y3 => ?_)
  have fin := fun x => hgo x V1 I3 J3 (rwK_m hW1 k1 k2 k3 (gSm_w y1 (by decide)) y2 (gJm_w y3 (by decide)))
  by_cases hT : 0 < T
  · have el := br_lf (cl := cl) (w := w) hT (RelT_9 hR) hD hi ht
    by_cases z : lf (gdF (T ^ w) (okM T w c cl) (okM T w c cl) (cd T 10 (fun t => c t 0) w) (cd T 10 (fun t => c t 2) w) (eM (cd T 10 (fun t => c t 0) w) cl) ht) (T ^ w) = T ^ w
    · rw [if_pos z, if_pos (by rw [← el]; exact z)]
      exact fin _
    · have hle := lf_le (q := gdF (T ^ w) (okM T w c cl) (okM T w c cl) (cd T 10 (fun t => c t 0) w) (cd T 10 (fun t => c t 2) w) (eM (cd T 10 (fun t => c t 0) w) cl) ht) (T ^ w)
      rw [if_neg z, if_neg (by rw [← el]; exact z), ← br_rw hT (RelT_9 hR) hD hi (by omega) b (by omega), cd_dg hT hT8 _ _ _ (by omega)]
      exact fin _
  · have z : ∀ q : Nat → Bool, lf q (T ^ w) = T ^ w := fun q => by rw [pow0 hT hw1]; rfl
    rw [if_pos (z _), if_pos (z _)]
    exact fin _
theorem q_middle (hW : gWl v1 v2 r cv gr room V) (hG : RGi r room p I J) (hR : RelT T c I) (a1 : Int32) {A : gV → Prop} (hA : ∀ V' r' cv' gr' room', gWl v1 v2 r' cv' gr' room' V' → A V') {Po : Int64 → Int64 → gV → gI → gL → Prop} (hbad : ¬ inR a1 0 (nI T - 1) → Po (-2) (-2) V I J) (hok : inR a1 0 (nI T - 1) → (nxR p (T ^ 3) - p ≤ mc ∧ 32 * (nxR p (T ^ 3) - p) ≤ ms) ∧ ∀ x V' I' J', rwK v1 v2 cv gr (nxR p (T ^ 3)) I J V' I' J' → Po x x V' I' J') : wA_X9_middle mc ms v1 a1 V I J (fun x V1 I1 J1 => A V1 ∧ wp_X10_middle a1 I1 J1 (fun x2 I2 J2 => Po x x2 V1 I2 J2)) := by
  obtain ⟨w1, w2, w3, wT, wTS, _⟩ := id hW
  have hT8 := hR.1
  unfold wA_X9_middle
  have c10 := c_10 wTS
  refine ⟨_, V.2.1 10, wT.1, w2, wT.2, rfl, _, c10.1, rfl, c10.2, rfl, ?_⟩
  rw [hR.2.1]
  refine p_isBetween (fun h1 => ⟨fun _ => ?_, fun z => absurd z one_ne⟩) (fun h1 => ⟨fun z => absurd rfl z, fun _ => ?_⟩)
  · obtain ⟨⟨hc, hs⟩, hgo⟩ := hok h1
    have hT : 0 < T := by
      rcases Nat.eq_zero_or_pos T with z | z
      · rw [z] at h1
        have h0 := h1.1
        have h2 := h1.2
        have : (0 : Int32) ≤ nI 0 - 1 := Int32.le_trans h0 h2
        exact absurd this (by decide)
      · exact z
    have h1' := h1
    rw [i_1, pk_sub (by omega)] at h1
    obtain ⟨t, _, ht, rfl⟩ := inR_nI (lo := 0) (by decide) (by omega) h1
    refine ⟨_, nxR p (T ^ 3) - p, 32 * (nxR p (T ^ 3) - p), wT.1, w2, wT.2, by omega, by omega, ?_⟩
    rw [i_3]
    refine p_rowsOf (cl := false) (w := 3) hW hG hR (by decide) (by decide) (Or.inl rfl) ⟨fun _ => rfl, fun _ => rfl⟩ (Nat.le_refl _) (Nat.le_refl _) (fun V1 I1 J1 D dig hW1 g1 g2 hG1 hB hD hi hR1 => ?_)
    obtain ⟨_, _, _, Fs, hTl⟩ := hG1.2 rfl
    obtain ⟨_, _, _, xT, xTS, _, _, _, _, xr, _⟩ := id hW1
    refine ⟨_, xTS, xr rfl, rfl, p_around hB (by decide) hTl (t := t) (by omega) (fun I2 J2 s1 s2 s3 => ?_)⟩
    obtain ⟨k1, k2, k3⟩ := rwK_c hW1 g1 g2 hG1 s1 s2 s3
    have hR2 := RelT_S hR k1 (fun k h1 h2 => by simp only [List.mem_cons, List.not_mem_nil, or_false]; omega) (by rw [k1 200 (by decide)]) (by decide)
    refine ⟨hA _ _ _ _ _ hW1, ?_⟩
    unfold wp_X10_middle
    rw [hR2.2.2.1]
    refine p_isIn (fun _ => ⟨fun _ => ?_, fun z => absurd z one_ne⟩) (fun h => absurd h1' h)
    rw [i_3]
    refine p_layRows (cl := false) (w := 3) hR2 (by decide) (by decide) ⟨fun _ => rfl, fun _ => rfl⟩ (fun I3 y1 y2 hM => ?_)
    refine p_middleG (T := T) hM (by rw [y2 0 (by decide)]; exact hR2.2.2.1) hT hT8 (by omega) rfl (fun J3 y3 => ?_)
    rw [br_mid hT hT8 (by decide) (RelT_9 hR) hD hi t]
    exact hgo _ V1 I3 J3 (rwK_m hW1 k1 k2 k3 (gSm_w y1 (by decide)) y2 (gJm_w y3 (by decide)))
  · refine ⟨hA _ _ _ _ _ hW, ?_⟩
    show wp_X10_middle a1 I J (fun x2 I2 J2 => Po (-2) x2 V I2 J2)
    unfold wp_X10_middle
    rw [hR.2.2.1]
    exact p_isIn (fun h => absurd h h1) (fun h => ⟨fun z => absurd rfl z, fun _ => hbad h1⟩)
end
