/-! TILES: tile, untile. c j d: the colour of tile j at edge d (0 north, 1 east, 2 south, 3 west) -/
def RelT (t : Nat) (c : Nat → Nat → Nat) (I : gI) : Prop := t ≤ 8 ∧ I 10 4 = nI t ∧ I 200 0 = nI t ∧ ∀ j, j < t → ∀ d, d < 4 → c j d ≤ 9 ∧ I (11 + d) j = nI (c j d) ∧ I 201 (4 * j + d) = nI (c j d)
theorem p_isColour {a : Int32} {Po : Int32 → Prop} (h1 : inR a 0 9 → Po 1) (h0 : ¬ inR a 0 9 → Po 0) : wp_X9_isColour a Po := by
  unfold wp_X9_isColour
  exact p_isBetween (fun h => ⟨Or.inr rfl, h1 h⟩) (fun h => ⟨Or.inl rfl, h0 h⟩)
theorem q_tile {t : Nat} {c : Nat → Nat → Nat} {I : gI} (hR : RelT t c I) (a1 a2 a3 a4 : Int32) {Po : Int32 → Int32 → gI → Prop}
    (hbad : Po (-2) (-2) I) (hfull : t = 8 → Po (-3) (-3) I)
    (hok : ∀ (c' : Nat → Nat → Nat) (I' : gI), t < 8 → RelT (t + 1) c' I' → gSm [10, 11, 12, 13, 14, 200, 201] I I' → (∀ j, j ≠ 0 → I' 200 j = I 200 j) → Po (nI t) (nI t) I') :
    wp_X9_tile a1 a2 a3 a4 I (fun r I1 => wp_X10_tile a1 a2 a3 a4 I1 (fun r2 I2 => Po r r2 I2)) := by
  obtain ⟨ht, h10, h200, hc⟩ := hR
  unfold wp_X9_tile
  have bad : ∀ {r : Int32}, r = -2 → (¬ inR a1 0 9 ∨ ¬ inR a2 0 9 ∨ ¬ inR a3 0 9 ∨ ¬ inR a4 0 9) → wp_X10_tile a1 a2 a3 a4 I (fun r2 I2 => Po r r2 I2) := by
    intro r hr hb
    subst hr
    unfold wp_X10_tile
    refine p_isIn (fun b1 => ⟨fun q => absurd q one_ne, fun _ => ?_⟩) (fun b1 => ⟨fun _ => hbad, fun q => absurd rfl q⟩)
    refine p_isIn (fun b2 => ⟨fun q => absurd q one_ne, fun _ => ?_⟩) (fun b2 => ⟨fun _ => hbad, fun q => absurd rfl q⟩)
    refine p_isIn (fun b3 => ⟨fun q => absurd q one_ne, fun _ => ?_⟩) (fun b3 => ⟨fun _ => hbad, fun q => absurd rfl q⟩)
    refine p_isIn (fun b4 => ?_) (fun b4 => ⟨fun q => absurd rfl q, fun _ => hbad⟩)
    rcases hb with hb | hb | hb | hb
    · exact absurd b1 hb
    · exact absurd b2 hb
    · exact absurd b3 hb
    · exact absurd b4 hb
  refine p_isColour (fun b1 => ⟨fun q => absurd q one_ne, fun _ => ?_⟩) (fun b1 => ⟨fun _ => bad rfl (Or.inl b1), fun q => absurd rfl q⟩)
  refine p_isColour (fun b2 => ⟨fun q => absurd q one_ne, fun _ => ?_⟩) (fun b2 => ⟨fun _ => bad rfl (Or.inr (Or.inl b2)), fun q => absurd rfl q⟩)
  refine p_isColour (fun b3 => ⟨fun q => absurd q one_ne, fun _ => ?_⟩) (fun b3 => ⟨fun _ => bad rfl (Or.inr (Or.inr (Or.inl b3))), fun q => absurd rfl q⟩)
  refine p_isColour (fun b4 => ⟨fun _ => ?_, fun q => absurd q one_ne⟩) (fun b4 => ⟨fun q => absurd rfl q, fun _ => bad rfl (Or.inr (Or.inr (Or.inr b4)))⟩)
  have good : ∀ {r : Int32} {I1 : gI}, I1 200 0 = nI t → (t = 8 → Po r (-3) I1) → (t < 8 → ∀ I2 : gI, I2 = gup (gup (gup (gup (gup I1 201 (4 * t) a1) 201 (4 * t + 1) a2) 201 (4 * t + 2) a3) 201 (4 * t + 3) a4) 200 0 (nI (t + 1)) → Po r (nI t) I2) → wp_X10_tile a1 a2 a3 a4 I1 (fun r2 I2 => Po r r2 I2) := by
    intro r I1 e1 hf hg
    unfold wp_X10_tile
    refine p_isIn (fun b1 => ⟨fun q => absurd q one_ne, fun _ => ?_⟩) (fun b => absurd b1 b)
    refine p_isIn (fun b2 => ⟨fun q => absurd q one_ne, fun _ => ?_⟩) (fun b => absurd b2 b)
    refine p_isIn (fun b3 => ⟨fun q => absurd q one_ne, fun _ => ?_⟩) (fun b => absurd b3 b)
    refine p_isIn (fun b4 => ⟨fun _ => ?_, fun q => absurd q one_ne⟩) (fun b => absurd b4 b)
    rw [e1]
    refine ⟨fun q => ?_, fun q => ?_⟩
    · have ht8 : t < 8 := by
        rcases Nat.lt_or_ge t 8 with h | h
        · exact h
        · exact absurd (by rw [show t = 8 by omega]; rfl) q
      simp only [i_1, i_2, i_3, i_4, pk_mul, nI_add]
      refine ⟨vp_in_nI (by omega) (by decide), ?_⟩
      intro I11 e11
      have f11 : I11 200 0 = nI t := by rw [e11, gup_o (by decide)]; exact e1
      rw [f11]
      simp only [pk_mul, nI_add]
      refine ⟨vp_in_nI (by omega) (by decide), ?_⟩
      intro I13 e13
      have f13 : I13 200 0 = nI t := by rw [e13, gup_o (by decide)]; exact f11
      rw [f13]
      simp only [pk_mul, nI_add]
      refine ⟨vp_in_nI (by omega) (by decide), ?_⟩
      intro I15 e15
      have f15 : I15 200 0 = nI t := by rw [e15, gup_o (by decide)]; exact f13
      rw [f15]
      simp only [pk_mul, nI_add]
      refine ⟨vp_in_nI (by omega) (by decide), ?_⟩
      intro I17 e17 I18 e18
      have f17 : I17 200 0 = nI t := by rw [e17, gup_o (by decide)]; exact f15
      have f18 : I18 200 0 = nI (t + 1) := by rw [e18, gup_at, f17, nI_add]
      rw [f18, pk_sub (by omega), show t + 1 - 1 = t by omega]
      refine hg ht8 I18 ?_
      rw [f17, nI_add] at e18
      rw [e18, e17, e15, e13, e11]
      rw [nI_clamp (by omega), nI_clamp (by omega), nI_clamp (by omega), nI_clamp (by omega)]
    · exact hf ((nI_eq (by omega) (by decide)).mp q)
  refine ⟨fun q => ?_, fun q => ?_⟩
  · rw [h10] at q
    have ht8 : t < 8 := (nI_ltI (by omega) (by decide)).mp q
    unfold wp_X8_add
    rw [h10]
    refine ⟨vp_in_nI (by omega) (by decide), ?_⟩
    rw [nI_clamp (by omega)]
    intro I2 e2
    have f2 : I2 10 4 = nI t := by rw [e2, gup_o (by decide)]; exact h10
    rw [f2]
    refine ⟨vp_in_nI (by omega) (by decide), ?_⟩
    rw [nI_clamp (by omega)]
    intro I4 e4
    have f4 : I4 10 4 = nI t := by rw [e4, gup_o (by decide)]; exact f2
    rw [f4]
    refine ⟨vp_in_nI (by omega) (by decide), ?_⟩
    rw [nI_clamp (by omega)]
    intro I6 e6
    have f6 : I6 10 4 = nI t := by rw [e6, gup_o (by decide)]; exact f4
    rw [f6]
    refine ⟨vp_in_nI (by omega) (by decide), ?_⟩
    rw [nI_clamp (by omega)]
    intro I8 e8 I9 e9
    have f8 : I8 10 4 = nI t := by rw [e8, gup_o (by decide)]; exact f6
    have f9 : I9 10 4 = nI (t + 1) := by rw [e9, gup_at, f8, i_1, nI_add]
    rw [f9, i_1, pk_sub (by omega), show t + 1 - 1 = t by omega]
    have f9' : I9 200 0 = nI t := by rw [e9, gup_o (by decide), e8, gup_o (by decide), e6, gup_o (by decide), e4, gup_o (by decide), e2, gup_o (by decide)]; exact h200
    refine good f9' (fun h => absurd h (by omega)) (fun _ I' e' => ?_)
    obtain ⟨n1, -, l1, rfl⟩ := inR_nI (lo := 0) (hi := 9) (by decide) (by decide) b1
    obtain ⟨n2, -, l2, rfl⟩ := inR_nI (lo := 0) (hi := 9) (by decide) (by decide) b2
    obtain ⟨n3, -, l3, rfl⟩ := inR_nI (lo := 0) (hi := 9) (by decide) (by decide) b3
    obtain ⟨n4, -, l4, rfl⟩ := inR_nI (lo := 0) (hi := 9) (by decide) (by decide) b4
    rw [f8, i_1, nI_add] at e9
    subst e2 e4 e6 e8 e9 e'
    refine hok (fun j d => if j = t then (if d = 0 then n1 else if d = 1 then n2 else if d = 2 then n3 else n4) else c j d) _ ht8 ⟨by omega, ?_, ?_, ?_⟩ ?_ ?_
    · simp [gup]
    · simp [gup]
    · intro j hj d hd
      by_cases hjt : j = t
      · subst hjt
        rcases (show d = 0 ∨ d = 1 ∨ d = 2 ∨ d = 3 by omega) with rfl | rfl | rfl | rfl <;> simp [gup] <;> omega
      · have h1 := hc j (by omega) d hd
        have a0 : 4 * j + d ≠ 4 * t := by omega
        have a1 : 4 * j + d ≠ 4 * t + 1 := by omega
        have a2 : 4 * j + d ≠ 4 * t + 2 := by omega
        have a3 : 4 * j + d ≠ 4 * t + 3 := by omega
        rcases (show d = 0 ∨ d = 1 ∨ d = 2 ∨ d = 3 by omega) with rfl | rfl | rfl | rfl <;> simp_all [gup]
    · intro k hk
      simp only [List.mem_cons, List.not_mem_nil, or_false, not_or] at hk
      funext j
      simp [gup, hk]
    · intro j hj
      simp [gup, hj]
  · rw [h10] at q
    have ht8 : t = 8 := by
      rcases Nat.lt_or_ge t 8 with h | h
      · exact absurd ((nI_ltI (by omega) (by decide)).mpr h) q
      · omega
    refine good h200 (fun _ => hfull ht8) (fun h => absurd h (by omega))
