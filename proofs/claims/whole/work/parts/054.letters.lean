theorem mu_lt {N i : Nat} (h : i < N) (hN : N < 2147483648) : N - (nI (i + 1)).toNatClampNeg < N - (nI i).toNatClampNeg := by
  rw [nI_clamp (by omega), nI_clamp (by omega)]; omega
/-! LETTERS: Arrays.fill, power, width; letters, block. bl l j: the letter at place j of l's block -/
theorem p_fillI {k len : Nat} {a1 : Int32} {I : gI} {Po : gI → Prop} (hlen : len < 2147483648) (h : ∀ I' : gI, (∀ k', k' ≠ k → I' k' = I k') → (∀ j, j < len → I' k j = a1) → (∀ j, len ≤ j → I' k j = I k j) → Po I') : wp_J7_fill_53178 k len a1 I Po := by
  unfold wp_J7_fill_53178
  intro n1 e1
  subst e1
  unfold w_J7_fill_53178_5
  refine ⟨fun v I' => ∃ i : Nat, i ≤ len ∧ v = nI i ∧ (∀ k', k' ≠ k → I' k' = I k') ∧ (∀ j, j < i → I' k j = a1) ∧ (∀ j, i ≤ j → I' k j = I k j), fun v _ => len - v.toNatClampNeg, ⟨0, by omega, rfl, fun _ _ => rfl, fun j hj => absurd hj (by omega), fun _ _ => rfl⟩, ?_⟩
  rintro v I1 ⟨i, hi, rfl, h1, h2, h3⟩
  unfold w_J7_fill_53178_5b
  refine ⟨fun q => ?_, fun q => ?_⟩
  · have hle := (nI_leI (a := len) (b := i) (by omega) (by omega)).mp q
    obtain rfl : i = len := by omega
    exact h I1 h1 h2 h3
  · have hlt : i < len := by
      rcases Nat.lt_or_ge i len with z | z
      · exact z
      · exact absurd ((nI_leI (a := len) (b := i) (by omega) (by omega)).mpr z) q
    refine ⟨vp_in_nI hlt hlen, ?_⟩
    intro I4 e4 n5 e5
    rw [nI_clamp (by omega)] at e4
    rw [i_1, nI_add] at e5
    subst e4 e5
    refine ⟨⟨i + 1, by omega, rfl, fun k' hk => ?_, fun j hj => ?_, fun j hj => ?_⟩, ?_⟩
    · rw [gup_o hk]; exact h1 k' hk
    · by_cases e : j = i
      · subst e; exact gup_at
      · rw [gup_ne e]; exact h2 j (by omega)
    · rw [gup_ne (by omega)]; exact h3 j (by omega)
    · exact mu_lt hlt (by omega)
theorem p_fillL {k len : Nat} {a1 : Int64} {J : gL} {Po : gL → Prop} (hlen : len < 2147483648) (h : ∀ J' : gL, (∀ k', k' ≠ k → J' k' = J k') → (∀ j, j < len → J' k j = a1) → (∀ j, len ≤ j → J' k j = J k j) → Po J') : wp_J7_fill_d0a16 k len a1 J Po := by
  unfold wp_J7_fill_d0a16
  intro n1 e1
  subst e1
  unfold w_J7_fill_d0a16_6
  refine ⟨fun v J' => ∃ i : Nat, i ≤ len ∧ v = nI i ∧ (∀ k', k' ≠ k → J' k' = J k') ∧ (∀ j, j < i → J' k j = a1) ∧ (∀ j, i ≤ j → J' k j = J k j), fun v _ => len - v.toNatClampNeg, ⟨0, by omega, rfl, fun _ _ => rfl, fun j hj => absurd hj (by omega), fun _ _ => rfl⟩, ?_⟩
  rintro v J1 ⟨i, hi, rfl, h1, h2, h3⟩
  unfold w_J7_fill_d0a16_6b
  refine ⟨fun q => ?_, fun q => ?_⟩
  · have hle := (nI_leI (a := len) (b := i) (by omega) (by omega)).mp q
    obtain rfl : i = len := by omega
    exact h J1 h1 h2 h3
  · have hlt : i < len := by
      rcases Nat.lt_or_ge i len with z | z
      · exact z
      · exact absurd ((nI_leI (a := len) (b := i) (by omega) (by omega)).mpr z) q
    refine ⟨vp_in_nI hlt hlen, ?_⟩
    intro J4 e4 n5 e5
    rw [nI_clamp (by omega)] at e4
    rw [i_1, nI_add] at e5
    subst e4 e5
    refine ⟨⟨i + 1, by omega, rfl, fun k' hk => ?_, fun j hj => ?_, fun j hj => ?_⟩, ?_⟩
    · rw [gup_o hk]; exact h1 k' hk
    · by_cases e : j = i
      · subst e; exact gup_at
      · rw [gup_ne e]; exact h2 j (by omega)
    · rw [gup_ne (by omega)]; exact h3 j (by omega)
    · exact mu_lt hlt (by omega)
theorem p_power {b e : Nat} {Po : Int32 → Prop} (he : e < 2147483648) (h : Po (nI (b ^ e))) : wp_X9_power (nI b) (nI e) Po := by
  unfold wp_X9_power w_X9_power_4
  refine ⟨fun v2 v3 => ∃ i : Nat, i ≤ e ∧ v2 = nI (b ^ i) ∧ v3 = nI i, fun _ v3 => e - v3.toNatClampNeg, ⟨0, by omega, rfl, rfl⟩, ?_⟩
  rintro v2 v3 ⟨i, hi, rfl, rfl⟩
  unfold w_X9_power_4b
  refine ⟨fun q => ?_, fun q => ?_⟩
  · have hle := (nI_leI (a := e) (b := i) (by omega) (by omega)).mp q
    obtain rfl : i = e := by omega
    exact h
  · have hlt : i < e := by
      rcases Nat.lt_or_ge i e with z | z
      · exact z
      · exact absurd ((nI_leI (a := e) (b := i) (by omega) (by omega)).mpr z) q
    intro n2 e2 n3 e3
    rw [pk_mul] at e2
    rw [i_1, nI_add] at e3
    subst e2 e3
    exact ⟨⟨i + 1, by omega, by rw [Nat.pow_succ], rfl⟩, mu_lt hlt (by omega)⟩
theorem p_width {a e : Nat} {I : gI} {Po : Int32 → Prop} (ha : I 200 32 = nI a) (he : e < 2147483648) (h : Po (nI (a ^ e))) : wp_X10_width (nI e) I Po := by
  unfold wp_X10_width w_X10_width_4
  refine ⟨fun v2 v3 => ∃ i : Nat, i ≤ e ∧ v2 = nI (a ^ i) ∧ v3 = nI i, fun _ v3 => e - v3.toNatClampNeg, ⟨0, by omega, rfl, rfl⟩, ?_⟩
  rintro v2 v3 ⟨i, hi, rfl, rfl⟩
  unfold w_X10_width_4b
  refine ⟨fun q => ?_, fun q => ?_⟩
  · have hle := (nI_leI (a := e) (b := i) (by omega) (by omega)).mp q
    obtain rfl : i = e := by omega
    exact h
  · have hlt : i < e := by
      rcases Nat.lt_or_ge i e with z | z
      · exact z
      · exact absurd ((nI_leI (a := e) (b := i) (by omega) (by omega)).mpr z) q
    intro n2 e2 n3 e3
    rw [ha, pk_mul] at e2
    rw [i_1, nI_add] at e3
    subst e2 e3
    exact ⟨⟨i + 1, by omega, by rw [Nat.pow_succ], rfl⟩, mu_lt hlt (by omega)⟩
def RelL (n a : Nat) (bl : Nat → Nat → Nat) (I : gI) : Prop := 1 ≤ n ∧ n ≤ 6 ∧ 2 ≤ a ∧ a ≤ 3 ∧ I 40 0 = nI n ∧ I 200 31 = nI n ∧ I 40 1 = nI a ∧ I 200 32 = nI a ∧ ∀ l, l < 6 → ∀ j, j < 9 → bl l j < n ∧ I (42 + l) j = nI (bl l j) ∧ I 222 (9 * l + j) = nI (bl l j)
theorem p_reset {a1 a2 : Int32} {I : gI} {Po : gI → Prop} (h : ∀ I' : gI, I' 40 0 = a1 → I' 40 1 = a2 → (∀ l, l < 6 → ∀ j, j < 9 → I' (42 + l) j = 0) → gSm [40, 42, 43, 44, 45, 46, 47] I I' → Po I') : wp_X0_reset a1 a2 I Po := by
  unfold wp_X0_reset
  intro I1 e1 I2 e2
  unfold w_X0_reset_12
  refine ⟨fun v I' => ∃ i : Nat, i ≤ 6 ∧ v = nI i ∧ I' 40 0 = a1 ∧ I' 40 1 = a2 ∧ (∀ l, l < i → ∀ j, j < 9 → I' (42 + l) j = 0) ∧ gSm [40, 42, 43, 44, 45, 46, 47] I I', fun v _ => 6 - v.toNatClampNeg, ⟨0, by omega, rfl, by rw [e2, gup_ne (by decide), e1, gup_at], by rw [e2, gup_at], fun l hl => absurd hl (by omega), fun k hk => ?_⟩, ?_⟩
  · simp only [List.mem_cons, List.not_mem_nil, or_false, not_or] at hk
    rw [e2, gup_o hk.1, e1, gup_o hk.1]
  rintro v I3 ⟨i, hi, rfl, g0, g1, g2, g3⟩
  unfold w_X0_reset_12b
  refine ⟨fun q => ?_, fun q => ?_⟩
  · have hle := (nI_leI (a := 6) (b := i) (by omega) (by omega)).mp q
    obtain rfl : i = 6 := by omega
    exact h I3 g0 g1 g2 g3
  · have hlt : i < 6 := by
      rcases Nat.lt_or_ge i 6 with z | z
      · exact z
      · exact absurd ((nI_leI (a := 6) (b := i) (by omega) (by omega)).mpr z) q
    refine ⟨vp_in_nI hlt (by decide), ?_⟩
    rw [nI_clamp (by omega)]
    refine p_fillI (by decide) (fun I4 f1 f2 f3 => ?_)
    intro n6 e6
    rw [i_1, nI_add] at e6
    subst e6
    refine ⟨⟨i + 1, by omega, rfl, by rw [f1 40 (by omega)]; exact g0, by rw [f1 40 (by omega)]; exact g1, fun l hl j hj => ?_, fun k hk => ?_⟩, mu_lt hlt (by omega)⟩
    · by_cases e : l = i
      · subst e; exact f2 j hj
      · rw [f1 (42 + l) (by omega)]; exact g2 l (by omega) j hj
    · have hk' := hk
      simp only [List.mem_cons, List.not_mem_nil, or_false, not_or] at hk
      rw [f1 k (by omega)]; exact g3 k hk'
theorem q_letters {n a : Nat} {bl : Nat → Nat → Nat} {I : gI} (hR : RelL n a bl I) (a1 a2 : Int32) {Po : Int32 → Int32 → gI → Prop} (hbad : Po (-2) (-2) I)
    (hok : ∀ (n' a' : Nat) (I' : gI), RelL n' a' (fun _ _ => 0) I' → gSm [40, 42, 43, 44, 45, 46, 47, 200, 222] I I' → (∀ j, j ≠ 31 → j ≠ 32 → I' 200 j = I 200 j) → Po (nI n) (nI n) I') : wp_X9_letters a1 a2 I (fun r I1 => wp_X10_letters a1 a2 I1 (fun r2 I2 => Po r r2 I2)) := by
  obtain ⟨hn1, hn6, ha2, ha3, l0, m0, l1, m1, hb⟩ := hR
  unfold wp_X9_letters
  refine p_isBetween (fun b1 => ⟨fun q => absurd q one_ne, fun _ => ?_⟩) (fun b1 => ⟨fun _ => ?_, fun q => absurd rfl q⟩)
  · refine p_isBetween (fun b2 => ⟨fun _ => ?_, fun q => absurd q one_ne⟩) (fun b2 => ⟨fun q => absurd rfl q, fun _ => ?_⟩)
    · intro n5 e5
      rw [l0] at e5
      subst e5
      refine p_reset (fun I1 g0 g1 g2 g3 => ?_)
      show wp_X10_letters a1 a2 I1 (fun r2 I2 => Po (nI n) r2 I2)
      unfold wp_X10_letters
      refine p_isIn (fun _ => ⟨fun q => absurd q one_ne, fun _ => ?_⟩) (fun q => absurd b1 q)
      refine p_isIn (fun _ => ⟨fun _ => ?_, fun q => absurd q one_ne⟩) (fun q => absurd b2 q)
      intro n7 e7 I6 e6 I7 e8
      have f31 : I1 200 31 = nI n := by rw [g3 200 (by decide)]; exact m0
      rw [f31] at e7
      subst e7
      unfold w_X10_letters_40
      obtain ⟨n', q1, q2, rfl⟩ := inR_nI (lo := 1) (hi := 6) (by decide) (by decide) b1
      obtain ⟨a', q3, q4, rfl⟩ := inR_nI (lo := 2) (hi := 3) (by decide) (by decide) b2
      refine ⟨fun v I' => ∃ i : Nat, i ≤ 54 ∧ v = nI i ∧ (∀ k, k ≠ 222 → I' k = I7 k) ∧ ∀ j, j < i → I' 222 j = 0, fun v _ => 54 - v.toNatClampNeg, ⟨0, by omega, rfl, fun _ _ => rfl, fun j hj => absurd hj (by omega)⟩, ?_⟩
      rintro v I8 ⟨i, hi, rfl, h1, h2⟩
      unfold w_X10_letters_40b
      refine ⟨fun q => ?_, fun q => ?_⟩
      · have hle := (nI_leI (a := 54) (b := i) (by omega) (by omega)).mp q
        obtain rfl : i = 54 := by omega
        have o7 : ∀ k, k ≠ 200 → I7 k = I1 k := fun k hk => by rw [e8, gup_o hk, e6, gup_o hk]
        refine hok n' a' I8 ⟨q1, q2, q3, q4, ?_, ?_, ?_, ?_, fun l hl j hj => ⟨show 0 < n' by omega, ?_, ?_⟩⟩ (fun k hk => ?_) (fun j j1 j2 => ?_)
        · rw [h1 40 (by decide), o7 40 (by decide)]; exact g0
        · rw [h1 200 (by decide), e8, gup_ne (by decide), e6, gup_at]
        · rw [h1 40 (by decide), o7 40 (by decide)]; exact g1
        · rw [h1 200 (by decide), e8, gup_at]
        · rw [h1 (42 + l) (by omega), o7 (42 + l) (by omega)]; exact g2 l hl j hj
        · exact h2 (9 * l + j) (by omega)
        · simp only [List.mem_cons, List.not_mem_nil, or_false, not_or] at hk
          rw [h1 k (by omega), o7 k (by omega), g3 k (by simp only [List.mem_cons, List.not_mem_nil, or_false]; omega)]
        · rw [h1 200 (by decide), e8, gup_ne j2, e6, gup_ne j1, g3 200 (by decide)]
      · have hlt : i < 54 := by
          rcases Nat.lt_or_ge i 54 with z | z
          · exact z
          · exact absurd ((nI_leI (a := 54) (b := i) (by omega) (by omega)).mpr z) q
        refine ⟨vp_in_nI hlt (by decide), ?_⟩
        intro I10 e10 n11 e11
        rw [nI_clamp (by omega)] at e10
        rw [i_1, nI_add] at e11
        subst e10 e11
        refine ⟨⟨i + 1, by omega, rfl, fun k hk => by rw [gup_o hk]; exact h1 k hk, fun j hj => ?_⟩, mu_lt hlt (by omega)⟩
        by_cases e : j = i
        · subst e; exact gup_at
        · rw [gup_ne e]; exact h2 j (by omega)
    · show wp_X10_letters a1 a2 I (fun r2 I2 => Po (-2) r2 I2)
      unfold wp_X10_letters
      refine p_isIn (fun _ => ⟨fun q => absurd q one_ne, fun _ => ?_⟩) (fun q => absurd b1 q)
      exact p_isIn (fun q => absurd q b2) (fun _ => ⟨fun q => absurd rfl q, fun _ => hbad⟩)
  · show wp_X10_letters a1 a2 I (fun r2 I2 => Po (-2) r2 I2)
    unfold wp_X10_letters
    exact p_isIn (fun q => absurd q b1) (fun _ => ⟨fun _ => hbad, fun q => absurd rfl q⟩)
