/-! CORNERS: corner, uncorner -/
theorem b_1 (i : Nat) : bt 1 i = decide (i = 0) := by
  rcases Nat.lt_or_ge i 32 with h | h
  · exact (by decide +kernel : ∀ i, i < 32 → bt 1 i = decide (i = 0)) i h
  · rw [b_big h, decide_eq_false (by omega)]
theorem bit_test (x : Int32) {s : Nat} (hs : s < 32) : ((x >>> (nI s &&& 31)) &&& 1 = 0) ↔ bt x s = false := by
  constructor
  · intro h
    have h0 : bt ((x >>> (nI s &&& 31)) &&& 1) 0 = bt 0 0 := by rw [h]
    rw [b_and, b_sshr s hs x (by omega), b_1, b_0] at h0
    simpa [hs] using h0
  · intro h
    apply b_ext
    intro i hi
    rw [b_and, b_sshr s hs x hi, b_1, b_0]
    by_cases e : i = 0
    · subst e; simp [hs, h]
    · simp [e]
theorem bit_one {s : Nat} (hs : s < 32) {i : Nat} (hi : i < 32) : bt ((1 : Int32) <<< (nI s &&& 31)) i = decide (i = s) := by
  rw [b_shl s hs 1 hi, b_1]
  by_cases e : i = s
  · subst e; simp
  · rcases Nat.lt_or_ge i s with h | h
    · simp [e, Nat.not_le.mpr h]
    · simp [e, h]; omega
theorem bit_set (x : Int32) {s : Nat} (hs : s < 32) {i : Nat} (hi : i < 32) : bt (x ||| ((1 : Int32) <<< (nI s &&& 31))) i = (bt x i || decide (i = s)) := by rw [b_or, bit_one hs hi]
theorem bit_clr (x : Int32) {s : Nat} (hs : s < 32) {i : Nat} (hi : i < 32) : bt (x &&& (((1 : Int32) <<< (nI s &&& 31)) ^^^ (-1))) i = (bt x i && !decide (i = s)) := by rw [b_and, b_xor, bit_one hs hi, b_m1 i hi]; simp
def RelC (n : Nat) (sz : Nat → Nat) (t : Nat) (I : gI) : Prop := n ≤ 6 ∧ I 60 0 = nI n ∧ I 200 41 = nI n ∧ 1 ≤ t ∧ t ≤ 18 ∧ I 60 1 = nI t ∧ I 200 40 = nI t ∧ (∀ j, j < n → 1 ≤ sz j ∧ sz j ≤ 18 ∧ I 62 j = nI (sz j) ∧ I 229 j = nI (sz j)) ∧ (∀ i j, i < n → j < n → sz i = sz j → i = j) ∧ ∀ s, s < 32 → (bt (I 60 5) s = true ↔ ∃ j, j < n ∧ sz j = s)
theorem q_corner {n t : Nat} {sz : Nat → Nat} {I : gI} (hR : RelC n sz t I) (a : Int32) {Po : Int32 → Int32 → gI → Prop} (hbad : Po (-2) (-2) I) (hth : Po (-4) (-4) I) (hfull : Po (-3) (-3) I)
    (hok : ∀ (sz' : Nat → Nat) (I' : gI), n < 6 → RelC (n + 1) sz' t I' → gSm [60, 62, 200, 229] I I' → (∀ j, j ≠ 41 → I' 200 j = I 200 j) → Po (nI (n + 1)) (nI (n + 1)) I') : wp_X9_corner a I (fun r I1 => wp_X10_corner a I1 (fun r2 I2 => Po r r2 I2)) := by
  obtain ⟨hn, c0, k0, t1, t18, ct, kt, hs, hinj, hbit⟩ := hR
  unfold wp_X9_corner
  refine p_isBetween (fun b => ⟨fun _ => ?_, fun q => absurd q one_ne⟩) (fun b => ⟨fun q => absurd rfl q, fun _ => ?_⟩)
  · obtain ⟨z, hz1, hz2, rfl⟩ := inR_nI (lo := 1) (hi := 18) (by decide) (by decide) b
    -- the model, from any state that has the model's corners
    have mod : ∀ {r : Int32} {I1 : gI}, I1 200 41 = nI n → (∀ j, j < n → I1 229 j = nI (sz j)) → ((∃ j, j < n ∧ sz j = z) → Po r (-4) I1) → ((∀ j, j < n → sz j ≠ z) → n = 6 → Po r (-3) I1) → ((∀ j, j < n → sz j ≠ z) → n < 6 → Po r (nI (n + 1)) (gup (gup I1 229 n (nI z)) 200 41 (nI (n + 1)))) → wp_X10_corner (nI z) I1 (fun r2 I2 => Po r r2 I2) := by
      intro r I1 e41 e229 ha hf hg
      unfold wp_X10_corner
      refine p_isIn (fun _ => ⟨fun _ => ?_, fun q => absurd q one_ne⟩) (fun q => absurd b q)
      unfold w_X10_corner_15
      refine ⟨fun v => ∃ i : Nat, i ≤ n ∧ v = nI i ∧ ∀ j, j < i → sz j ≠ z, fun v => n - v.toNatClampNeg, ⟨0, by omega, rfl, fun j hj => absurd hj (by omega)⟩, ?_⟩
      rintro v ⟨i, hi, rfl, hne⟩
      unfold w_X10_corner_15b
      rw [e41]
      refine ⟨fun q => ?_, fun q => ?_⟩
      · have hle := (nI_leI (a := n) (b := i) (by omega) (by omega)).mp q
        obtain rfl : i = n := by omega
        refine ⟨fun q2 => ?_, fun q2 => ?_⟩
        · have h6 : i < 6 := by
            rcases Nat.lt_or_ge i 6 with w | w
            · exact w
            · exact absurd (by rw [show i = 6 by omega]; rfl) q2
          refine ⟨vp_in_nI h6 (by decide), ?_⟩
          rw [nI_clamp (by omega)]
          intro I6 e6 I7 e7
          have f6 : I6 200 41 = nI i := by rw [e6, gup_o (by decide)]; exact e41
          rw [f6, i_1, nI_add] at e7
          have f7 : I7 200 41 = nI (i + 1) := by rw [e7, gup_at]
          rw [f7, e7, e6]
          exact hg hne h6
        · exact hf hne ((nI_eq (by omega) (by decide)).mp q2)
      · have hlt := lt_of_nle (a := n) (b := i) (by omega) (by omega) q
        refine ⟨vp_in_nI (by omega) (by decide), ?_⟩
        rw [nI_clamp (by omega), e229 i hlt]
        have hsi := hs i hlt
        refine ⟨fun q2 => ?_, fun q2 => ?_⟩
        · intro n10 e10
          rw [i_1, nI_add] at e10
          subst e10
          refine ⟨⟨i + 1, by omega, rfl, fun j hj => ?_⟩, mu_lt hlt (by omega)⟩
          by_cases e : j = i
          · subst e; exact fun w => q2 (by rw [w])
          · exact hne j (by omega)
        · exact ha ⟨i, hlt, (nI_eq (by omega) (by omega)).mp q2⟩
    unfold wp_X1_has
    refine ⟨fun q => ?_, fun q => ?_⟩
    · have hno : ∀ j, j < n → sz j ≠ z := fun j hj e => by
        have h1 := (bit_test (I 60 5) (s := z) (by omega)).mp q
        have h2 := (hbit z (by omega)).mpr ⟨j, hj, e⟩
        rw [h1] at h2
        cases h2
      refine ⟨fun _ => ?_, fun w => absurd rfl w⟩
      rw [c0]
      refine ⟨fun q2 => ?_, fun q2 => ?_⟩
      · have h6 := (nI_ltI (a := n) (b := 6) (by omega) (by decide)).mp q2
        unfold wp_X1_add
        rw [c0]
        refine ⟨vp_in_nI h6 (by decide), ?_⟩
        rw [nI_clamp (by omega)]
        intro I2 e2 I3 e3 I4 e4
        have f2 : I2 60 5 = I 60 5 := by rw [e2, gup_o (by decide)]
        rw [f2] at e3
        have f3 : I3 60 0 = nI n := by rw [e3, gup_ne (by decide), e2, gup_o (by decide)]; exact c0
        rw [f3, i_1, nI_add] at e4
        have f4 : I4 60 0 = nI (n + 1) := by rw [e4, gup_at]
        rw [f4]
        have o4 : ∀ k, k ≠ 60 → k ≠ 62 → I4 k = I k := fun k h1 h2 => by rw [e4, gup_o h1, e3, gup_o h1, e2, gup_o h2]
        refine mod (by rw [o4 200 (by decide) (by decide)]; exact k0) (fun j hj => by rw [o4 229 (by decide) (by decide)]; exact (hs j hj).2.2.2) (fun ⟨j, hj, e⟩ => absurd e (hno j hj)) (fun _ h => absurd h (by omega)) (fun _ _ => ?_)
        refine hok (fun j => if j = n then z else sz j) _ h6 ⟨by omega, ?_, by rw [gup_at], t1, t18, ?_, ?_, fun j hj => ?_, fun i j hi hj e => ?_, fun s hs32 => ?_⟩ (fun k hk => ?_) (fun j hj => ?_)
        · rw [gup_o (by decide), gup_o (by decide)]; exact f4
        · rw [gup_o (by decide), gup_o (by decide), e4, gup_ne (by decide), e3, gup_ne (by decide), e2, gup_o (by decide)]; exact ct
        · rw [gup_ne (by decide), gup_o (by decide), o4 200 (by decide) (by decide)]; exact kt
        · by_cases e : j = n
          · subst e
            refine ⟨by simp; omega, by simp; omega, ?_, ?_⟩
            · rw [gup_o (by decide), gup_o (by decide), e4, gup_o (by decide), e3, gup_o (by decide), e2, gup_at]; simp
            · rw [gup_o (by decide), gup_at]; simp
          · have hh := hs j (by omega)
            refine ⟨by simp [e]; exact hh.1, by simp [e]; exact hh.2.1, ?_, ?_⟩
            · rw [gup_o (by decide), gup_o (by decide), e4, gup_o (by decide), e3, gup_o (by decide), e2, gup_ne e]; simp [e]; exact hh.2.2.1
            · rw [gup_o (by decide), gup_ne e, o4 229 (by decide) (by decide)]; simp [e]; exact hh.2.2.2
        · by_cases ei : i = n
          · by_cases ej : j = n
            · omega
            · simp [ei, ej] at e
              exact absurd e.symm (hno j (by omega))
          · by_cases ej : j = n
            · simp [ei, ej] at e
              exact absurd e (hno i (by omega))
            · simp [ei, ej] at e
              exact hinj i j (by omega) (by omega) e
        · rw [gup_o (by decide), gup_o (by decide), e4, gup_ne (by decide), e3, gup_at, bit_set _ (by omega) hs32, Bool.or_eq_true, hbit s hs32, decide_eq_true_eq]
          constructor
          · rintro (⟨j, hj, e⟩ | e)
            · exact ⟨j, by omega, (if_neg (by omega) : (if j = n then z else sz j) = sz j).trans e⟩
            · exact ⟨n, by omega, (if_pos rfl : (if n = n then z else sz n) = z).trans e.symm⟩
          · rintro ⟨j, hj, e⟩
            by_cases ej : j = n
            · exact Or.inr (((if_pos ej : (if j = n then z else sz j) = z).symm.trans e).symm)
            · exact Or.inl ⟨j, by omega, (if_neg ej : (if j = n then z else sz j) = sz j).symm.trans e⟩
        · simp only [List.mem_cons, List.not_mem_nil, or_false, not_or] at hk
          rw [gup_o hk.2.2.1, gup_o hk.2.2.2, o4 k hk.1 hk.2.1]
        · rw [gup_ne hj, gup_o (by decide), o4 200 (by decide) (by decide)]
      · have h6 : n = 6 := by
          rcases Nat.lt_or_ge n 6 with w | w
          · exact absurd ((nI_ltI (a := n) (b := 6) (by omega) (by decide)).mpr w) q2
          · omega
        exact mod k0 (fun j hj => (hs j hj).2.2.2) (fun ⟨j, hj, e⟩ => absurd e (hno j hj)) (fun _ _ => hfull) (fun _ h => absurd h (by omega))
    · have hyes : ∃ j, j < n ∧ sz j = z := by
        refine (hbit z (by omega)).mp ?_
        cases hbt : bt (I 60 5) z with
        | true => rfl
        | false => exact absurd ((bit_test (I 60 5) (s := z) (by omega)).mpr hbt) q
      refine ⟨fun w => absurd w one_ne, fun _ => ?_⟩
      exact mod k0 (fun j hj => (hs j hj).2.2.2) (fun _ => hth) (fun h => absurd hyes (fun ⟨j, hj, e⟩ => h j hj e)) (fun h => absurd hyes (fun ⟨j, hj, e⟩ => h j hj e))
  · show wp_X10_corner a I (fun r2 I2 => Po (-2) r2 I2)
    unfold wp_X10_corner
    exact p_isIn (fun q => absurd q b) (fun _ => ⟨fun q => absurd rfl q, fun _ => hbad⟩)
theorem q_uncorner {n t : Nat} {sz : Nat → Nat} {I : gI} (hR : RelC n sz t I) {Po : Int32 → Int32 → gI → Prop} (h0 : Po (-1) (-1) I)
    (hok : ∀ I' : gI, 0 < n → RelC (n - 1) sz t I' → gSm [60, 200] I I' → (∀ j, j ≠ 41 → I' 200 j = I 200 j) → Po (nI (n - 1)) (nI (n - 1)) I') : wp_X9_uncorner I (fun r I1 => wp_X10_uncorner I1 (fun r2 I2 => Po r r2 I2)) := by
  obtain ⟨hn, c0, k0, t1, t18, ct, kt, hs, hinj, hbit⟩ := hR
  unfold wp_X9_uncorner
  rw [c0]
  refine ⟨fun q => ?_, fun q => ?_⟩
  · have hn0 : 0 < n := by
      rcases Nat.eq_zero_or_pos n with h | h
      · exact absurd (by rw [h]; rfl) q
      · exact h
    have hl := hs (n - 1) (by omega)
    unfold wp_X1_dropLast
    intro I1 e1
    rw [c0, i_1, pk_sub (by omega)] at e1
    have f1 : I1 60 0 = nI (n - 1) := by rw [e1, gup_at]
    have f2 : I1 62 (n - 1) = nI (sz (n - 1)) := by rw [e1, gup_o (by decide)]; exact hl.2.2.1
    have f3 : I1 60 5 = I 60 5 := by rw [e1, gup_ne (by decide)]
    rw [f1]
    refine ⟨vp_in_nI (by omega) (by decide), ?_⟩
    rw [nI_clamp (by omega), f2, f3]
    intro I3 e3
    have g1 : I3 60 0 = nI (n - 1) := by rw [e3, gup_ne (by decide)]; exact f1
    have g2 : I3 200 41 = nI n := by rw [e3, gup_o (by decide), e1, gup_o (by decide)]; exact k0
    rw [g1]
    show wp_X10_uncorner I3 (fun r2 I2 => Po (nI (n - 1)) r2 I2)
    unfold wp_X10_uncorner
    rw [g2]
    refine ⟨fun _ => ?_, fun w => absurd w q⟩
    intro I2 e2
    rw [i_1, pk_sub (by omega)] at e2
    have g3 : I2 200 41 = nI (n - 1) := by rw [e2, gup_at]
    rw [g3]
    have o2 : ∀ k, k ≠ 60 → k ≠ 200 → I2 k = I k := fun k h1 h2 => by rw [e2, gup_o h2, e3, gup_o h1, e1, gup_o h1]
    refine hok I2 hn0 ⟨by omega, ?_, g3, t1, t18, ?_, ?_, fun j hj => ?_, fun i j hi hj => hinj i j (by omega) (by omega), fun s hs32 => ?_⟩ (fun k hk => ?_) (fun j hj => ?_)
    · rw [e2, gup_o (by decide)]; exact g1
    · rw [e2, gup_o (by decide), e3, gup_ne (by decide), e1, gup_ne (by decide)]; exact ct
    · rw [e2, gup_ne (by decide), e3, gup_o (by decide), e1, gup_o (by decide)]; exact kt
    · have hh := hs j (by omega)
      rw [o2 62 (by decide) (by decide), o2 229 (by decide) (by decide)]
      exact hh
    · rw [e2, gup_o (by decide), e3, gup_at, bit_clr _ (by omega) hs32, Bool.and_eq_true, hbit s hs32]
      constructor
      · rintro ⟨⟨j, hj, e⟩, h⟩
        refine ⟨j, ?_, e⟩
        rcases Nat.lt_or_ge j (n - 1) with w | w
        · exact w
        · exfalso
          obtain rfl : j = n - 1 := by omega
          simp [e] at h
      · rintro ⟨j, hj, e⟩
        refine ⟨⟨j, by omega, e⟩, ?_⟩
        have : s ≠ sz (n - 1) := fun w => absurd (hinj j (n - 1) (by omega) (by omega) (by rw [e, w])) (by omega)
        simp [this]
    · simp only [List.mem_cons, List.not_mem_nil, or_false, not_or] at hk
      exact o2 k hk.1 hk.2
    · rw [e2, gup_ne hj, e3, gup_o (by decide), e1, gup_o (by decide)]
  · show wp_X10_uncorner I (fun r2 I2 => Po (-1) r2 I2)
    unfold wp_X10_uncorner
    rw [k0]
    exact ⟨fun z => absurd q z, fun _ => h0⟩
