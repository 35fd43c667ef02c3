/-! the class: a shelf of rows sorted by a code -/
def pcd (has : Nat → Bool) (cf : Nat → Nat) (c r : Nat) : Bool := has r && decide (cf r = c)
def bsd (has : Nat → Bool) (cf : Nat → Nat) (m c : Nat) : Nat := cN (fun r => has r && decide (cf r < c)) m
theorem bsd_0 {has : Nat → Bool} {cf : Nat → Nat} {m : Nat} : bsd has cf m 0 = 0 := cN_zero (fun r _ => by rw [decide_eq_false (Nat.not_lt_zero _), Bool.and_false])
theorem bsd_s {has : Nat → Bool} {cf : Nat → Nat} {m c : Nat} : bsd has cf m (c + 1) = bsd has cf m c + cN (pcd has cf c) m := by
  refine cN_split (fun r _ => ?_) (fun r _ => ?_)
  · unfold pcd
    cases has r with
    | false => rfl
    | true =>
      rw [Bool.true_and, Bool.true_and, Bool.true_and, Bool.eq_iff_iff, Bool.or_eq_true, decide_eq_true_eq, decide_eq_true_eq, decide_eq_true_eq]
      omega
  · unfold pcd
    cases has r with
    | false => rfl
    | true =>
      rw [Bool.true_and, Bool.true_and]
      by_cases e : cf r = c
      · rw [decide_eq_false (show ¬ cf r < c by omega), Bool.false_and]
      · rw [decide_eq_false e, Bool.and_false]
theorem bsd_le {has : Nat → Bool} {cf : Nat → Nat} {m c : Nat} : bsd has cf m c ≤ m := cN_le _ _
theorem bsd_m {has : Nat → Bool} {cf : Nat → Nat} {m a b : Nat} (h : a ≤ b) : bsd has cf m a ≤ bsd has cf m b := cN_mono (fun r _ hr => by
  rw [Bool.and_eq_true, decide_eq_true_eq] at hr ⊢
  exact ⟨hr.1, by omega⟩)
theorem pcd_t {has : Nat → Bool} {cf : Nat → Nat} {c r : Nat} : pcd has cf c r = true ↔ has r = true ∧ cf r = c := by
  unfold pcd; rw [Bool.and_eq_true, decide_eq_true_eq]
/-- where row r stands -/
def psd (has : Nat → Bool) (cf : Nat → Nat) (m r : Nat) : Nat := bsd has cf m (cf r) + cN (pcd has cf (cf r)) r
theorem psd_b {has : Nat → Bool} {cf : Nat → Nat} {m r : Nat} (hr : r < m) (hh : has r = true) : psd has cf m r < bsd has cf m (cf r + 1) := by
  have := cN_ms (p := pcd has cf (cf r)) hr (pcd_t.mpr ⟨hh, rfl⟩)
  rw [bsd_s]
  unfold psd
  omega
theorem psd_inj {has : Nat → Bool} {cf : Nat → Nat} {m r r' : Nat} (hr : r < m) (hr' : r' < m) (hh : has r = true) (hh' : has r' = true) (e : psd has cf m r = psd has cf m r') : r = r' := by
  have b1 := psd_b hr hh (cf := cf)
  have b2 := psd_b hr' hh' (cf := cf)
  have l1 : bsd has cf m (cf r) ≤ psd has cf m r := Nat.le_add_right _ _
  have l2 : bsd has cf m (cf r') ≤ psd has cf m r' := Nat.le_add_right _ _
  rcases Nat.lt_trichotomy (cf r) (cf r') with z | z | z
  · have := bsd_m (has := has) (cf := cf) (m := m) (show cf r + 1 ≤ cf r' by omega); omega
  · unfold psd at e
    rw [z] at e
    exact cN_inj (p := pcd has cf (cf r')) (pcd_t.mpr ⟨hh, z⟩) (pcd_t.mpr ⟨hh', rfl⟩) (by omega)
  · have := bsd_m (has := has) (cf := cf) (m := m) (show cf r' + 1 ≤ cf r by omega); omega
def Shl (b : Nat) (has : Nat → Bool) (cf : Nat → Nat) (m C : Nat) (I : gI) : Prop := (∀ c, c ≤ C → I (76 + 3 * b) c = nI (bsd has cf m c)) ∧ ∀ r, r < m → has r = true → I (77 + 3 * b) (psd has cf m r) = nI r
theorem p_sort {b room m C : Nat} (hb : b < 2) (hr : room < 2147483647) (hm : m ≤ room) (hC : C ≤ room) {has : Nat → Bool} {cf : Nat → Nat} {I : gI} (hcode : ∀ r, r < m → (has r = true → I (73 + b) r = nI (cf r) ∧ cf r < C) ∧ (has r = false → I (73 + b) r = -1)) {Po : gI → Prop} (hk : ∀ I', gSm [76 + 3 * b, 77 + 3 * b] I I' → Shl b has cf m C I' → Po I') : wp_X6_sort b room (nI m) (nI C) I Po := by
  have nin : ∀ k, k ≠ 76 + 3 * b → k ≠ 77 + 3 * b → k ∉ [76 + 3 * b, 77 + 3 * b] := fun k h1 h2 => by simp only [List.mem_cons, List.not_mem_nil, or_false]; omega
  have i76 : 76 + 3 * b ∈ [76 + 3 * b, 77 + 3 * b] := by simp
  have i77 : 77 + 3 * b ∈ [76 + 3 * b, 77 + 3 * b] := by simp
  have cde : ∀ I' : gI, gSm [76 + 3 * b, 77 + 3 * b] I I' → I' (73 + b) = I (73 + b) := fun I' g => g _ (nin _ (by omega) (by omega))
  unfold wp_X6_sort w_X6_sort_3
  refine gl2 (N := C) (i0 := 0) (fun K v I => w_X6_sort_3b b room Po K (nI m) (nI C) v I) (fun c I' => gSm [76 + 3 * b, 77 + 3 * b] I I' ∧ ∀ c', c' < c → I' (76 + 3 * b) c' = 0) (by omega) (by omega) ⟨gSm_r I, fun c' h => absurd h (by omega)⟩ ?_
  rintro c I1 hc ⟨g1, g2⟩ K kk
  unfold w_X6_sort_3b
  refine pk_le C c (fun hz => ?_) (fun hz => ?_) rfl rfl
  · obtain rfl : c = C := by omega
    unfold w_X6_sort_26
    refine gl2 (N := m) (i0 := 0) (fun K v I => w_X6_sort_26b b room Po K (nI m) (nI c) v I) (fun r I' => gSm [76 + 3 * b, 77 + 3 * b] I I' ∧ ∀ c', c' < c → I' (76 + 3 * b) c' = nI (cN (pcd has cf c') r)) (by omega) (by omega) ⟨g1, fun c' h => g2 c' h⟩ ?_
    rintro r I2 hr2 ⟨g3, g4⟩ K2 kk2
    unfold w_X6_sort_26b
    refine pk_le m r (fun hz2 => ?_) (fun hz2 => ?_) rfl rfl
    · obtain rfl : r = m := by omega
      unfold w_X6_sort_65
      refine gl3b (N := c) (i0 := 0) (fun K a v I => w_X6_sort_65b b room Po K (nI r) (nI c) a v I) (fun k a I' => a = nI (bsd has cf r k) ∧ gSm [76 + 3 * b, 77 + 3 * b] I I' ∧ (∀ c', c' < k → I' (76 + 3 * b) c' = nI (bsd has cf r (c' + 1))) ∧ ∀ c', k ≤ c' → c' < c → I' (76 + 3 * b) c' = nI (cN (pcd has cf c') r)) (by omega) (by omega) ⟨by rw [bsd_0]; rfl, g3, fun c' h => absurd h (by omega), fun c' _ h => g4 c' h⟩ ?_
      rintro k a I3 hk3 ⟨rfl, g5, g6, g7⟩ K3 kk3
      unfold w_X6_sort_65b
      refine pk_le c k (fun hz3 => ?_) (fun hz3 => ?_) rfl rfl
      · obtain rfl : k = c := by omega
        refine ⟨vp_in_nI (by omega) (by omega), ?_⟩
        rw [nI_clamp (by omega)]
        intro I5 e5 n6 e6
        have s5 : gSm [76 + 3 * b, 77 + 3 * b] I I5 := by rw [e5]; exact gSm_u g5 i76
        rw [Int32.sub_eq_add_neg] at e6
        subst e6
        unfold w_X6_sort_111
        refine gr2 (m0 := r) (fun K v I => w_X6_sort_111b b room Po K v I) (fun q v I' => v = nI q + (-1) ∧ q ≤ r ∧ gSm [76 + 3 * b, 77 + 3 * b] I I' ∧ I' (76 + 3 * b) k = nI (bsd has cf r k) ∧ (∀ c', c' < k → I' (76 + 3 * b) c' = nI (bsd has cf r c' + cN (pcd has cf c') q)) ∧ ∀ r', q ≤ r' → r' < r → has r' = true → I' (77 + 3 * b) (psd has cf r r') = nI r') ⟨rfl, Nat.le_refl _, s5, by rw [e5, gup_at], fun c' h => by rw [e5, gup_ne (by omega), g6 c' h, bsd_s], fun r' h1 h2 => by omega⟩ ?_
        rintro q v I6 ⟨rfl, hq, o1, o2, o3, o4⟩ K4 kk4
        unfold w_X6_sort_111b
        cases q with
        | zero =>
          refine ⟨fun _ => hk I6 o1 ⟨fun c' hc' => ?_, fun r' h1 h2 => o4 r' (Nat.zero_le _) h1 h2⟩, fun z => absurd (by decide) z⟩
          rcases Nat.lt_or_ge c' k with z | z
          · rw [o3 c' z]; rfl
          · rw [show c' = k by omega]; exact o2
        | succ q =>
          rw [pk_m1]
          have hneg : ¬ nI q < 0 := fun z => absurd ((nI_ltI (b := 0) (by omega) (by decide)).mp z) (by omega)
          refine ⟨fun z => absurd z hneg, fun _ => ?_⟩
          have hcq := hcode q (by omega)
          rw [nI_clamp (n := q) (by omega), cde I6 o1]
          refine ⟨vp_in_nI (by omega) (by omega), fun q1 => ?_, fun q1 => ?_⟩
          · have hh : has q = false := by
              cases e : has q with
              | false => rfl
              | true =>
                have := hcq.1 e
                rw [this.1] at q1
                exact absurd q1 (nI_m1 (by omega))
            unfold w_X6_sort_153
            intro n10 e10
            refine kk4 q _ _ (by omega) ⟨e10, by omega, o1, o2, fun c' h => ?_, fun r' h1 h2 h3 => ?_⟩
            · rw [o3 c' h]
              show nI (bsd has cf r c' + (cN (pcd has cf c') q + (if pcd has cf c' q = true then 1 else 0))) = _
              rw [if_neg (fun z => by rw [(pcd_t.mp z).1] at hh; exact absurd hh (by decide)), Nat.add_zero]
            · refine o4 r' ?_ h2 h3
              rcases Nat.lt_or_ge q r' with z | z
              · exact z
              · rw [show r' = q by omega, hh] at h3; exact absurd h3 (by decide)
          · have hh : has q = true := by
              cases e : has q with
              | true => rfl
              | false => exact absurd (hcq.2 e) q1
            obtain ⟨c1, c2⟩ := hcq.1 hh
            have hpb := psd_b (cf := cf) (show q < r by omega) hh
            have hbl := bsd_le (has := has) (cf := cf) (m := r) (c := cf q + 1)
            have es : I6 (76 + 3 * b) (cf q) = nI (psd has cf r q + 1) := by
              rw [o3 _ c2]
              show nI (bsd has cf r (cf q) + (cN (pcd has cf (cf q)) q + (if pcd has cf (cf q) q = true then 1 else 0))) = _
              rw [if_pos (pcd_t.mpr ⟨hh, rfl⟩), ← Nat.add_assoc]; rfl
            rw [c1, nI_clamp (n := cf q) (by omega), es, i_1, pk_sub (by omega), Nat.add_sub_cancel]
            refine ⟨vp_in_nI (by omega) (by omega), vp_in_nI (by omega) (by omega), vp_in_nI (by omega) (by omega), ?_⟩
            intro I14 e14
            have s14 : gSm [76 + 3 * b, 77 + 3 * b] I I14 := by rw [e14]; exact gSm_u o1 i76
            have x14 : I14 (76 + 3 * b) (cf q) = nI (psd has cf r q) := by rw [e14, gup_at]
            rw [cde I14 s14, c1, nI_clamp (n := cf q) (by omega), x14, nI_clamp (n := psd has cf r q) (by omega)]
            refine ⟨vp_in_nI (by omega) (by omega), vp_in_nI (by omega) (by omega), vp_in_nI (by omega) (by omega), ?_⟩
            intro I18 e18
            have x76 : I18 (76 + 3 * b) = I14 (76 + 3 * b) := by rw [e18, gup_o (by omega)]
            have x77 : I14 (77 + 3 * b) = I6 (77 + 3 * b) := by rw [e14, gup_o (by omega)]
            unfold w_X6_sort_153
            intro n10 e10
            refine kk4 q _ _ (by omega) ⟨e10, by omega, by rw [e18]; exact gSm_u s14 i77, by rw [x76, e14, gup_ne (by omega)]; exact o2, fun c' h => ?_, fun r' h1 h2 h3 => ?_⟩
            · rw [x76]
              by_cases e : c' = cf q
              · rw [e, x14]; rfl
              · rw [e14, gup_ne e, o3 c' h]
                show nI (bsd has cf r c' + (cN (pcd has cf c') q + (if pcd has cf c' q = true then 1 else 0))) = _
                rw [if_neg (fun z => e (pcd_t.mp z).2.symm), Nat.add_zero]
            · by_cases e : r' = q
              · subst e; rw [e18, gup_at]
              · rw [e18, gup_ne (fun z => e (psd_inj (by omega) (by omega) h3 hh z)), x77]
                exact o4 r' (by omega) h2 h3
      · refine ⟨vp_in_nI (by omega) (by omega), ?_⟩
        have hbl := bsd_le (has := has) (cf := cf) (m := r) (c := k + 1)
        rw [nI_clamp (by omega), g7 k (Nat.le_refl _) hz3, nI_add, ← bsd_s]
        intro n20 e20
        subst e20
        refine ⟨vp_in_nI (by omega) (by omega), ?_⟩
        intro I22 e22 n23 e23
        rw [nI_1] at e23
        subst e23
        refine kk3 hz3 _ I22 ⟨rfl, by rw [e22]; exact gSm_u g5 i76, fun c' h => ?_, fun c' h1 h2 => ?_⟩
        · by_cases e : c' = k
          · subst e; rw [e22, gup_at]
          · rw [e22, gup_ne e]; exact g6 c' (by omega)
        · rw [e22, gup_ne (by omega)]; exact g7 c' (by omega) h2
    · have hcq := hcode r hz2
      rw [nI_clamp (n := r) (by omega), cde I2 g3]
      refine ⟨vp_in_nI (by omega) (by omega), fun q1 => ?_, fun q1 => ?_⟩
      · have hh : has r = false := by
          cases e : has r with
          | false => rfl
          | true =>
            have := hcq.1 e
            rw [this.1] at q1
            exact absurd q1 (nI_m1 (by omega))
        unfold w_X6_sort_53
        intro n26 e26
        rw [nI_1] at e26
        subst e26
        refine kk2 hz2 I2 ⟨g3, fun c' h => ?_⟩
        rw [g4 c' h]
        show _ = nI (cN (pcd has cf c') r + (if pcd has cf c' r = true then 1 else 0))
        rw [if_neg (fun z => by rw [(pcd_t.mp z).1] at hh; exact absurd hh (by decide)), Nat.add_zero]
      · have hh : has r = true := by
          cases e : has r with
          | true => rfl
          | false => exact absurd (hcq.2 e) q1
        obtain ⟨c1, c2⟩ := hcq.1 hh
        rw [c1, nI_clamp (n := cf r) (by omega), g4 _ c2, nI_1]
        refine ⟨vp_in_nI (by omega) (by omega), vp_in_nI (by omega) (by omega), vp_in_nI (by omega) (by omega), ?_⟩
        intro I30 e30
        unfold w_X6_sort_53
        intro n26 e26
        rw [nI_1] at e26
        subst e26
        refine kk2 hz2 I30 ⟨by rw [e30]; exact gSm_u g3 i76, fun c' h => ?_⟩
        show _ = nI (cN (pcd has cf c') r + (if pcd has cf c' r = true then 1 else 0))
        by_cases e : c' = cf r
        · rw [e, e30, gup_at, if_pos (pcd_t.mpr ⟨hh, rfl⟩)]
        · rw [e30, gup_ne e, if_neg (fun z => e (pcd_t.mp z).2.symm), Nat.add_zero]
          exact g4 c' h
  · refine ⟨vp_in_nI (by omega) (by omega), ?_⟩
    rw [nI_clamp (by omega)]
    intro I32 e32 n33 e33
    rw [nI_1] at e33
    subst e33
    refine kk hz I32 ⟨by rw [e32]; exact gSm_u g1 i76, fun c' h => ?_⟩
    by_cases e : c' = c
    · subst e; rw [e32, gup_at]
    · rw [e32, gup_ne e]; exact g2 c' (by omega)
