/-! rounds, round: side by side -/
noncomputable def cSet (n : Nat) (sz : Nat → Nat) (s : Nat) : Bool := @decide (∃ j, j < n ∧ sz j = s) (Classical.propDecidable _)
theorem cSet_t {n : Nat} {sz : Nat → Nat} {s : Nat} : cSet n sz s = true ↔ ∃ j, j < n ∧ sz j = s := @decide_eq_true_iff _ (Classical.propDecidable _)
/-- what rounds and round leave -/
def rKp (I I' : gI) : Prop := gSm [60, 61, 200, 230] I I' ∧ (∀ j, j ≠ 2 → j ≠ 6 → j ≠ 7 → j ≠ 8 → I' 60 j = I 60 j) ∧ ∀ j, j ≠ 44 → I' 200 j = I 200 j
theorem RelC_k {n t : Nat} {sz : Nat → Nat} {I I' : gI} (hR : RelC n sz t I) (h : rKp I I') : RelC n sz t I' := by
  obtain ⟨hn, c0, k0, t1, t18, ct, kt, hs, hinj, hbit⟩ := hR
  obtain ⟨g1, g2, g3⟩ := h
  refine ⟨hn, ?_, ?_, t1, t18, ?_, ?_, fun j hj => ?_, hinj, fun s hs => ?_⟩
  · rw [g2 0 (by decide) (by decide) (by decide) (by decide)]; exact c0
  · rw [g3 41 (by decide)]; exact k0
  · rw [g2 1 (by decide) (by decide) (by decide) (by decide)]; exact ct
  · rw [g3 40 (by decide)]; exact kt
  · rw [g1 62 (by decide), g1 229 (by decide)]; exact hs j hj
  · rw [g2 5 (by decide) (by decide) (by decide) (by decide)]; exact hbit s hs
theorem p_search {n t : Nat} {sz : Nat → Nat} {I : gI} (hR : RelC n sz t I) {a1 w : Int32} (ha : a1 = 0 ∨ a1 = 1) {Po : Int32 → gI → Prop}
    (hno : ∀ I', gSm [60, 61] I I' → (∀ j, j ≠ 2 → j ≠ 6 → j ≠ 7 → j ≠ 8 → I' 60 j = I 60 j) → I' 60 8 = nI (rwG (cSet n sz) (rGB (¬ a1 = 0)) 18 [] t).length → (∀ j, j < (rwG (cSet n sz) (rGB (¬ a1 = 0)) 18 [] t).length → nI j ≠ w) → Po 0 I')
    (hyes : ∀ I' j r, gSm [60, 61] I I' → (∀ j, j ≠ 2 → j ≠ 6 → j ≠ 7 → j ≠ 8 → I' 60 j = I 60 j) → (rwG (cSet n sz) (rGB (¬ a1 = 0)) 18 [] t)[j]? = some r → nI j = w → (∀ j', j' < j → nI j' ≠ w) → I' 60 2 = nI r.length → rowIs 61 r I' → Po 1 I') : wp_X1_search a1 w I Po := by
  obtain ⟨hn, c0, k0, t1, t18, ct, kt, hs, hinj, hbit⟩ := hR
  unfold wp_X1_search
  refine ⟨ha, ?_⟩
  intro I2 e2 I3 e3 I4 e4
  have kp : ∀ j, j ≠ 6 → j ≠ 7 → j ≠ 8 → I4 60 j = I 60 j := fun j h6 h7 h8 => by rw [e4, gup_ne h8, e3, gup_ne h7, e2, gup_ne h6]
  have sm : gSm [60, 61] I I4 := by rw [e4, e3, e2]; exact gSm_u (gSm_u (gSm_u (gSm_r I) (by decide)) (by decide)) (by decide)
  rw [kp 1 (by decide) (by decide) (by decide), ct]
  have hE : cEx (cSet n sz) (¬ a1 = 0) w 0 I4 := by
    refine ⟨fun s hs => ?_, ?_, ?_, ?_⟩
    · rw [kp 5 (by decide) (by decide) (by decide), hbit s hs, cSet_t]
    · rw [e4, gup_ne (by decide), e3, gup_ne (by decide), e2, gup_at, Classical.not_not]
    · rw [e4, gup_ne (by decide), e3, gup_at]
    · rw [e4, gup_at]; rfl
  have hS18 : ∀ s, cSet n sz s = true → 1 ≤ s ∧ s ≤ 18 := fun s h => by
    obtain ⟨j, hj, rfl⟩ := cSet_t.mp h
    exact ⟨(hs j hj).1, (hs j hj).2.1⟩
  refine p_extend hS18 (mir := ¬ a1 = 0) (w := w) 18 20 (by decide) [] 1 t 0 I4 _ rfl t18 (Or.inl ⟨rfl, rfl, by omega⟩) (fun i hi => absurd hi (Nat.not_lt_zero i)) hE (fun I' h => ⟨Or.inl rfl, ?_⟩) (fun I' h => ⟨Or.inr rfl, ?_⟩)
  · obtain ⟨h1, _, h3, h4⟩ := h
    rw [Nat.zero_add] at h3
    exact hno I' (gSm_t sm h1.1) (fun j j2 j6 j7 j8 => (h1.2 j j2 j8).trans (kp j j6 j7 j8)) h3 (fun j hj => by have := h4 j hj; rwa [Nat.zero_add] at this)
  · obtain ⟨h1, j, r, h2, h3, h4, h5, h6⟩ := h
    rw [Nat.zero_add] at h3
    exact hyes I' j r (gSm_t sm h1.1) (fun j j2 j6 j7 j8 => (h1.2 j j2 j8).trans (kp j j6 j7 j8)) h2 h3 (fun j' hj' => by have := h4 j' hj'; rwa [Nat.zero_add] at this) h5 h6
theorem rw_small {S : Nat → Bool} {good : List Nat → Bool} {t : Nat} (ht : t ≤ 18) : (rwG S good 18 [] t).length ≤ 262144 := by
  have h := rwG_len (S := S) (good := good) 18 [] t
  have h2 : 2 ^ t ≤ 2 ^ 18 := Nat.pow_le_pow_right (by decide) ht
  omega
theorem nI_m1' {j : Nat} (h : j < 2147483648) : nI j ≠ -1 := nI_m1 h
theorem mCo_R {n t : Nat} {sz : Nat → Nat} {I I' : gI} (hR : RelC n sz t I) (h : gSm [60, 61] I I') : mCo n sz I' ∧ I' 200 40 = nI t := by
  obtain ⟨hn, c0, k0, t1, t18, ct, kt, hs, hinj, hbit⟩ := hR
  refine ⟨⟨hn, ?_, fun j hj => ⟨(hs j hj).1, (hs j hj).2.1, ?_⟩⟩, ?_⟩
  · rw [h 200 (by decide)]; exact k0
  · rw [h 229 (by decide)]; exact (hs j hj).2.2.2
  · rw [h 200 (by decide)]; exact kt
theorem rKp_of {I I1 I2 : gI} (h1 : gSm [60, 61] I I1) (h2 : ∀ j, j ≠ 2 → j ≠ 6 → j ≠ 7 → j ≠ 8 → I1 60 j = I 60 j) (h3 : mKp I1 I2) : rKp I I2 := ⟨gSm_t (gSm_w h1 (by decide)) (gSm_w h3.1 (by decide)), fun j a b c d => by rw [h3.1 60 (by decide)]; exact h2 j a b c d, fun j hj => by rw [h3.2 j hj, h1 200 (by decide)]⟩
theorem q_rounds {n t : Nat} {sz : Nat → Nat} {I : gI} (hR : RelC n sz t I) {a1 : Int32} (ha : a1 = 0 ∨ a1 = 1) {Po : Int32 → Int32 → gI → Prop} (h : ∀ x I', rKp I I' → Po x x I') : wp_X9_rounds a1 I (fun r I1 => wp_X10_rounds a1 I1 (fun r2 I2 => Po r r2 I2)) := by
  have ht := hR.2.2.2.2.1
  have hsm := rw_small (S := cSet n sz) (good := rGB (¬ a1 = 0)) ht
  unfold wp_X9_rounds wp_X1_countRows
  refine p_search hR ha (fun I1 g1 g2 g3 g4 => ?_) (fun I1 j r g1 g2 g3 g4 g5 g6 g7 => ?_)
  · show wp_X10_rounds a1 I1 (fun r2 I2 => Po (I1 60 8) r2 I2)
    have hm := mCo_R hR g1
    unfold wp_X10_rounds
    refine p_go hm.1 (fun s => cSet_t) hR.2.2.2.1 ht hm.2 (mir := ¬ a1 = 0) (by rw [Classical.not_not]) (fun I2 k1 k2 k3 => ?_) (fun I2 j r k1 k2 k3 k4 k5 k6 k7 k8 => ?_)
    · rw [g3]; exact h _ I2 (rKp_of g1 g2 k1)
    · have hj : j < (rwG (cSet n sz) (rGB (¬ a1 = 0)) 18 [] t).length := by
        rcases Nat.lt_or_ge j (rwG (cSet n sz) (rGB (¬ a1 = 0)) 18 [] t).length with z | z
        · exact z
        · rw [List.getElem?_eq_none z] at k2; cases k2
      exact absurd k3 (g4 j hj)
  · have hj : j < (rwG (cSet n sz) (rGB (¬ a1 = 0)) 18 [] t).length := by
      rcases Nat.lt_or_ge j (rwG (cSet n sz) (rGB (¬ a1 = 0)) 18 [] t).length with z | z
      · exact z
      · rw [List.getElem?_eq_none z] at g3; cases g3
    exact absurd g4 (nI_m1' (by omega))
theorem rwG_nil {S : Nat → Bool} {good : List Nat → Bool} {t : Nat} (ht : 1 ≤ t) {r : List Nat} (h : r ∈ rwG S good 18 [] t) : r ≠ [] := by
  rw [rwG_s (by omega)] at h
  obtain ⟨s', _, _, _, h4⟩ := rwH_mem h
  obtain ⟨⟨v, rfl⟩, _⟩ := rwG_mem h4
  simp
theorem rwG_l18 {S : Nat → Bool} {good : List Nat → Bool} : ∀ {f : Nat} {pre : List Nat} {left : Nat} {r : List Nat}, r ∈ rwG S good f pre left → r.length ≤ pre.length + f
  | 0, pre, left, r, h => by
    have h : r ∈ (if left = 0 then (if good pre then [pre] else []) else []) := h
    split at h
    · split at h
      · obtain rfl := List.mem_singleton.mp h; omega
      · cases h
    · cases h
  | f + 1, pre, left, r, h => by
    have h : r ∈ (if left = 0 then (if good pre then [pre] else []) else rwH S (rwG S good f) pre left left 1) := h
    split at h
    · split at h
      · obtain rfl := List.mem_singleton.mp h; omega
      · cases h
    · obtain ⟨s', _, _, _, h4⟩ := rwH_mem h
      have := rwG_l18 h4
      rw [List.length_append, List.length_singleton] at this
      omega
theorem q_round {n t : Nat} {sz : Nat → Nat} {I : gI} (hR : RelC n sz t I) {a1 : Int32} (ha : a1 = 0 ∨ a1 = 1) (a2 a3 : Int32) {Po : Int32 → Int32 → gI → Prop} (h : ∀ x I', rKp I I' → Po x x I') : wp_X9_round a1 a2 a3 I (fun r I1 => wp_X10_round a1 a2 a3 I1 (fun r2 I2 => Po r r2 I2)) := by
  have ht := hR.2.2.2.2.1
  have hsm := rw_small (S := cSet n sz) (good := rGB (¬ a1 = 0)) ht
  have hI : rKp I I := ⟨gSm_r I, fun _ _ _ _ _ => rfl, fun _ _ => rfl⟩
  have le3 : ¬ a3 < -1 ↔ -1 ≤ a3 := i32_lt_le
  unfold wp_X9_round
  refine ⟨fun q => ?_, fun q => ⟨fun q3 => ?_, fun q3 => ?_⟩⟩
  · show wp_X10_round a1 a2 a3 I (fun r2 I2 => Po (-1) r2 I2)
    unfold wp_X10_round
    exact ⟨fun _ => h _ I hI, fun z => absurd q z⟩
  · show wp_X10_round a1 a2 a3 I (fun r2 I2 => Po (-1) r2 I2)
    unfold wp_X10_round
    exact ⟨fun z => absurd z q, fun _ => ⟨fun z => absurd q3 (le3.mpr z), fun _ => h _ I hI⟩⟩
  · -- what the model does behind the class's search
    have model : ∀ (x : Int32) (I1 : gI), gSm [60, 61] I I1 → (∀ j, j ≠ 2 → j ≠ 6 → j ≠ 7 → j ≠ 8 → I1 60 j = I 60 j) → ((∀ j, j < (rwG (cSet n sz) (rGB (¬ a1 = 0)) 18 [] t).length → nI j ≠ a2) → x = -1) → (∀ j r, (rwG (cSet n sz) (rGB (¬ a1 = 0)) 18 [] t)[j]? = some r → nI j = a2 → (∀ j', j' < j → nI j' ≠ a2) → (a3 = -1 → x = nI r.length) ∧ (¬ a3 = -1 → ((nI r.length ≤ a3 → x = -1) ∧ (¬ nI r.length ≤ a3 → ∀ i, a3 = nI i → i < r.length → x = nI (gt0 r i))))) → wp_X10_round a1 a2 a3 I1 (fun r2 I2 => Po x r2 I2) := by
      intro x I1 g1 g2 hx0 hx1
      have hm := mCo_R hR g1
      unfold wp_X10_round
      refine ⟨fun z => absurd z q, fun _ => ⟨fun _ => ?_, fun z => absurd (le3.mp q3) z⟩⟩
      refine p_go hm.1 (fun s => cSet_t) hR.2.2.2.1 ht hm.2 (mir := ¬ a1 = 0) (by rw [Classical.not_not]) (fun I2 k1 k2 k3 => ?_) (fun I2 j r k1 k2 k3 k4 k5 k6 k7 k8 => ?_)
      · refine ⟨fun _ => ?_, fun z => absurd k2 z⟩
        have := h (-1) I2 (rKp_of g1 g2 k1)
        rw [hx0 k3]; exact this
      · have hx := hx1 j r k2 k3 k4
        have fin : ∀ y : Int32, x = y → Po x y I2 := fun y e => by rw [← e]; exact h x I2 (rKp_of g1 g2 k1)
        rw [k5]
        refine ⟨fun z => absurd z (nI_ne0 (by omega) (by omega)), fun _ => ⟨fun _ => ⟨fun z => ⟨fun z2 => ?_, fun z2 => ?_⟩, fun z => fin _ (hx.1 z)⟩, fun z => absurd k3 z⟩⟩
        · exact fin _ ((hx.2 z).1 z2)
        · have h0 : ¬ a3 < 0 := fun c => by
            have a := le3.mp q3
            rw [Int32.le_iff_toInt_le] at a
            rw [Int32.lt_iff_toInt_lt] at c
            have e1 : (-1 : Int32).toInt = -1 := rfl
            have e0 : (0 : Int32).toInt = 0 := rfl
            apply z
            apply Int32.toInt_inj.mp
            omega
          obtain ⟨i, hi, rfl⟩ := nI_of h0
          have hlt : i < r.length := by
            rcases Nat.lt_or_ge i r.length with c | c
            · exact c
            · exact absurd ((nI_leI (by omega) (by omega)).mpr c) z2
          rw [nI_clamp (by omega), (k8 i hlt).1]
          exact ⟨vp_in_nI (by omega) (by decide), fin _ ((hx.2 z).2 z2 i rfl hlt)⟩
    unfold wp_X1_findRow
    refine p_search hR ha (fun I1 g1 g2 g3 g4 => ⟨Or.inl rfl, fun z => absurd rfl z, fun _ => ?_⟩) (fun I1 j r g1 g2 g3 g4 g5 g6 g7 => ⟨Or.inr rfl, fun _ => ?_, fun z => absurd z one_ne⟩)
    · refine model _ I1 g1 g2 (fun _ => rfl) (fun j r k1 k2 k3 => ?_)
      have hj : j < (rwG (cSet n sz) (rGB (¬ a1 = 0)) 18 [] t).length := by
        rcases Nat.lt_or_ge j (rwG (cSet n sz) (rGB (¬ a1 = 0)) 18 [] t).length with z | z
        · exact z
        · rw [List.getElem?_eq_none z] at k1; cases k1
      exact absurd k2 (g4 j hj)
    · have hj : j < (rwG (cSet n sz) (rGB (¬ a1 = 0)) 18 [] t).length := by
        rcases Nat.lt_or_ge j (rwG (cSet n sz) (rGB (¬ a1 = 0)) 18 [] t).length with z | z
        · exact z
        · rw [List.getElem?_eq_none z] at g3; cases g3
      have same : ∀ j' r', (rwG (cSet n sz) (rGB (¬ a1 = 0)) 18 [] t)[j']? = some r' → nI j' = a2 → (∀ j'', j'' < j' → nI j'' ≠ a2) → r' = r := by
        intro j' r' k1 k2 k3
        rcases Nat.lt_trichotomy j j' with z | z | z
        · exact absurd g4 (k3 j z)
        · subst z; rw [g3] at k1; exact (Option.some.inj k1).symm
        · exact absurd k2 (g5 j' z)
      have hno : (∀ j, j < (rwG (cSet n sz) (rGB (¬ a1 = 0)) 18 [] t).length → nI j ≠ a2) → False := fun z => z j hj g4
      rw [g6]
      refine ⟨fun z => ⟨fun z2 => ?_, fun z2 => ?_⟩, fun z => ?_⟩
      · refine model _ I1 g1 g2 (fun z => (hno z).elim) (fun j' r' k1 k2 k3 => ?_)
        obtain rfl := same j' r' k1 k2 k3
        exact ⟨fun c => absurd c z, fun _ => ⟨fun _ => rfl, fun c => absurd z2 c⟩⟩
      · have h0 : ¬ a3 < 0 := fun c => by
          have a := le3.mp q3
          rw [Int32.le_iff_toInt_le] at a
          rw [Int32.lt_iff_toInt_lt] at c
          have e1 : (-1 : Int32).toInt = -1 := rfl
          have e0 : (0 : Int32).toInt = 0 := rfl
          apply z
          apply Int32.toInt_inj.mp
          omega
        obtain ⟨i, hi, rfl⟩ := nI_of h0
        have hr18 : r.length ≤ 18 := by have := rwG_l18 (List.mem_of_getElem? g3); simpa using this
        have hlt : i < r.length := by
          rcases Nat.lt_or_ge i r.length with c | c
          · exact c
          · exact absurd ((nI_leI (by omega) (by omega)).mpr c) z2
        rw [nI_clamp (by omega), (g7 i hlt).1]
        refine ⟨vp_in_nI (by omega) (by decide), ?_⟩
        refine model _ I1 g1 g2 (fun z => (hno z).elim) (fun j' r' k1 k2 k3 => ?_)
        obtain rfl := same j' r' k1 k2 k3
        refine ⟨fun c => absurd c z, fun _ => ⟨fun c => absurd c z2, fun _ i' e' hi' => ?_⟩⟩
        rw [(nI_eq (by omega) (by omega)).mp e']
      · refine model _ I1 g1 g2 (fun z => (hno z).elim) (fun j' r' k1 k2 k3 => ?_)
        obtain rfl := same j' r' k1 k2 k3
        exact ⟨fun _ => rfl, fun c => absurd z c⟩
