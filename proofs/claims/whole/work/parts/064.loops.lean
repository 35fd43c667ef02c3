/-! counting loops, once for all -/
theorem gl1 {N i0 : Nat} (B : (Int32 → Prop) → Int32 → Prop) (Q : Nat → Prop) (hN : N < 2147483648) (hi : i0 ≤ N) (h0 : Q i0) (st : ∀ i, i ≤ N → Q i → ∀ K : Int32 → Prop, (i < N → Q (i + 1) → K (nI (i + 1))) → B K (nI i)) : ∃ (Inv : Int32 → Prop) (mu : Int32 → Nat), Inv (nI i0) ∧ ∀ v, Inv v → B (fun u => Inv u ∧ mu u < mu v) v := by
  refine ⟨fun v => ∃ i, i ≤ N ∧ v = nI i ∧ Q i, fun v => N - v.toNatClampNeg, ⟨i0, hi, rfl, h0⟩, ?_⟩
  rintro v ⟨i, hi, rfl, hq⟩
  exact st i hi hq _ (fun h1 h2 => ⟨⟨i + 1, by omega, rfl, h2⟩, mu_lt h1 hN⟩)
theorem gl2 {σ : Type} {N i0 : Nat} {s0 : σ} (B : (Int32 → σ → Prop) → Int32 → σ → Prop) (Q : Nat → σ → Prop) (hN : N < 2147483648) (hi : i0 ≤ N) (h0 : Q i0 s0) (st : ∀ i s, i ≤ N → Q i s → ∀ K : Int32 → σ → Prop, (i < N → ∀ s', Q (i + 1) s' → K (nI (i + 1)) s') → B K (nI i) s) : ∃ (Inv : Int32 → σ → Prop) (mu : Int32 → σ → Nat), Inv (nI i0) s0 ∧ ∀ v s, Inv v s → B (fun u s1 => Inv u s1 ∧ mu u s1 < mu v s) v s := by
  refine ⟨fun v s => ∃ i, i ≤ N ∧ v = nI i ∧ Q i s, fun v _ => N - v.toNatClampNeg, ⟨i0, hi, rfl, h0⟩, ?_⟩
  rintro v s ⟨i, hi, rfl, hq⟩
  exact st i s hi hq _ (fun h1 s' h2 => ⟨⟨i + 1, by omega, rfl, h2⟩, mu_lt h1 hN⟩)
theorem gl3 {σ τ : Type} {N i0 : Nat} {s0 : σ} {t0 : τ} (B : (Int32 → σ → τ → Prop) → Int32 → σ → τ → Prop) (Q : Nat → σ → τ → Prop) (hN : N < 2147483648) (hi : i0 ≤ N) (h0 : Q i0 s0 t0) (st : ∀ i s t, i ≤ N → Q i s t → ∀ K : Int32 → σ → τ → Prop, (i < N → ∀ s' t', Q (i + 1) s' t' → K (nI (i + 1)) s' t') → B K (nI i) s t) : ∃ (Inv : Int32 → σ → τ → Prop) (mu : Int32 → σ → τ → Nat), Inv (nI i0) s0 t0 ∧ ∀ v s t, Inv v s t → B (fun u s1 t1 => Inv u s1 t1 ∧ mu u s1 t1 < mu v s t) v s t := by
  refine ⟨fun v s t => ∃ i, i ≤ N ∧ v = nI i ∧ Q i s t, fun v _ _ => N - v.toNatClampNeg, ⟨i0, hi, rfl, h0⟩, ?_⟩
  rintro v s t ⟨i, hi, rfl, hq⟩
  exact st i s t hi hq _ (fun h1 s' t' h2 => ⟨⟨i + 1, by omega, rfl, h2⟩, mu_lt h1 hN⟩)
/-- the counter stands second -/
theorem gl2b {α : Type} {N i0 : Nat} {a0 : α} (B : (α → Int32 → Prop) → α → Int32 → Prop) (Q : Nat → α → Prop) (hN : N < 2147483648) (hi : i0 ≤ N) (h0 : Q i0 a0) (st : ∀ i a, i ≤ N → Q i a → ∀ K : α → Int32 → Prop, (i < N → ∀ a', Q (i + 1) a' → K a' (nI (i + 1))) → B K a (nI i)) : ∃ (Inv : α → Int32 → Prop) (mu : α → Int32 → Nat), Inv a0 (nI i0) ∧ ∀ a v, Inv a v → B (fun a1 u => Inv a1 u ∧ mu a1 u < mu a v) a v := by
  refine ⟨fun a v => ∃ i, i ≤ N ∧ v = nI i ∧ Q i a, fun _ v => N - v.toNatClampNeg, ⟨i0, hi, rfl, h0⟩, ?_⟩
  rintro a v ⟨i, hi, rfl, hq⟩
  exact st i a hi hq _ (fun h1 a' h2 => ⟨⟨i + 1, by omega, rfl, h2⟩, mu_lt h1 hN⟩)
theorem gl3b {α σ : Type} {N i0 : Nat} {a0 : α} {s0 : σ} (B : (α → Int32 → σ → Prop) → α → Int32 → σ → Prop) (Q : Nat → α → σ → Prop) (hN : N < 2147483648) (hi : i0 ≤ N) (h0 : Q i0 a0 s0) (st : ∀ i a s, i ≤ N → Q i a s → ∀ K : α → Int32 → σ → Prop, (i < N → ∀ a' s', Q (i + 1) a' s' → K a' (nI (i + 1)) s') → B K a (nI i) s) : ∃ (Inv : α → Int32 → σ → Prop) (mu : α → Int32 → σ → Nat), Inv a0 (nI i0) s0 ∧ ∀ a v s, Inv a v s → B (fun a1 u s1 => Inv a1 u s1 ∧ mu a1 u s1 < mu a v s) a v s := by
  refine ⟨fun a v s => ∃ i, i ≤ N ∧ v = nI i ∧ Q i a s, fun _ v _ => N - v.toNatClampNeg, ⟨i0, hi, rfl, h0⟩, ?_⟩
  rintro a v s ⟨i, hi, rfl, hq⟩
  exact st i a s hi hq _ (fun h1 a' s' h2 => ⟨⟨i + 1, by omega, rfl, h2⟩, mu_lt h1 hN⟩)
theorem gl4b {α σ τ : Type} {N i0 : Nat} {a0 : α} {s0 : σ} {t0 : τ} (B : (α → Int32 → σ → τ → Prop) → α → Int32 → σ → τ → Prop) (Q : Nat → α → σ → τ → Prop) (hN : N < 2147483648) (hi : i0 ≤ N) (h0 : Q i0 a0 s0 t0) (st : ∀ i a s t, i ≤ N → Q i a s t → ∀ K : α → Int32 → σ → τ → Prop, (i < N → ∀ a' s' t', Q (i + 1) a' s' t' → K a' (nI (i + 1)) s' t') → B K a (nI i) s t) : ∃ (Inv : α → Int32 → σ → τ → Prop) (mu : α → Int32 → σ → τ → Nat), Inv a0 (nI i0) s0 t0 ∧ ∀ a v s t, Inv a v s t → B (fun a1 u s1 t1 => Inv a1 u s1 t1 ∧ mu a1 u s1 t1 < mu a v s t) a v s t := by
  refine ⟨fun a v s t => ∃ i, i ≤ N ∧ v = nI i ∧ Q i a s t, fun _ v _ _ => N - v.toNatClampNeg, ⟨i0, hi, rfl, h0⟩, ?_⟩
  rintro a v s t ⟨i, hi, rfl, hq⟩
  exact st i a s t hi hq _ (fun h1 a' s' t' h2 => ⟨⟨i + 1, by omega, rfl, h2⟩, mu_lt h1 hN⟩)
/-- a loop that falls: i .. 1 (v = nI i, ends at 0) is written with lpm: any measure -/
theorem gSm_r {S : List Nat} (I : gI) : gSm S I I := fun _ _ => rfl
theorem gJm_r {S : List Nat} (J : gL) : gJm S J J := fun _ _ => rfl
theorem gSm_t {S : List Nat} {I I1 I2 : gI} (h1 : gSm S I I1) (h2 : gSm S I1 I2) : gSm S I I2 := fun k hk => (h2 k hk).trans (h1 k hk)
theorem gJm_t {S : List Nat} {I I1 I2 : gL} (h1 : gJm S I I1) (h2 : gJm S I1 I2) : gJm S I I2 := fun k hk => (h2 k hk).trans (h1 k hk)
theorem gSm_w {S T : List Nat} {I I1 : gI} (h1 : gSm S I I1) (h : ∀ k, k ∈ S → k ∈ T) : gSm T I I1 := fun k hk => h1 k (fun q => hk (h k q))
theorem gJm_w {S T : List Nat} {I I1 : gL} (h1 : gJm S I I1) (h : ∀ k, k ∈ S → k ∈ T) : gJm T I I1 := fun k hk => h1 k (fun q => hk (h k q))
theorem gSm_u {S : List Nat} {I I1 : gI} {k j : Nat} {v : Int32} (h : gSm S I I1) (hk : k ∈ S) : gSm S I (gup I1 k j v) := fun k' hk' => by
  rw [gup_o (fun e => hk' (by rw [e]; exact hk))]; exact h k' hk'
theorem gJm_u {S : List Nat} {I I1 : gL} {k j : Nat} {v : Int64} (h : gJm S I I1) (hk : k ∈ S) : gJm S I (gup I1 k j v) := fun k' hk' => by
  rw [gup_o (fun e => hk' (by rw [e]; exact hk))]; exact h k' hk'
theorem gSm_c {S : List Nat} {I I1 : gI} {k : Nat} {g : Nat → Int32} (h : gSm S I I1) (hk : k ∈ S) : gSm S I (guc I1 k g) := fun k' hk' => by
  rw [guc_o (fun e => hk' (by rw [e]; exact hk))]; exact h k' hk'
theorem gJm_c {S : List Nat} {I I1 : gL} {k : Nat} {g : Nat → Int64} (h : gJm S I I1) (hk : k ∈ S) : gJm S I (guc I1 k g) := fun k' hk' => by
  rw [guc_o (fun e => hk' (by rw [e]; exact hk))]; exact h k' hk'
/-- all letters: n ones -/
theorem b_mask : ∀ n, n < 31 → ∀ c, c < 32 → bt (((1 : Int32) <<< (nI n &&& 31)) - 1) c = decide (c < n) := by decide +kernel
theorem b_all {n : Nat} (hn : n < 31) {x : Int32} : x = (((1 : Int32) <<< (nI n &&& 31)) - 1) ↔ ∀ c, c < 32 → bt x c = decide (c < n) := by
  constructor
  · intro e c hc; rw [e]; exact b_mask n hn c hc
  · intro h; exact b_ext fun c hc => (h c hc).trans (b_mask n hn c hc).symm
/-! mixes -/
def mxR (n q : Nat) (bl : Nat → Nat → Nat) (a b : Nat) : Prop := a < n ∧ ∃ i, i < q ∧ bl a i = b
def mxF (n q : Nat) (bl : Nat → Nat → Nat) (k : Nat) : Prop := ∀ a b, a < n → b < n → wk (mxR n q bl) k a b
theorem p_mixC {n a : Nat} {bl : Nat → Nat → Nat} {I : gI} (hR : RelL n a bl I) {Po : Int32 → gI → Prop} (h1 : ∀ k I', 1 ≤ k → k ≤ 26 → mxF n (a * a) bl k → (∀ j, 1 ≤ j → j < k → ¬ mxF n (a * a) bl j) → gSm [50, 51] I I' → Po (nI k) I') (h2 : ∀ I', (∀ j, 1 ≤ j → j ≤ 26 → ¬ mxF n (a * a) bl j) → gSm [50, 51] I I' → Po (-1) I') : wp_X0_firstMixed I Po := by
  obtain ⟨hn1, hn6, ha2, ha3, l0, m0, l1, m1, hb⟩ := hR
  have hq := RelL_q ha2 ha3
  have wl : ∀ k l c, l < n → wk (mxR n (a * a) bl) k l c → c < n := fun k l c hl hw => wk_lt (N := n) (fun x y ⟨hx, i, hi, e⟩ => by rw [← e]; exact (hb x (by omega) i (by omega)).1) hl hw
  unfold wp_X0_firstMixed w_X0_firstMixed_2
  refine gl2 (N := n) (i0 := 0) (fun K v I => w_X0_firstMixed_2b Po K v I) (fun i I' => gSm [50, 51] I I' ∧ ∀ l, l < i → ∀ c, c < 32 → (bt (I' 50 l) c = true ↔ l = c)) (by omega) (by omega) ⟨gSm_r I, fun l hl => absurd hl (by omega)⟩ ?_
  rintro i I1 hi ⟨g1, g2⟩ K kk
  have f0 : I1 40 0 = nI n := by rw [g1 40 (by decide)]; exact l0
  unfold w_X0_firstMixed_2b
  refine pk_le n i (fun hz => ?_) (fun hz => ?_) f0 rfl
  · obtain rfl : i = n := by omega
    unfold w_X0_firstMixed_27
    refine gl2 (N := 27) (i0 := 1) (fun K v I => w_X0_firstMixed_27b Po K v I) (fun k I' => 1 ≤ k ∧ gSm [50, 51] I I' ∧ (∀ j, 1 ≤ j → j < k → ¬ mxF i (a * a) bl j) ∧ ∀ l, l < i → ∀ c, c < 32 → (bt (I' 50 l) c = true ↔ wk (mxR i (a * a) bl) (k - 1) l c)) (by omega) (by omega) ⟨Nat.le_refl _, g1, fun j h1 h2 => absurd h2 (by omega), g2⟩ ?_
    rintro k I2 hk ⟨k1, g3, g4, g5⟩ K2 kk2
    have f1 : I2 40 0 = nI i := by rw [g3 40 (by decide)]; exact l0
    unfold w_X0_firstMixed_27b
    refine pk_lt 26 k (fun hz => ?_) (fun hz => ?_) rfl rfl
    · exact h2 I2 (fun j j1 j2 => g4 j j1 (by omega)) g3
    · intro n3 e3
      rw [f1] at e3
      unfold w_X0_firstMixed_44
      refine gl3b (N := i) (i0 := 0) (fun K a v I => w_X0_firstMixed_44b Po K2 K (nI k) a v I) (fun l v I' => gSm [50, 51] I I' ∧ (∀ l, l < i → ∀ c, c < 32 → (bt (I' 50 l) c = true ↔ wk (mxR i (a * a) bl) (k - 1) l c)) ∧ (∀ l', l' < l → ∀ c, c < 32 → (bt (I' 51 l') c = true ↔ wk (mxR i (a * a) bl) k l' c)) ∧ ∀ c, c < 32 → (bt v c = true ↔ c < i ∧ ∀ l', l' < l → wk (mxR i (a * a) bl) k l' c)) (by omega) (by omega) ⟨g3, g5, fun l hl => absurd hl (by omega), fun c hc => ?_⟩ ?_
      · rw [e3, b_mask i (by omega) c hc, decide_eq_true_eq]
        exact ⟨fun z => ⟨z, fun l hl => absurd hl (by omega)⟩, fun z => z.1⟩
      rintro l v I3 hl ⟨g6, g7, g8, g9⟩ K3 kk3
      have f2 : I3 40 0 = nI i := by rw [g6 40 (by decide)]; exact l0
      unfold w_X0_firstMixed_44b
      refine pk_le i l (fun hz => ?_) (fun hz => ?_) f2 rfl
      · obtain rfl : l = i := by omega
        have hfull : v = (((1 : Int32) <<< ((I3 40 0) &&& 31)) - (1 : Int32)) ↔ mxF l (a * a) bl k := by
          rw [f2, b_all (by omega)]
          constructor
          · intro hv x y hx hy
            have := hv y (by omega)
            rw [decide_eq_true hy, g9 y (by omega)] at this
            exact this.2 x hx
          · intro hm c hc
            rw [Bool.eq_iff_iff, g9 c hc, decide_eq_true_eq]
            exact ⟨fun z => z.1, fun z => ⟨z, fun l' hl' => hm l' c hl' z⟩⟩
        refine ⟨fun hne => ?_, fun he => ?_⟩
        · intro I6 e6 n7 e7
          rw [nI_1] at e7
          subst e7
          refine kk2 (by omega) I6 ⟨by omega, ?_, fun j j1 j2 => ?_, fun l' hl' c hc => ?_⟩
          · rw [e6]; exact gSm_c g6 (by decide)
          · by_cases e : j = k
            · subst e; exact fun z => hne (hfull.mpr z)
            · exact g4 j j1 (by omega)
          · rw [e6, guc_s, pk_cpy_in (by omega) (by omega), show 0 + (l' - 0) = l' by omega, g8 l' hl' c hc]
            exact Iff.rfl
        · exact h1 k I3 k1 (by omega) (hfull.mp he) g4 g6
      · refine ⟨vp_in_nI (by omega) (by decide), ?_⟩
        intro I9 e9
        rw [nI_clamp (by omega)] at e9
        have g6' : gSm [50, 51] I I9 := by rw [e9]; exact gSm_u g6 (by decide)
        have g7' : I9 50 = I3 50 := by rw [e9, gup_o (by decide)]
        have g8' : ∀ l', l' ≠ l → I9 51 l' = I3 51 l' := fun l' hl' => by rw [e9, gup_ne hl']
        have g9' : I9 51 l = 0 := by rw [e9, gup_at]
        unfold w_X0_firstMixed_62
        refine gl2 (N := a * a) (i0 := 0) (fun K v I => w_X0_firstMixed_62b Po K2 K3 K (nI k) _ (nI l) v I) (fun z I' => gSm [50, 51] I I' ∧ I' 50 = I3 50 ∧ (∀ l', l' ≠ l → I' 51 l' = I3 51 l') ∧ ∀ c, c < 32 → (bt (I' 51 l) c = true ↔ ∃ z', z' < z ∧ wk (mxR i (a * a) bl) (k - 1) (bl l z') c)) (by omega) (by omega) ⟨g6', g7', g8', fun c hc => ?_⟩ ?_
        · rw [g9', b_0]
          exact ⟨fun z => absurd z (by decide), fun ⟨z', hz', _⟩ => absurd hz' (by omega)⟩
        rintro z I4 hz4 ⟨o1, o2, o3, o4⟩ K4 kk4
        have f3 : I4 40 1 = nI a := by rw [o1 40 (by decide)]; exact l1
        unfold w_X0_firstMixed_62b
        rw [f3, pk_mul]
        refine pk_le (a * a) z (fun hz => ?_) (fun hz => ?_) rfl rfl
        · obtain rfl : z = a * a := by omega
          refine ⟨vp_in_nI (by omega) (by decide), ?_⟩
          intro n12 e12 n13 e13
          rw [nI_1] at e13
          rw [nI_clamp (by omega)] at e12
          subst e13 e12
          have hw : ∀ c, (∃ z', z' < a * a ∧ wk (mxR i (a * a) bl) (k - 1) (bl l z') c) ↔ wk (mxR i (a * a) bl) k l c := fun c => by
            have ek : k = (k - 1) + 1 := by omega
            constructor
            · rintro ⟨z', w1, w2⟩
              rw [ek]
              exact ⟨bl l z', ⟨by omega, z', w1, rfl⟩, w2⟩
            · intro w
              rw [ek] at w
              obtain ⟨m, ⟨_, z', w1, rfl⟩, w2⟩ := w
              exact ⟨z', w1, w2⟩
          refine kk3 (by omega) _ I4 ⟨o1, fun l' hl' c hc => by rw [o2]; exact g7 l' hl' c hc, fun l' hl' c hc => ?_, fun c hc => ?_⟩
          · by_cases e : l' = l
            · subst e; rw [o4 c hc]; exact hw c
            · rw [o3 l' e]; exact g8 l' (by omega) c hc
          · rw [b_and, Bool.and_eq_true, g9 c hc, o4 c hc, hw c]
            constructor
            · rintro ⟨⟨w1, w2⟩, w3⟩
              refine ⟨w1, fun l' hl' => ?_⟩
              by_cases e : l' = l
              · subst e; exact w3
              · exact w2 l' (by omega)
            · rintro ⟨w1, w2⟩
              exact ⟨⟨w1, fun l' hl' => w2 l' (by omega)⟩, w2 l (by omega)⟩
        · have hbl := hb l (by omega) z (by omega)
          have f4 : I4 (42 + l) z = nI (bl l z) := by rw [o1 (42 + l) (by simp only [List.mem_cons, List.not_mem_nil, or_false]; omega)]; exact hbl.2.1
          rw [nI_clamp (n := l) (by omega), nI_clamp (n := z) (by omega), f4, nI_clamp (by omega)]
          refine ⟨vp_in_nI (by omega) (by decide), vp_in_nI (by omega) (by decide), vp_in_nI (by omega) (by decide), vp_in_nI (by omega) (by decide), vp_in_nI (by omega) (by decide), ?_⟩
          intro I19 e19 n20 e20
          rw [nI_1] at e20
          subst e20
          refine kk4 (by omega) I19 ⟨by rw [e19]; exact gSm_u o1 (by decide), by rw [e19, gup_o (by decide)]; exact o2, fun l' hl' => by rw [e19, gup_ne hl']; exact o3 l' hl', fun c hc => ?_⟩
          rw [e19, gup_at, b_or, Bool.or_eq_true, o4 c hc, o2, g7 (bl l z) hbl.1 c hc]
          constructor
          · rintro (⟨z', w1, w2⟩ | w)
            · exact ⟨z', by omega, w2⟩
            · exact ⟨z, by omega, w⟩
          · rintro ⟨z', w1, w2⟩
            by_cases e : z' = z
            · subst e; exact Or.inr w2
            · exact Or.inl ⟨z', by omega, w2⟩
  · refine ⟨vp_in_nI (by omega) (by decide), ?_⟩
    intro I22 e22 n23 e23
    rw [nI_clamp (by omega)] at e22
    rw [nI_1] at e23
    subst e23
    refine kk (by omega) I22 ⟨by rw [e22]; exact gSm_u g1 (by decide), fun l hl c hc => ?_⟩
    by_cases e : l = i
    · subst e
      rw [e22, gup_at, bit_one (by omega) hc, decide_eq_true_eq]
      exact ⟨fun z => z.symm, fun z => z.symm⟩
    · rw [e22, gup_ne e]; exact g2 l (by omega) c hc
