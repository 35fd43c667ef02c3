theorem p_mixM {n a : Nat} {bl : Nat → Nat → Nat} {I : gI} (hR : RelL n a bl I) {Po : Int32 → gI → Prop} (h1 : ∀ k I', 1 ≤ k → k ≤ 59 → mxF n (a * a) bl k → (∀ j, 1 ≤ j → j < k → ¬ mxF n (a * a) bl j) → gSm [226, 227] I I' → Po (nI k) I') (h2 : ∀ I', (∀ j, 1 ≤ j → j ≤ 59 → ¬ mxF n (a * a) bl j) → gSm [226, 227] I I' → Po (-1) I') : wp_X10_mixes I Po := by
  obtain ⟨hn1, hn6, ha2, ha3, l0, m0, l1, m1, hb⟩ := hR
  have hq := RelL_q ha2 ha3
  have wl : ∀ k l c, l < n → wk (mxR n (a * a) bl) k l c → c < n := fun k l c hl hw => wk_lt (N := n) (fun x y ⟨hx, i, hi, e⟩ => by rw [← e]; exact (hb x (by omega) i (by omega)).1) hl hw
  unfold wp_X10_mixes w_X10_mixes_2
  refine gl2 (N := n) (i0 := 0) (fun K v I => w_X10_mixes_2b Po K v I) (fun i I' => gSm [226, 227] I I' ∧ ∀ l, l < i → ∀ c, c < 32 → (bt (I' 226 l) c = true ↔ l = c)) (by omega) (by omega) ⟨gSm_r I, fun l hl => absurd hl (by omega)⟩ ?_
  rintro i I1 hi ⟨g1, g2⟩ K kk
  have f0 : I1 200 31 = nI n := by rw [g1 200 (by decide)]; exact m0
  unfold w_X10_mixes_2b
  refine pk_le n i (fun hz => ?_) (fun hz => ?_) f0 rfl
  · obtain rfl : i = n := by omega
    unfold w_X10_mixes_27
    refine gl2 (N := 60) (i0 := 1) (fun K v I => w_X10_mixes_27b Po K v I) (fun k I' => 1 ≤ k ∧ gSm [226, 227] I I' ∧ (∀ j, 1 ≤ j → j < k → ¬ mxF i (a * a) bl j) ∧ ∀ l, l < i → ∀ c, c < 32 → (bt (I' 226 l) c = true ↔ wk (mxR i (a * a) bl) (k - 1) l c)) (by omega) (by omega) ⟨Nat.le_refl _, g1, fun j h1 h2 => absurd h2 (by omega), g2⟩ ?_
    rintro k I2 hk ⟨k1, g3, g4, g5⟩ K2 kk2
    unfold w_X10_mixes_27b
    refine pk_le 60 k (fun hz => ?_) (fun hz => ?_) rfl rfl
    · exact h2 I2 (fun j j1 j2 => g4 j j1 (by omega)) g3
    · unfold w_X10_mixes_37
      refine gl2 (N := i) (i0 := 0) (fun K v I => w_X10_mixes_37b Po K2 K (nI k) _ v I) (fun l I' => gSm [226, 227] I I' ∧ I' 226 = I2 226 ∧ ∀ l', l' < l → I' 227 l' = I2 226 l') (by omega) (by omega) ⟨g3, rfl, fun l hl => absurd hl (by omega)⟩ ?_
      rintro l I3 hl ⟨g6, g7, g8⟩ K3 kk3
      have f2 : I3 200 31 = nI i := by rw [g6 200 (by decide)]; exact m0
      unfold w_X10_mixes_37b
      refine pk_le i l (fun hz => ?_) (fun hz => ?_) f2 rfl
      · obtain rfl : l = i := by omega
        unfold w_X10_mixes_65
        refine gl3b (N := l) (i0 := 0) (fun K a v I => w_X10_mixes_65b Po K2 K (nI k) a v I) (fun r v I' => gSm [226, 227] I I' ∧ I' 227 = I3 227 ∧ (∀ l', l' < r → ∀ c, c < 32 → (bt (I' 226 l') c = true ↔ wk (mxR l (a * a) bl) k l' c)) ∧ ((v = 0 ∧ ¬ ∀ l' c, l' < r → c < l → wk (mxR l (a * a) bl) k l' c) ∨ (v = 1 ∧ ∀ l' c, l' < r → c < l → wk (mxR l (a * a) bl) k l' c))) (by omega) (by omega) ⟨g6, rfl, fun l hl => absurd hl (by omega), Or.inr ⟨rfl, fun l' c h => absurd h (by omega)⟩⟩ ?_
        rintro r v I4 hr ⟨g9, g10, g11, g12⟩ K5 kk5
        have f3 : I4 200 31 = nI l := by rw [g9 200 (by decide)]; exact m0
        unfold w_X10_mixes_65b
        refine pk_le l r (fun hz => ?_) (fun hz => ?_) f3 rfl
        · obtain rfl : r = l := by omega
          have hfull : mxF r (a * a) bl k ↔ ∀ l' c, l' < r → c < r → wk (mxR r (a * a) bl) k l' c := Iff.rfl
          rcases g12 with ⟨w1, w2⟩ | ⟨w1, w2⟩
          · refine ⟨fun _ => ?_, fun hne => absurd w1 hne⟩
            intro n6 e6
            rw [nI_1] at e6
            subst e6
            refine kk2 (by omega) I4 ⟨by omega, g9, fun j j1 j2 => ?_, fun l' hl' c hc => ?_⟩
            · by_cases e : j = k
              · subst e; exact w2
              · exact g4 j j1 (by omega)
            · exact g11 l' hl' c hc
          · refine ⟨fun he => absurd (he.symm.trans w1) (by decide), fun _ => ?_⟩
            exact h1 k I4 k1 (by omega) w2 g4 g9
        · refine ⟨vp_in_nI (by omega) (by decide), ?_⟩
          intro I8 e8
          rw [nI_clamp (by omega)] at e8
          have g6' : gSm [226, 227] I I8 := by rw [e8]; exact gSm_u g9 (by decide)
          have g7' : I8 227 = I3 227 := by rw [e8, gup_o (by decide)]; exact g10
          have g8' : ∀ l', l' ≠ r → I8 226 l' = I4 226 l' := fun l' hl' => by rw [e8, gup_ne hl']
          have g9' : I8 226 r = 0 := by rw [e8, gup_at]
          unfold w_X10_mixes_83
          refine gl2 (N := a * a) (i0 := 0) (fun K v' I => w_X10_mixes_83b Po K2 K5 K (nI k) v (nI r) v' I) (fun z I' => gSm [226, 227] I I' ∧ I' 227 = I3 227 ∧ (∀ l', l' ≠ r → I' 226 l' = I4 226 l') ∧ ∀ c, c < 32 → (bt (I' 226 r) c = true ↔ ∃ z', z' < z ∧ wk (mxR l (a * a) bl) (k - 1) (bl r z') c)) (by omega) (by omega) ⟨g6', g7', g8', fun c hc => ?_⟩ ?_
          · rw [g9', b_0]
            exact ⟨fun z => absurd z (by decide), fun ⟨z', hz', _⟩ => absurd hz' (by omega)⟩
          rintro z I5 hz4 ⟨o1, o2, o3, o4⟩ K4 kk4
          have f3 : I5 200 32 = nI a := by rw [o1 200 (by decide)]; exact m1
          have f4 : I5 200 31 = nI l := by rw [o1 200 (by decide)]; exact m0
          unfold w_X10_mixes_83b
          rw [f3, pk_mul]
          refine pk_le (a * a) z (fun hz => ?_) (fun hz => ?_) rfl rfl
          · obtain rfl : z = a * a := by omega
            have hw : ∀ c, (∃ z', z' < a * a ∧ wk (mxR l (a * a) bl) (k - 1) (bl r z') c) ↔ wk (mxR l (a * a) bl) k r c := fun c => by
              have ek : k = (k - 1) + 1 := by omega
              constructor
              · rintro ⟨z', w1, w2⟩
                rw [ek]
                exact ⟨bl r z', ⟨by omega, z', w1, rfl⟩, w2⟩
              · intro w
                rw [ek] at w
                obtain ⟨m, ⟨_, z', w1, rfl⟩, w2⟩ := w
                exact ⟨z', w1, w2⟩
            have rows : ∀ l', l' < r + 1 → ∀ c, c < 32 → (bt (I5 226 l') c = true ↔ wk (mxR l (a * a) bl) k l' c) := fun l' hl' c hc => by
              by_cases e : l' = r
              · subst e; rw [o4 c hc]; exact hw c
              · rw [o3 l' e]; exact g11 l' (by omega) c hc
            have no : (¬ ∀ l' c, l' < r + 1 → c < l → wk (mxR l (a * a) bl) k l' c) → w_X10_mixes_154 Po K2 K5 (nI k) (nI r) I5 := fun hno => by
              unfold w_X10_mixes_154 w_X10_mixes_155
              intro n11 e11
              rw [nI_1] at e11
              subst e11
              exact kk5 (by omega) _ I5 ⟨o1, o2, rows, Or.inl ⟨rfl, hno⟩⟩
            rcases g12 with ⟨w1, w2⟩ | ⟨w1, w2⟩
            · exact ⟨fun _ => no (fun q => w2 (fun l' c hl' hc => q l' c (by omega) hc)), fun hne => absurd w1 hne⟩
            · refine ⟨fun he => absurd (he.symm.trans w1) (by decide), fun _ => ⟨vp_in_nI (by omega) (by decide), ?_⟩⟩
              rw [nI_clamp (by omega), f4]
              have hrow : I5 226 r = (((1 : Int32) <<< (nI l &&& 31)) - 1) ↔ ∀ c, c < l → wk (mxR l (a * a) bl) k r c := by
                rw [b_all (by omega)]
                constructor
                · intro hv y hy
                  have := hv y (by omega)
                  rw [decide_eq_true hy, rows r (by omega) y (by omega)] at this
                  exact this
                · intro hm c hc
                  rw [Bool.eq_iff_iff, rows r (by omega) c hc, decide_eq_true_eq]
                  exact ⟨fun z => wl k r c (by omega) z, fun z => hm c z⟩
              refine ⟨fun hne => no (fun q => hne (hrow.mpr (fun c hc => q r c (by omega) hc))), fun he => ?_⟩
              unfold w_X10_mixes_155
              intro n11 e11
              rw [nI_1] at e11
              subst e11
              refine kk5 (by omega) _ I5 ⟨o1, o2, rows, Or.inr ⟨rfl, fun l' c hl' hc => ?_⟩⟩
              by_cases e : l' = r
              · subst e; exact hrow.mp he c hc
              · exact w2 l' c (by omega) hc
          · have hbl := hb r (by omega) z (by omega)
            have f4 : I5 222 (9 * r + z) = nI (bl r z) := by rw [o1 222 (by decide)]; exact hbl.2.2
            rw [i_9, pk_mul, nI_add, nI_clamp (n := r) (by omega), nI_clamp (n := 9 * r + z) (by omega), f4, nI_clamp (by omega)]
            refine ⟨vp_in_nI (by omega) (by decide), vp_in_nI (by omega) (by decide), vp_in_nI (by omega) (by decide), vp_in_nI (by omega) (by decide), ?_⟩
            intro I18 e18 n19 e19
            rw [nI_1] at e19
            subst e19
            refine kk4 (by omega) I18 ⟨by rw [e18]; exact gSm_u o1 (by decide), by rw [e18, gup_o (by decide)]; exact o2, fun l' hl' => by rw [e18, gup_ne hl']; exact o3 l' hl', fun c hc => ?_⟩
            rw [e18, gup_at, b_or, Bool.or_eq_true, o4 c hc, o2, g8 (bl r z) hbl.1, g5 (bl r z) hbl.1 c hc]
            constructor
            · rintro (⟨z', w1, w2⟩ | w)
              · exact ⟨z', by omega, w2⟩
              · exact ⟨z, by omega, w⟩
            · rintro ⟨z', w1, w2⟩
              by_cases e : z' = z
              · subst e; exact Or.inr w2
              · exact Or.inl ⟨z', by omega, w2⟩
      · rw [nI_clamp (by omega)]
        refine ⟨vp_in_nI (by omega) (by decide), vp_in_nI (by omega) (by decide), ?_⟩
        intro I22 e22 n23 e23
        rw [nI_1] at e23
        subst e23
        refine kk3 (by omega) I22 ⟨by rw [e22]; exact gSm_u g6 (by decide), by rw [e22, gup_o (by decide)]; exact g7, fun l' hl' => ?_⟩
        by_cases e : l' = l
        · subst e; rw [e22, gup_at, g7]
        · rw [e22, gup_ne e]; exact g8 l' (by omega)
  · refine ⟨vp_in_nI (by omega) (by decide), ?_⟩
    intro I22 e22 n23 e23
    rw [nI_clamp (by omega)] at e22
    rw [nI_1] at e23
    subst e23
    refine kk (by omega) I22 ⟨by rw [e22]; exact gSm_u g1 (by decide), fun l hl c hc => ?_⟩
    by_cases e : l = i
    · subst e
      rw [e22, gup_at, bit_one (by omega) hc, decide_eq_true_eq]
      exact ⟨fun z => z.symm, fun z => z.symm⟩
    · rw [e22, gup_ne e]; exact g2 l (by omega) c hc
theorem RelL_sm {n a : Nat} {bl : Nat → Nat → Nat} {I I' : gI} (hR : RelL n a bl I) (h40 : I' 40 = I 40) (h200 : ∀ j, j = 31 ∨ j = 32 → I' 200 j = I 200 j) (hb : ∀ l, l < 6 → I' (42 + l) = I (42 + l)) (h222 : I' 222 = I 222) : RelL n a bl I' := by
  obtain ⟨hn1, hn6, ha2, ha3, l0, m0, l1, m1, hb0⟩ := hR
  exact ⟨hn1, hn6, ha2, ha3, by rw [h40]; exact l0, by rw [h200 31 (Or.inl rfl)]; exact m0, by rw [h40]; exact l1, by rw [h200 32 (Or.inr rfl)]; exact m1, fun l hl j hj => ⟨(hb0 l hl j hj).1, by rw [hb l hl]; exact (hb0 l hl j hj).2.1, by rw [h222]; exact (hb0 l hl j hj).2.2⟩⟩
theorem q_mixes {n a : Nat} {bl : Nat → Nat → Nat} {I : gI} (hR : RelL n a bl I) {Po : Int32 → Int32 → gI → Prop} (h : ∀ r I', gSm [50, 51, 226, 227] I I' → Po r r I') : wp_X9_mixes I (fun r I1 => wp_X10_mixes I1 (fun r2 I2 => Po r r2 I2)) := by
  have hR0 := hR
  obtain ⟨hn1, hn6, ha2, ha3, l0, m0, l1, m1, hb⟩ := hR0
  have hq := RelL_q ha2 ha3
  have ho : ∀ x, x < n → ∃ y, mxR n (a * a) bl x y := fun x hx => ⟨bl x 0, hx, 0, Nat.mul_pos (by omega) (by omega), rfl⟩
  have hlt : ∀ x y, mxR n (a * a) bl x y → y < n := fun x y ⟨hx, i, hi, e⟩ => by rw [← e]; exact (hb x (by omega) i (by omega)).1
  have rel : ∀ I1, gSm [50, 51] I I1 → RelL n a bl I1 := fun I1 g => RelL_sm hR (g 40 (by decide)) (fun j _ => by rw [g 200 (by decide)]) (fun l hl => g _ (by simp only [List.mem_cons, List.not_mem_nil, or_false]; omega)) (g 222 (by decide))
  have both : ∀ I1 I2, gSm [50, 51] I I1 → gSm [226, 227] I1 I2 → gSm [50, 51, 226, 227] I I2 := fun I1 I2 g1 g2 => gSm_t (gSm_w g1 (by decide)) (gSm_w g2 (by decide))
  unfold wp_X9_mixes
  refine p_mixC hR (fun k I1 k1 k2 k3 k4 g1 => ?_) (fun I1 k4 g1 => ?_)
  · refine p_mixM (rel I1 g1) (fun k' I2 j1 j2 j3 j4 g2 => ?_) (fun I2 j4 g2 => ?_)
    · have e : k = k' := by
        rcases Nat.lt_trichotomy k k' with z | z | z
        · exact absurd k3 (j4 k k1 z)
        · exact z
        · exact absurd j3 (k4 k' j1 z)
      subst e
      exact h _ I2 (both I1 I2 g1 g2)
    · exact absurd k3 (j4 k k1 (by omega))
  · refine p_mixM (rel I1 g1) (fun k' I2 j1 j2 j3 j4 g2 => ?_) (fun I2 j4 g2 => ?_)
    · exact absurd (wielandt hn6 hlt ho j3) (k4 26 (by omega) (by omega))
    · exact h _ I2 (both I1 I2 g1 g2)
