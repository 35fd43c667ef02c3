/-! the model: placeAll -/
def fp (PL : Nat → List Nat) : Nat → Nat
  | 0 => 0
  | p + 1 => fp PL p + (PL p).length
theorem fp_cg {PL PL' : Nat → List Nat} : ∀ {p : Nat}, (∀ p', p' < p → PL p' = PL' p') → fp PL p = fp PL' p
  | 0, _ => rfl
  | p + 1, h => by
    show fp PL p + (PL p).length = fp PL' p + (PL' p).length
    rw [fp_cg (fun p' hp' => h p' (by omega)), h p (by omega)]
theorem fp_up {PL : Nat → List Nat} {p' : Nat} : ∀ {p : Nat}, p' < p → fp PL p' + (PL p').length ≤ fp PL p
  | 0, h => absurd h (by omega)
  | p + 1, h => by
    show _ ≤ fp PL p + (PL p).length
    by_cases e : p' = p
    · subst e; exact Nat.le_refl _
    · have := fp_up (PL := PL) (p' := p') (p := p) (by omega); omega
theorem fp_le {PL : Nat → List Nat} {b : Nat} : ∀ {p : Nat}, (∀ p', p' < p → (PL p').length ≤ b) → fp PL p ≤ b * p
  | 0, _ => by show 0 ≤ b * 0; omega
  | p + 1, h => by
    show fp PL p + (PL p).length ≤ b * (p + 1)
    have h1 := fp_le (p := p) (fun p' hp' => h p' (by omega))
    have h2 := h p (by omega)
    rw [Nat.mul_add, Nat.mul_one]
    omega
def alw (tu mr : Int32) (way : Nat) : Prop := (tu = 0 → way % 4 = 0) ∧ (mr = 0 → way < 4)
def miW (way : Nat) : Bool := decide (3 < way)
def plM (pc : Nat → Nat) (w h hs : Nat) (tu mr : Int32) (PL : Nat → List Nat) (p : Nat) (I : gI) : Prop := ∀ p', p' < p → srt (PL p') ∧ (∀ x, x ∈ PL p' ↔ plc w h hs tu mr (pc p') x) ∧ I 212 p' = nI (fp PL p') ∧ ∀ i, i < (PL p').length → I 211 (fp PL p' + i) = nI (gt0 (PL p') i) ∧ gt0 (PL p') i < 1048576
def pmS (pc : Nat → Nat) (w h hs : Nat) (tu mr : Int32) (PL : Nat → List Nat) (p : Nat) (S : Nat → Prop) (I I' : gI) (v1 : Int32) : Prop := gSm [211, 212] I I' ∧ plM pc w h hs tu mr PL p I' ∧ I' 212 p = nI (fp PL p) ∧ ∃ l, srt l ∧ (∀ x, x ∈ l ↔ S x) ∧ v1 = nI (fp PL p + l.length) ∧ ∀ i, i < l.length → I' 211 (fp PL p + i) = nI (gt0 l i) ∧ gt0 l i < 1048576
theorem pmS_c {pc : Nat → Nat} {w h hs : Nat} {tu mr : Int32} {PL : Nat → List Nat} {p : Nat} {S S' : Nat → Prop} {I I' : gI} {v1 : Int32} (h0 : pmS pc w h hs tu mr PL p S I I' v1) (e : ∀ x, S x ↔ S' x) : pmS pc w h hs tu mr PL p S' I I' v1 := by
  obtain ⟨a, b, c, l, d1, d2, d3⟩ := h0
  exact ⟨a, b, c, l, d1, fun x => (d2 x).trans (e x), d3⟩
/-- what has been placed: the ways before this one, and of this one what lies before (dx, dy) -/
def pSet (w h hs : Nat) (tu mr : Int32) (c way dx dy M : Nat) : Prop := (∃ way', way' < way ∧ alw tu mr way' ∧ plW w h hs c (miW way') (way' % 4) M) ∨ (alw tu mr way ∧ ∃ dx' dy', dx' ≤ 8 ∧ dy' ≤ 8 ∧ (dx' < dx ∨ dx' = dx ∧ dy' < dy) ∧ inB w h c (miW way) (way % 4) dx' dy' ∧ isM w c (miW way) (way % 4) dx' dy' (nI M) ∧ nI M &&& nI hs = 0 ∧ M < 1048576)
theorem plc_way {w h hs : Nat} {tu mr : Int32} {c M : Nat} : plc w h hs tu mr c M ↔ ∃ way, way < 8 ∧ alw tu mr way ∧ plW w h hs c (miW way) (way % 4) M := by
  constructor
  · rintro ⟨mi, q, h1, h2, h3, h4⟩
    cases mi with
    | false =>
      refine ⟨q, by omega, ⟨fun z => by have := h2 z; omega, fun _ => h1⟩, ?_⟩
      have e : miW q = false := decide_eq_false (by omega)
      rw [e, Nat.mod_eq_of_lt h1]; exact h4
    | true =>
      refine ⟨q + 4, by omega, ⟨fun z => by have := h2 z; omega, fun z => absurd (h3 z) (by decide)⟩, ?_⟩
      have e : miW (q + 4) = true := decide_eq_true (by omega)
      rw [e, Nat.add_mod_right, Nat.mod_eq_of_lt h1]; exact h4
  · rintro ⟨way, h1, ⟨h2, h3⟩, h4⟩
    exact ⟨miW way, way % 4, Nat.mod_lt _ (by decide), h2, fun z => decide_eq_false (by have := h3 z; omega), h4⟩
theorem pSet_end {w h hs : Nat} {tu mr : Int32} {c way M : Nat} : pSet w h hs tu mr c way 9 0 M ↔ ∃ way', way' < way + 1 ∧ alw tu mr way' ∧ plW w h hs c (miW way') (way' % 4) M := by
  constructor
  · rintro (⟨way', h1, h2⟩ | ⟨h1, dx', dy', h2, h3, _, h5⟩)
    · exact ⟨way', by omega, h2⟩
    · exact ⟨way, by omega, h1, dx', dy', h2, h3, h5⟩
  · rintro ⟨way', h1, h2, h3⟩
    by_cases e : way' = way
    · subst e
      obtain ⟨dx', dy', k1, k2, k3⟩ := h3
      exact Or.inr ⟨h2, dx', dy', k1, k2, by omega, k3⟩
    · exact Or.inl ⟨way', by omega, h2, h3⟩
theorem pSet_0 {w h hs : Nat} {tu mr : Int32} {c way M : Nat} : pSet w h hs tu mr c way 0 0 M ↔ ∃ way', way' < way ∧ alw tu mr way' ∧ plW w h hs c (miW way') (way' % 4) M := by
  constructor
  · rintro (h1 | ⟨_, dx', dy', _, _, h4, _⟩)
    · exact h1
    · omega
  · exact Or.inl
theorem pSet_plc {w h hs : Nat} {tu mr : Int32} {c way dx dy M : Nat} (hw : way < 8) (h0 : pSet w h hs tu mr c way dx dy M) : plc w h hs tu mr c M := by
  rw [plc_way]
  rcases h0 with ⟨way', h1, h2⟩ | ⟨h1, dx', dy', h2, h3, _, h5⟩
  · exact ⟨way', by omega, h2⟩
  · exact ⟨way, hw, h1, dx', dy', h2, h3, h5⟩
theorem lt4 {d : Nat} (hd : d < 1000) : (4 : Int32) < nI d - nI 4 ↔ 8 < d := by
  rw [Int32.lt_iff_toInt_lt, pk_sub_toInt (by omega) (by decide)]
  have e0 : (4 : Int32).toInt = 4 := rfl
  rw [e0]
  omega
theorem inc4 (d : Nat) : nI d - nI 4 + 1 = nI (d + 1) - nI 4 := by rw [i32_sac, nI_1]
theorem p_placeAll {n : Nat} {pc : Nat → Nat} {w h hs : Nat} {tu mr : Int32} {ver lv : Nat} {I : gI} (hR : RelP n pc w h hs tu mr ver lv I) (hb160 : ∀ p, p < n → ∀ l, srt l → (∀ x, x ∈ l → plc w h hs tu mr (pc p) x) → l.length ≤ 160) {Po : gI → Prop} (hk : ∀ I' PL, gSm [211, 212] I I' → plM pc w h hs tu mr PL n I' → I' 212 n = nI (fp PL n) → wp_X10_sortLow I' Po) : wp_X10_placeAll I Po := by
  have hwh := RelP_wh hR
  have hR0 := hR
  obtain ⟨⟨hn, hw1, hw2, hh1, hh2, hhs, htu, hmr, hlv⟩, _, ⟨c0, c1, c2, c3, c4, c5⟩, d⟩ := hR
  unfold wp_X10_placeAll w_X10_placeAll_4
  refine gl3b (N := n) (i0 := 0) (fun K v1 v2 I => w_X10_placeAll_4b Po K v1 v2 I) (fun p v1 I' => gSm [211, 212] I I' ∧ ∃ PL, plM pc w h hs tu mr PL p I' ∧ v1 = nI (fp PL p)) (by omega) (by omega) ⟨gSm_r I, fun _ => [], fun p' hp' => absurd hp' (by omega), rfl⟩ ?_
  rintro p v1 I1 hp ⟨g1, PL, g2, rfl⟩ K kk
  have f11 : I1 200 11 = nI n := by rw [g1 200 (by decide)]; exact c0
  have hfp : fp PL p ≤ 160 * p := fp_le (fun p' hp' => hb160 p' (by omega) _ (g2 p' hp').1 (fun x hx => ((g2 p' hp').2.1 x).mp hx))
  unfold w_X10_placeAll_4b
  refine pk_le n p (fun hz => ?_) (fun hz => ?_) f11 rfl
  · obtain rfl : p = n := by omega
    rw [f11]
    refine ⟨vp_in_nI (by omega) (by decide), ?_⟩
    rw [nI_clamp (by omega)]
    intro I3 e3
    refine hk I3 PL (by rw [e3]; exact gSm_u g1 (by decide)) (fun p' hp' => ?_) (by rw [e3, gup_at])
    rw [e3, gup_ne (by omega), gup_o (by decide)]
    exact g2 p' hp'
  · refine ⟨vp_in_nI (by omega) (by decide), ?_⟩
    rw [nI_clamp (by omega)]
    intro I6 e6
    obtain ⟨hpc, _, e210⟩ := d p hz
    unfold w_X10_placeAll_21
    refine gl3b (N := 8) (i0 := 0) (fun K2 v1 v3 I => w_X10_placeAll_21b Po K K2 v1 (nI p) v3 I) (fun way v1 I' => pmS pc w h hs tu mr PL p (fun M => ∃ way', way' < way ∧ alw tu mr way' ∧ plW w h hs (pc p) (miW way') (way' % 4) M) I I' v1) (by omega) (by omega) ⟨by rw [e6]; exact gSm_u g1 (by decide), fun p' hp' => by rw [e6, gup_ne (by omega), gup_o (by decide)]; exact g2 p' hp', by rw [e6, gup_at], [], fun i j _ hj => absurd hj (Nat.not_lt_zero j), fun x => ⟨fun z => (by cases z), fun ⟨_, z, _⟩ => absurd z (by omega)⟩, rfl, fun i hi => absurd hi (Nat.not_lt_zero i)⟩ ?_
    rintro way v1 I7 hway hS K2 kk2
    have sm7 := hS.1
    unfold w_X10_placeAll_21b
    refine pk_le 8 way (fun hz2 => ?_) (fun hz2 => ?_) rfl rfl
    · obtain rfl : way = 8 := by omega
      intro n8 e8
      rw [nI_1] at e8
      subst e8
      obtain ⟨o1, o2, o3, l, o4, o5, rfl, o6⟩ := hS
      refine kk hz _ I7 ⟨o1, fun p' => if p' = p then l else PL p', fun p' hp' => ?_, ?_⟩
      · have efp : fp (fun p' => if p' = p then l else PL p') p' = fp PL p' := fp_cg (fun p'' hp'' => if_neg (by omega))
        show srt (if p' = p then l else PL p') ∧ (∀ x, x ∈ (if p' = p then l else PL p') ↔ plc w h hs tu mr (pc p') x) ∧ I7 212 p' = nI (fp (fun p' => if p' = p then l else PL p') p') ∧ ∀ i, i < (if p' = p then l else PL p').length → I7 211 (fp (fun p' => if p' = p then l else PL p') p' + i) = nI (gt0 (if p' = p then l else PL p') i) ∧ gt0 (if p' = p then l else PL p') i < 1048576
        rw [efp]
        by_cases e : p' = p
        · subst e
          rw [if_pos rfl]
          exact ⟨o4, fun x => (o5 x).trans plc_way.symm, o3, o6⟩
        · rw [if_neg e]; exact o2 p' (by omega)
      · show nI (fp PL p + l.length) = nI (fp (fun p' => if p' = p then l else PL p') p + (if p = p then l else PL p).length)
        rw [if_pos rfl, fp_cg (PL := fun p' => if p' = p then l else PL p') (PL' := PL) (fun p'' hp'' => if_neg (by omega))]
    · -- this way is left out
      have out : ¬ alw tu mr way → w_X10_placeAll_133 Po K K2 v1 (nI p) (nI way) I7 := by
        intro hno
        unfold w_X10_placeAll_133
        intro n12 e12
        rw [nI_1] at e12
        subst e12
        refine kk2 hz2 v1 I7 (pmS_c hS (fun x => ?_))
        constructor
        · rintro ⟨way', z1, z2⟩; exact ⟨way', by omega, z2⟩
        · rintro ⟨way', z1, z2, z3⟩
          by_cases e : way' = way
          · subst e; exact absurd z2 hno
          · exact ⟨way', by omega, z2, z3⟩
      -- this way is tried
      have inn : alw tu mr way → w_X10_placeAll_52 Po K K2 v1 (nI p) (nI way) I7 := by
        intro hal
        unfold w_X10_placeAll_52 w_X10_placeAll_56
        refine gr3 (m0 := 9) (fun K3 v1 v4 I => w_X10_placeAll_56b Po K K2 K3 v1 (nI p) (nI way) v4 I) (fun m v1 v4 I' => ∃ dx, m + dx = 9 ∧ v4 = nI dx - nI 4 ∧ pmS pc w h hs tu mr PL p (pSet w h hs tu mr (pc p) way dx 0) I I' v1) ⟨0, rfl, rfl, pmS_c hS (fun x => pSet_0.symm)⟩ ?_
        rintro m v1 v4 I8 ⟨dx, hm, rfl, hS8⟩ K3 kk3
        unfold w_X10_placeAll_56b
        refine ⟨fun q4 => ?_, fun q4 => ?_⟩
        · have hdx : dx = 9 := by have := (lt4 (by omega)).mp q4; omega
          subst hdx
          unfold w_X10_placeAll_133
          intro n12 e12
          rw [nI_1] at e12
          subst e12
          exact kk2 hz2 v1 I8 (pmS_c hS8 (fun x => pSet_end))
        · have hdx : dx ≤ 8 := by
            rcases Nat.lt_or_ge 8 dx with z | z
            · exact absurd ((lt4 (by omega)).mpr z) q4
            · exact z
          unfold w_X10_placeAll_66
          refine gr3 (m0 := 9) (fun K4 v1 v5 I => w_X10_placeAll_66b Po K K2 K3 K4 v1 (nI p) (nI way) (nI dx - nI 4) v5 I) (fun m v1 v5 I' => ∃ dy, m + dy = 9 ∧ v5 = nI dy - nI 4 ∧ pmS pc w h hs tu mr PL p (pSet w h hs tu mr (pc p) way dx dy) I I' v1) ⟨0, rfl, rfl, hS8⟩ ?_
          rintro m2 v1 v5 I9 ⟨dy, hm2, rfl, hS9⟩ K4 kk4
          unfold w_X10_placeAll_66b
          refine ⟨fun q5 => ?_, fun q5 => ?_⟩
          · have hdy : dy = 9 := by have := (lt4 (by omega)).mp q5; omega
            subst hdy
            intro n14 e14
            rw [inc4] at e14
            subst e14
            refine kk3 (m - 1) _ _ _ (by omega) ⟨dx + 1, by omega, rfl, pmS_c hS9 (fun x => ?_)⟩
            constructor
            · rintro (z | ⟨z1, dx', dy', z2, z3, z4, z5⟩)
              · exact Or.inl z
              · exact Or.inr ⟨z1, dx', dy', z2, z3, by omega, z5⟩
            · rintro (z | ⟨z1, dx', dy', z2, z3, z4, z5⟩)
              · exact Or.inl z
              · exact Or.inr ⟨z1, dx', dy', z2, z3, by omega, z5⟩
          · have hdy : dy ≤ 8 := by
              rcases Nat.lt_or_ge 8 dy with z | z
              · exact absurd ((lt4 (by omega)).mpr z) q5
              · exact z
            have sm9 := hS9.1
            have f210 : I9 210 p = nI (pc p) := by rw [sm9 210 (by decide)]; exact e210
            have nxt : ∀ (v1' : Int32) (I' : gI), pmS pc w h hs tu mr PL p (pSet w h hs tu mr (pc p) way dx (dy + 1)) I I' v1' → w_X10_placeAll_121 Po K K2 K3 K4 v1' (nI p) (nI way) (nI dx - nI 4) (nI dy - nI 4) I' := by
              intro v1' I' hS'
              unfold w_X10_placeAll_121
              intro n20 e20
              rw [inc4] at e20
              subst e20
              exact kk4 (m2 - 1) _ _ _ (by omega) ⟨dy + 1, by omega, rfl, hS'⟩
            have lay : ∀ s0 : Int32, (s0 = 0 ↔ miW way = false) → w_X10_placeAll_92 Po K K2 K3 K4 v1 (nI p) (nI way) (nI dx - nI 4) (nI dy - nI 4) s0 (nI (way % 4)) (nI (pc p)) I9 := by
              intro s0 hs0
              unfold w_X10_placeAll_92
              refine p_lay (w := w) (h := h) (hs := hs) (mi := miW way) hw1 hw2 hh1 hh2 (by rw [sm9 200 (by decide)]; exact c1) (by rw [sm9 200 (by decide)]; exact c2) (by rw [sm9 200 (by decide)]; exact c3) (by omega) hdx hdy hs0 (fun r z1 z2 z3 => ?_) (fun z => ⟨fun _ => ?_, fun q => absurd rfl q⟩)
              · obtain ⟨M, hM, rfl⟩ := u_ofBt r 20 (by omega) (fun i' h1 h2 => by
                  cases e : bt r i' with
                  | false => rfl
                  | true =>
                    obtain ⟨k, hk, hbk, ek⟩ := (z3 i' h2).mp e
                    have := plB_lt z1 hk hbk
                    omega)
                have hM : M < 1048576 := hM
                refine ⟨fun q => absurd q (nI_m1 (by omega)), fun _ => ⟨vp_in_nI (by omega) (by decide), ?_⟩⟩
                obtain ⟨o1, o2, o3, l, o4, o5, rfl, o6⟩ := hS9
                rw [nI_clamp (by omega), o3]
                have hl160 := hb160 p hz l o4 (fun x hx => pSet_plc hz2 ((o5 x).mp hx))
                refine p_insert o4 o6 hM (by omega) (fun I10 l' r1 r2 r3 r4 r5 => ?_)
                refine nxt _ I10 ⟨gSm_t o1 (gSm_w r1 (by decide)), fun p' hp' => ?_, by rw [r1 212 (by decide)]; exact o3, l', r2, fun x => (r3 x).trans ?_, rfl, r4⟩
                · obtain ⟨y1, y2, y3, y4⟩ := o2 p' hp'
                  have hup := fp_up (PL := PL) hp'
                  exact ⟨y1, y2, by rw [r1 212 (by decide)]; exact y3, fun i hi => by rw [r5 _ (by omega)]; exact y4 i hi⟩
                · rw [o5 x]
                  have hol := (noH_iff (hs := hs) hwh.1 z1 z3).mpr z2
                  constructor
                  · rintro (rfl | z | ⟨y1, dx', dy', y2, y3, y4, y5⟩)
                    · exact Or.inr ⟨hal, dx, dy, hdx, hdy, by omega, z1, z3, hol, hM⟩
                    · exact Or.inl z
                    · exact Or.inr ⟨y1, dx', dy', y2, y3, by omega, y5⟩
                  · rintro (z | ⟨y1, dx', dy', y2, y3, y4, y5, y6, y7⟩)
                    · exact Or.inr (Or.inl z)
                    · by_cases e : dx' = dx ∧ dy' = dy
                      · obtain ⟨rfl, rfl⟩ := e
                        exact Or.inl ((nI_eq (by omega) (by omega)).mp (isM_u y6 z3))
                      · exact Or.inr (Or.inr ⟨y1, dx', dy', y2, y3, by omega, y5, y6, y7⟩)
              · refine nxt _ I9 (pmS_c hS9 (fun x => ?_))
                constructor
                · rintro (z5 | ⟨y1, dx', dy', y2, y3, y4, y5⟩)
                  · exact Or.inl z5
                  · exact Or.inr ⟨y1, dx', dy', y2, y3, by omega, y5⟩
                · rintro (z5 | ⟨y1, dx', dy', y2, y3, y4, y5, y6, y7, y8⟩)
                  · exact Or.inl z5
                  · by_cases e : dx' = dx ∧ dy' = dy
                    · obtain ⟨rfl, rfl⟩ := e
                      exact absurd ⟨y5, (noH_iff hwh.1 y5 y6).mp y7⟩ z
                    · exact Or.inr ⟨y1, dx', dy', y2, y3, by omega, y5, y6, y7, y8⟩
            rw [nI_clamp (n := p) (by omega), f210]
            refine ⟨vp_in_nI (by omega) (by decide), by decide, ?_⟩
            rw [i_4, pk_rem (by omega) (by decide) (by decide)]
            refine pk_le way 3 (fun z => ?_) (fun z => ?_) rfl rfl
            · exact lay 0 ⟨fun _ => decide_eq_false (by omega), fun _ => rfl⟩
            · exact lay 1 ⟨fun z2 => absurd z2 one_ne, fun z2 => absurd z2 (by unfold miW; rw [decide_eq_true z]; decide)⟩
      have f16 : I7 200 16 = tu := by rw [sm7 200 (by decide)]; exact c4
      have f17 : I7 200 17 = mr := by rw [sm7 200 (by decide)]; exact c5
      have at40 : (tu = 0 → way % 4 = 0) → w_X10_placeAll_40 Po K K2 v1 (nI p) (nI way) I7 := by
        intro ht
        unfold w_X10_placeAll_40
        rw [f17]
        refine ⟨fun q => inn ⟨ht, fun z => absurd z q⟩, fun q => ?_⟩
        exact pk_le 4 way (fun z => out (fun a => by have := a.2 q; omega)) (fun z => inn ⟨ht, fun _ => z⟩) rfl rfl
      rw [f16]
      refine ⟨fun q => at40 (fun z => absurd z q), fun q => ⟨by decide, ?_⟩⟩
      rw [i_4, pk_rem (by omega) (by decide) (by decide)]
      refine ⟨fun q2 => out (fun a => q2 (by rw [a.1 q]; rfl)), fun q2 => at40 (fun _ => (nI_eq (b := 0) (by omega) (by decide)).mp q2)⟩
