/-! the model: digit, laid, middle -/
theorem sN_cN {p : Nat → Bool} : ∀ {n : Nat}, sN p (fun _ => 1) n = cN p n
  | 0 => rfl
  | n + 1 => by
    show sN p (fun _ => 1) n + (if p n = true then 1 else 0) = cN p n + (if p n = true then 1 else 0)
    rw [sN_cN]
theorem p_digit {T w a x : Nat} {I : gI} (h0 : I 200 0 = nI T) (hT : 0 < T) (hT8 : T ≤ 8) (hx : x < 4096) (hw4 : w ≤ 4) (ha : a < w) {Po : Int32 → Prop} (hk : Po (nI (x / T ^ (w - 1 - a) % T))) : wp_X10_digit (nI x) (nI w) (nI a) I Po := by
  unfold wp_X10_digit
  rw [i_1, pk_sub (by omega)]
  intro n1 e1
  subst e1
  unfold w_X10_digit_8
  refine gr2 (m0 := w - 1 - a) (fun K u v => w_X10_digit_8b Po K (nI a) u v I) (fun m u v => m ≤ w - 1 - a ∧ v = nI (a + m) ∧ u = nI (x / T ^ (w - 1 - a - m))) ⟨Nat.le_refl _, by rw [show a + (w - 1 - a) = w - 1 by omega], by rw [Nat.sub_self, Nat.pow_zero, Nat.div_one]⟩ ?_
  rintro m _ _ ⟨hm, rfl, rfl⟩ K kk
  have hxl : x / T ^ (w - 1 - a - m) < 4096 := Nat.lt_of_le_of_lt (Nat.div_le_self _ _) hx
  unfold w_X10_digit_8b
  refine pk_le (a + m) a (fun hz => ?_) (fun hz => ?_) rfl rfl
  · obtain rfl : m = 0 := by omega
    rw [h0, pk_rem (by omega) hT (by omega)]
    exact ⟨nI_ne0 hT (by omega), hk⟩
  · obtain ⟨q, rfl⟩ : ∃ q, m = q + 1 := ⟨m - 1, by omega⟩
    rw [h0, pk_div (by omega) hT (by omega), ← Nat.add_assoc, pk_m1]
    refine ⟨nI_ne0 hT (by omega), ?_⟩
    intro n5 e5 n6 e6
    refine kk q _ _ (by omega) ⟨by omega, e6, ?_⟩
    rw [e5, Nat.div_div_eq_div_mul, ← Nat.pow_succ, show (w - 1 - a - (q + 1)).succ = w - 1 - a - q by omega]
theorem eM_le {N : Nat → Nat} {cl : Bool} {x v : Nat} : eM N cl x v ≤ 1 := by
  unfold eM
  split
  · split <;> omega
  · omega
theorem wy_63 {X : Nat} {ok : Nat → Bool} {N S E : Nat → Nat} (hX : X ≤ 4096) (hE : ∀ v, E v ≤ 1) {k v : Nat} (hk : k ≤ 3) : wy X ok N S E k v < 9223372036854775808 := by
  have h1 := wy_le (X := X) (ok := ok) (N := N) (S := S) hE k v
  have h2 : X ^ k ≤ 4096 ^ k := Nat.pow_le_pow_left hX k
  have h3 : 4096 ^ k ≤ 4096 ^ 3 := Nat.pow_le_pow_right (by decide) hk
  have h4 : 4096 ^ 3 < 9223372036854775808 := by decide
  exact Nat.lt_of_le_of_lt (Nat.le_trans h1 (Nat.le_trans h2 h3)) h4
section
variable {T w X : Nat} {cl : Bool} {ok : Nat → Bool} {N S : Nat → Nat} {I : gI} {J : gL}
theorem p_laidG (h : MR X ok N S I) (h0 : I 200 0 = nI T) (hT8 : T ≤ 8) (hX : X = T ^ w) (hw1 : 1 ≤ w) (hw4 : w ≤ 4) {ht a b : Nat} (h1 : 1 ≤ ht) (h4 : ht ≤ 4) (ha : a < w) (hb : b < ht) {a3 : Int32} (hcl : a3 = 0 ↔ cl = false) {Po : Int32 → gI → gL → Prop} (hk : ∀ J', gJm [206] J J' → Po (if lf (gdF X ok ok N S (eM N cl) ht) X = X then -1 else nI (rwF X ok ok N S (eM N cl) ht b / T ^ (w - 1 - a) % T)) I J') : w_X10_laid_50 Po (nI w) (nI ht) a3 (nI a) (nI b) (-1) (-1) 0 I J := by
  obtain ⟨m1, m2, m3⟩ := MR_n h
  have tell : ∀ (x r : Nat), r < cN ok X → x = xr ok r → ∀ (J1 : gL) (s0 : Int32) (Po' : gL → Prop), s0 = (if cl = true then nI (N x) else -1) → (∀ J', gJm [206] J1 J' → (∀ k, k ≤ ht - 1 → ∀ v, v < 10000 → J' 206 (10000 * k + v) = lN (wy X ok N S (eM N cl x) k v)) → Po' J') → wp_X10_tellWays (nI (ht - 1)) s0 I J1 Po' := by
    intro x r hr hx J1 s0 Po' hs0 hk'
    obtain ⟨x1, x2, _, x4, x5, x6, x7⟩ := MR_r h hr
    rw [← hx] at x1 x2 x6
    refine p_tellWays h (by omega) (fun v hv q => ?_) (fun v hv q1 q2 => ?_) hk'
    · unfold eM
      cases e : cl with
      | false => rfl
      | true =>
        rw [e, if_pos rfl] at hs0
        rw [if_pos rfl]
        rcases q with q | q
        · rw [hs0] at q; exact absurd q (nI_m1 (by omega))
        · rw [hs0] at q
          rw [if_pos ((nI_eq (by omega) (by omega)).mp q)]
    · unfold eM
      cases e : cl with
      | false => rw [e, if_neg (by decide)] at hs0; exact absurd hs0 q1
      | true =>
        rw [e, if_pos rfl] at hs0
        rw [if_pos rfl, if_neg (fun z => q2 (by rw [hs0, z]))]
  unfold w_X10_laid_50
  refine gr4 (m0 := cN ok X) (fun K e f r J => w_X10_laid_50b Po K (nI w) (nI ht) a3 (nI a) (nI b) e f r I J) (fun m e f r J' => ∃ r0, r = nI r0 ∧ (r0 ≤ cN ok X ∧ m = cN ok X - r0) ∧ gJm [206] J J' ∧ (r0 ≠ 0 → e = (if cl = true then nI (N (xr ok (r0 - 1))) else -1) ∧ ∀ k, k ≤ ht - 1 → ∀ v, v < 10000 → J' 206 (10000 * k + v) = lN (wy X ok N S (eM N cl (xr ok (r0 - 1))) k v)) ∧ ((f = -1 ∧ ∀ r', r' < r0 → gdF X ok ok N S (eM N cl) ht (xr ok r') = false) ∨ (f = nI (r0 - 1) ∧ r0 ≠ 0 ∧ gdF X ok ok N S (eM N cl) ht (xr ok (r0 - 1)) = true ∧ ∀ r', r' < r0 - 1 → gdF X ok ok N S (eM N cl) ht (xr ok r') = false))) ⟨0, rfl, ⟨Nat.zero_le _, by omega⟩, gJm_r _, fun z => absurd rfl z, Or.inl ⟨rfl, fun r' hr' => absurd hr' (by omega)⟩⟩ ?_
  rintro m e f _ J1 ⟨r0, rfl, ⟨hr0, rfl⟩, g1, g2, g3⟩ K kk
  -- the first row is found
  have found : ∀ r1, r1 < cN ok X → gdF X ok ok N S (eM N cl) ht (xr ok r1) = true → (∀ r', r' < r1 → gdF X ok ok N S (eM N cl) ht (xr ok r') = false) → w_X10_laid_151 Po (nI w) (nI ht) a3 (nI a) (nI b) (nI r1) I J1 := by
    intro r1 hr1 hg hno
    obtain ⟨x1, x2, _, x4, x5, x6, x7⟩ := MR_r h hr1
    have efst : lf (gdF X ok ok N S (eM N cl) ht) X = xr ok r1 := lf_at x1 hg (fun y hy => by
      cases ey : gdF X ok ok N S (eM N cl) ht y with
      | false => rfl
      | true =>
        have hoy := (gdF_t.mp ey).1
        have hc := cN_ms hy hoy
        rw [(xr_lt hr1).2.2] at hc
        have := hno _ hc
        rw [xr_at hoy, ey] at this
        exact absurd this (by decide))
    have hlt : lf (gdF X ok ok N S (eM N cl) ht) X < X := by rw [efst]; exact x1
    have hrw := rwF_ok (fun x hx => hx) hlt
    have hT0 : 0 < T := by
      rcases Nat.eq_zero_or_pos T with z | z
      · rw [z, Nat.zero_pow (by omega)] at hX; omega
      · exact z
    have go : ∀ s0 : Int32, s0 = (if cl = true then nI (N (xr ok r1)) else -1) → w_X10_laid_178 Po (nI w) (nI ht) (nI a) (nI b) (nI r1) s0 (nI ht - 1) I J1 := by
      intro s0 hs0
      unfold w_X10_laid_178
      rw [i_1, pk_sub h1]
      refine tell (xr ok r1) r1 hr1 rfl J1 s0 _ hs0 (fun J11 u1 u2 => ?_)
      have j11 := gJm_t g1 u1
      unfold w_X10_laid_188
      refine gl2b (N := b + 1) (i0 := 1) (fun K u v => w_X10_laid_188b Po K (nI w) (nI ht) (nI a) (nI b) u v I J11) (fun j u => 1 ≤ j ∧ u = nI (cN ok (rwF X ok ok N S (eM N cl) ht (j - 1)))) (by omega) (by omega) ⟨Nat.le_refl _, ?_⟩ ?_
      · show nI r1 = nI (cN ok (lf (gdF X ok ok N S (eM N cl) ht) X))
        rw [efst, (xr_lt hr1).2.2]
      rintro j _ hj ⟨hj1, rfl⟩ K2 kk2
      obtain ⟨w1, w2, w3⟩ := hrw (j - 1) (by omega)
      have hcw := cN_ms w1 w2
      obtain ⟨_, _, y3, y4, y5, y6, y7⟩ := MR_r h hcw
      rw [xr_at w2] at y3 y4 y5 y6 y7
      unfold w_X10_laid_188b
      refine pk_lt b j (fun hz => ?_) (fun hz => ?_) rfl rfl
      · obtain rfl : j = b + 1 := by omega
        rw [nI_clamp (by omega), y3]
        refine ⟨vp_in_nI (by omega) (by decide), p_digit h0 hT0 hT8 (by omega) hw4 ha ?_⟩
        have := hk J11 j11
        rw [if_neg (by omega)] at this
        exact this
      · obtain ⟨v1, v2, v3⟩ := hrw (j - 1 + 1) (by omega)
        have hv : nxF X ok N S (eM N cl (lf (gdF X ok ok N S (eM N cl) ht) X)) (ht - 1 - (j - 1 + 1)) (S (rwF X ok ok N S (eM N cl) ht (j - 1))) (rwF X ok ok N S (eM N cl) ht (j - 1 + 1)) = true := (lf_sp _).2 v1
        obtain ⟨z1, z2, z3⟩ := nxF_t.mp hv
        have hcv := cN_ms v1 v2
        rw [efst] at z3
        have ej : ht - 1 - (j - 1 + 1) = ht - 1 - j := by omega
        rw [ej] at z3
        unfold w_X10_laid_198
        refine gl1 (N := cN ok (rwF X ok ok N S (eM N cl) ht (j - 1 + 1))) (i0 := 0) (fun K v => w_X10_laid_198b Po K2 K (nI w) (nI ht) (nI a) (nI b) (nI (cN ok (rwF X ok ok N S (eM N cl) ht (j - 1)))) (nI j) v I J11) (fun _ => True) (by omega) (Nat.zero_le _) trivial ?_
        rintro r hr - K3 kk3
        obtain ⟨o1, o2, o3, o4, o5, o6, o7⟩ := MR_r h (show r < cN ok X by omega)
        unfold w_X10_laid_198b
        rw [nI_clamp (n := r) (by omega), nI_clamp (n := cN ok _) (by omega), o4, y5, o5]
        refine ⟨vp_in_nI (by omega) (by decide), vp_in_nI (by omega) (by decide), ?_⟩
        have cont : ¬ (N (xr ok r) = S (rwF X ok ok N S (eM N cl) ht (j - 1)) ∧ 0 < wy X ok N S (eM N cl (xr ok r1)) (ht - 1 - j) (S (xr ok r))) → w_X10_laid_243 Po K2 K3 (nI w) (nI ht) (nI a) (nI b) (nI (cN ok (rwF X ok ok N S (eM N cl) ht (j - 1)))) (nI j) (nI r) I J11 := by
          intro hno
          unfold w_X10_laid_243
          intro n18 e18
          rw [nI_1] at e18
          subst e18
          refine kk3 ?_ trivial
          rcases Nat.lt_or_ge r (cN ok (rwF X ok ok N S (eM N cl) ht (j - 1 + 1))) with z | z
          · exact z
          · exfalso
            have e : xr ok r = rwF X ok ok N S (eM N cl) ht (j - 1 + 1) := by
              rw [show r = cN ok (rwF X ok ok N S (eM N cl) ht (j - 1 + 1)) by omega]; exact xr_at v2
            rw [e] at hno
            exact hno ⟨z2, z3⟩
        refine ⟨fun q => cont (fun z => q (by rw [z.1])), fun q => ?_⟩
        have hNS : N (xr ok r) = S (rwF X ok ok N S (eM N cl) ht (j - 1)) := (nI_eq (by omega) (by omega)).mp q
        have hw := u2 (ht - 1 - j) (by omega) (S (xr ok r)) o7
        rw [i_10000, i_1, pk_sub h1, pk_sub (by omega), pk_mul, nI_add, nI_clamp (by omega), hw]
        have hb63 := wy_63 (X := X) (ok := ok) (N := N) (S := S) (E := eM N cl (xr ok r1)) (k := ht - 1 - j) (v := S (xr ok r)) m3 (fun v => eM_le) (by omega)
        refine ⟨vp_in_nI (by omega) (by decide), vp_in_nI (by omega) (by decide), fun q2 => ?_, fun q2 => cont (fun z => ?_)⟩
        · have hpos : 0 < wy X ok N S (eM N cl (xr ok r1)) (ht - 1 - j) (S (xr ok r)) := by
            rcases Nat.eq_zero_or_pos (wy X ok N S (eM N cl (xr ok r1)) (ht - 1 - j) (S (xr ok r))) with z | z
            · exact absurd ((lg_cmp_eq _ _).mpr (by rw [z]; rfl)) q2
            · exact z
          intro n22 e22
          rw [nI_add] at e22
          subst e22
          refine kk2 (by omega) _ ⟨by omega, ?_⟩
          have e : rwF X ok ok N S (eM N cl) ht (j - 1 + 1) = xr ok r := by
            have hx' : nxF X ok N S (eM N cl (lf (gdF X ok ok N S (eM N cl) ht) X)) (ht - 1 - (j - 1 + 1)) (S (rwF X ok ok N S (eM N cl) ht (j - 1))) (xr ok r) = true := nxF_t.mpr ⟨o2, hNS, by rw [efst, ej]; exact hpos⟩
            refine lf_at o1 hx' (fun y hy => ?_)
            -- rows before it were passed over
            have hle : rwF X ok ok N S (eM N cl) ht (j - 1 + 1) ≤ xr ok r := by
              rcases Nat.lt_or_ge (xr ok r) (rwF X ok ok N S (eM N cl) ht (j - 1 + 1)) with z | z
              · have := (lf_sp (q := nxF X ok N S (eM N cl (lf (gdF X ok ok N S (eM N cl) ht) X)) (ht - 1 - (j - 1 + 1)) (S (rwF X ok ok N S (eM N cl) ht (j - 1)))) X).1 (xr ok r) z
                rw [hx'] at this; exact absurd this (by decide)
              · exact z
            have hge : xr ok r ≤ rwF X ok ok N S (eM N cl) ht (j - 1 + 1) := by
              rcases Nat.lt_or_ge (rwF X ok ok N S (eM N cl) ht (j - 1 + 1)) (xr ok r) with z | z
              · have := cN_ms z v2
                rw [(xr_lt (show r < cN ok X by omega)).2.2] at this
                omega
              · exact z
            exact (lf_sp (q := nxF X ok N S (eM N cl (lf (gdF X ok ok N S (eM N cl) ht) X)) (ht - 1 - (j - 1 + 1)) (S (rwF X ok ok N S (eM N cl) ht (j - 1)))) X).1 y (Nat.lt_of_lt_of_le hy hge)
          rw [show j + 1 - 1 = j - 1 + 1 by omega, e, (xr_lt (show r < cN ok X by omega)).2.2]
        · have := (pk_lEQ (b := 0) hb63 (by decide)).mp ((lg_cmp_eq _ _).mp q2)
          omega
    unfold w_X10_laid_151
    refine ⟨fun _ => ⟨fun q => ?_, fun q => ⟨vp_in_nI (by omega) (by decide), ?_⟩⟩, fun z => absurd z (nI_m1 (by omega))⟩
    · have ecl := hcl.mp q
      exact go _ (by rw [ecl]; rfl)
    · have ecl : cl = true := by
        cases e : cl with
        | true => rfl
        | false => exact absurd (hcl.mpr e) q
      rw [nI_clamp (by omega), x4]
      exact go _ (by rw [ecl]; rfl)
  unfold w_X10_laid_50b
  refine pk_le (cN ok X) r0 (fun hz => ?_) (fun hz => ?_) m1 rfl
  · rcases g3 with ⟨rfl, g3⟩ | ⟨rfl, g3, g4, g5⟩
    · unfold w_X10_laid_151
      refine ⟨fun z => absurd rfl z, fun _ => ?_⟩
      have no : lf (gdF X ok ok N S (eM N cl) ht) X = X := lf_no (fun y hy => by
        cases ey : gdF X ok ok N S (eM N cl) ht y with
        | false => rfl
        | true =>
          have hoy := (gdF_t.mp ey).1
          have hc := cN_ms hy hoy
          have := g3 (cN ok y) (by omega)
          rw [xr_at hoy, ey] at this
          exact absurd this (by decide))
      have := hk J1 g1
      rw [if_pos no] at this
      exact this
    · exact found (r0 - 1) (by omega) g4 g5
  · rcases g3 with ⟨rfl, g3⟩ | ⟨rfl, g3, g4, g5⟩
    · refine ⟨fun z => absurd rfl z, fun _ => ?_⟩
      obtain ⟨x1, x2, _, x4, x5, x6, x7⟩ := MR_r h hz
      have last : ∀ (e' : Int32) (J2 : gL), gJm [206] J J2 → e' = (if cl = true then nI (N (xr ok r0)) else -1) → (∀ k, k ≤ ht - 1 → ∀ v, v < 10000 → J2 206 (10000 * k + v) = lN (wy X ok N S (eM N cl (xr ok r0)) k v)) → w_X10_laid_112 Po K (nI w) (nI ht) a3 (nI a) (nI b) e' (nI r0) I J2 := by
        intro e' J2 j2 he' hw
        unfold w_X10_laid_112
        have hb63 := wy_63 (X := X) (ok := ok) (N := N) (S := S) (E := eM N cl (xr ok r0)) (k := ht - 1) (v := S (xr ok r0)) m3 (fun v => eM_le) (by omega)
        rw [i_1, pk_sub h1, nI_clamp (n := r0) (by omega), x5, i_10000, pk_mul, nI_add, nI_clamp (by omega), hw (ht - 1) (Nat.le_refl _) _ x7]
        refine ⟨vp_in_nI (by omega) (by decide), vp_in_nI (by omega) (by decide), fun q => ?_, fun q => ?_⟩
        · have hz0 : wy X ok N S (eM N cl (xr ok r0)) (ht - 1) (S (xr ok r0)) = 0 := by
            have := (pk_lLE (b := 0) hb63 (by decide)).mp ((lg_cmp_le _ _).mp q)
            omega
          have hbad : gdF X ok ok N S (eM N cl) ht (xr ok r0) = false := by
            cases ey : gdF X ok ok N S (eM N cl) ht (xr ok r0) with
            | false => rfl
            | true => have := (gdF_t.mp ey).2; omega
          unfold w_X10_laid_143
          intro n31 e31
          rw [nI_1] at e31
          subst e31
          refine kk (cN ok X - (r0 + 1)) _ _ _ J2 (by omega) ⟨r0 + 1, rfl, ⟨by omega, rfl⟩, j2, fun _ => ⟨he', hw⟩, Or.inl ⟨rfl, fun r' hr' => ?_⟩⟩
          by_cases e : r' = r0
          · rw [e]; exact hbad
          · exact g3 r' (by omega)
        · have hgood : gdF X ok ok N S (eM N cl) ht (xr ok r0) = true := gdF_t.mpr ⟨x2, by
            rcases Nat.eq_zero_or_pos (wy X ok N S (eM N cl (xr ok r0)) (ht - 1) (S (xr ok r0))) with z | z
            · exact absurd ((lg_cmp_le _ _).mpr (by rw [z]; exact (pk_lLE (a := 0) (b := 0) (by decide) (by decide)).mpr (Nat.le_refl 0))) q
            · exact z⟩
          unfold w_X10_laid_143
          intro n31 e31
          rw [nI_1] at e31
          subst e31
          exact kk (cN ok X - (r0 + 1)) _ _ _ J2 (by omega) ⟨r0 + 1, rfl, ⟨by omega, rfl⟩, j2, fun _ => ⟨he', hw⟩, Or.inr ⟨rfl, by omega, hgood, g3⟩⟩
      have re : w_X10_laid_86 Po K (nI w) (nI ht) a3 (nI a) (nI b) (nI r0) I J1 := by
        unfold w_X10_laid_86 w_X10_laid_101
        rw [nI_clamp (by omega), x4]
        refine i_1 ▸ ?_
        rw [pk_sub h1]
        refine ⟨fun q => ?_, fun q => ⟨vp_in_nI (by omega) (by decide), ?_⟩⟩
        · have ecl := hcl.mp q
          exact tell (xr ok r0) r0 hz rfl J1 _ _ (by rw [ecl]; rfl) (fun J2 u1 u2 => last _ J2 (gJm_t g1 u1) (by rw [ecl]; rfl) u2)
        · have ecl : cl = true := by
            cases e : cl with
            | true => rfl
            | false => exact absurd (hcl.mpr e) q
          exact tell (xr ok r0) r0 hz rfl J1 _ _ (by rw [ecl]; rfl) (fun J2 u1 u2 => last _ J2 (gJm_t g1 u1) (by rw [ecl]; rfl) u2)
      refine ⟨fun _ => re, fun q => ?_⟩
      have hr00 : r0 ≠ 0 := fun z => q (by rw [z]; rfl)
      obtain ⟨f1, f2⟩ := g2 hr00
      refine ⟨fun q2 => ?_, fun q2 => ⟨vp_in_nI (by omega) (by decide), ?_⟩⟩
      · have ecl := hcl.mp q2
        refine last e J1 g1 (by rw [f1, ecl]; rfl) (fun k hk' v hv => ?_)
        rw [f2 k hk' v hv, ecl]; rfl
      · have ecl : cl = true := by
          cases e : cl with
          | true => rfl
          | false => exact absurd (hcl.mpr e) q2
        rw [nI_clamp (by omega), x4]
        refine ⟨fun q3 => ?_, fun _ => re⟩
        have hp : N (xr ok (r0 - 1)) < 10000 := (MR_r h (show r0 - 1 < cN ok X by omega)).2.2.2.2.2.1
        have eN : N (xr ok r0) = N (xr ok (r0 - 1)) := by
          rw [f1, ecl, if_pos rfl] at q3
          exact (nI_eq (by omega) (by omega)).mp q3
        refine last e J1 g1 (by rw [f1, eN]) (fun k hk' v hv => ?_)
        rw [f2 k hk' v hv]
        unfold eM
        rw [eN]
    · exact ⟨fun _ => found (r0 - 1) (by omega) g4 g5, fun z => absurd z (nI_m1 (by omega))⟩
end
