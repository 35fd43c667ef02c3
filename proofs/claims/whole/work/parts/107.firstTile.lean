/-! the tile at a place of the first filling; round a middle -/
section
variable {room X C w : Nat} {cl : Bool} {ok al : Nat → Bool} {N S tc : Nat → Nat} {I I' : gI} {J : gL}
theorem p_firstTileAt (h : Bla room X C w cl ok al N S tc I) {Fs : Nat → Nat → Nat} (hT : Tls room Fs I J) {E : Nat → Nat → Nat} (hE0 : cl = false → E = fun _ v => if v < C then 1 else 0) (hE1 : cl = true → E = fun x v => if v = N x then 1 else 0) {ht a b : Nat} (h1 : 1 ≤ ht) (h4 : ht ≤ 4) (ha : a < w) (hb : b < ht) {Po : Int32 → gI → gL → Prop} (hk : ∀ I' J', gSm tlI I I' → gJm tlJ J J' → (∃ Fs', Tls room Fs' I' J') → Po (if lf (gdF X ok (fun x => ok x && al x) N S E ht) X = X then -1 else nI (tc (rwF X ok (fun x => ok x && al x) N S E ht b) / 8 ^ (w - 1 - a) % 8)) I' J') : wp_X5_firstTileAt room (nI ht) (nI a) (nI b) I J Po := by
  have hO : ∀ x, (fun x => ok x && al x) x = true → ok x = true := fun x hx => by
    have hx : (ok x && al x) = true := hx
    rw [Bool.and_eq_true] at hx; exact hx.1
  -- the rows below
  have below : ∀ (I1 : gI) (J1 : gL) (Fs1 : Nat → Nat → Nat), gSm tlI I I1 → gJm tlJ J J1 → Bla room X C w cl ok al N S tc I1 → Tls room Fs1 I1 J1 → lf (gdF X ok (fun x => ok x && al x) N S E ht) X < X → (∀ d, d ≤ ht - 1 → Fs1 d = wy X (fun x => ok x && al x) N S (E (lf (gdF X ok (fun x => ok x && al x) N S E ht) X)) d) → w_X5_firstTileAt_51 room Po (nI ht) (nI a) (nI b) (nI (cN ok (lf (gdF X ok (fun x => ok x && al x) N S E ht) X))) I1 J1 := by
    intro I1 J1 Fs1 s1 j1 b1 t1 hlt f1
    obtain ⟨n1, n2, n3, n4, n5, n6, n7⟩ := Bla_n b1
    have hrw := rwF_ok hO hlt
    unfold w_X5_firstTileAt_51 w_X5_firstTileAt_54
    refine gl2b (N := b + 1) (i0 := 1) (fun K r v => w_X5_firstTileAt_54b room Po K (nI ht) (nI a) (nI b) r v I1 J1) (fun j r => 1 ≤ j ∧ r = nI (cN ok (rwF X ok (fun x => ok x && al x) N S E ht (j - 1)))) (by omega) (by omega) ⟨Nat.le_refl _, rfl⟩ ?_
    rintro j _ hj ⟨hj1, rfl⟩ K kk
    obtain ⟨w1, w2, w3⟩ := hrw (j - 1) (by omega)
    have hcl := cN_ms w1 w2
    unfold w_X5_firstTileAt_54b
    refine pk_lt b j (fun hz => ?_) (fun hz => ?_) rfl rfl
    · obtain rfl : j = b + 1 := by omega
      unfold w_X5_firstTileAt_91
      refine ⟨fun _ => p_tileAt b1 w1 w2 ha ?_, fun z => absurd z (nI_m1 (by omega))⟩
      have := hk I1 J1 s1 j1 ⟨Fs1, t1⟩
      rw [if_neg (by omega)] at this
      exact this
    · refine ⟨fun z => absurd z (nI_m1 (by omega)), fun _ => ⟨vp_in_nI (by omega) (by omega), ?_⟩⟩
      obtain ⟨_, _, r74, rS, _⟩ := Bla_r b1 w1 w2
      rw [nI_clamp (by omega), r74]
      refine i_1 ▸ ?_
      rw [pk_sub h1, pk_sub (by omega)]
      have fE := f1 (ht - 1 - j) (by omega)
      refine p_firstBelow b1 t1 rS (by omega) (fun x hx hox hax hNx hpos hfst => ?_) (fun hnone => ?_)
      · intro n13 e13
        rw [nI_add] at e13
        subst e13
        refine kk (by omega) _ ⟨by omega, ?_⟩
        rw [show j + 1 - 1 = (j - 1) + 1 by omega]
        have : rwF X ok (fun x => ok x && al x) N S E ht (j - 1 + 1) = x := by
          refine lf_at hx (nxF_t.mpr ⟨by show (ok x && al x) = true; rw [hox, hax]; rfl, hNx, ?_⟩) (fun y hy => ?_)
          · rw [show ht - 1 - (j - 1 + 1) = ht - 1 - j by omega, ← fE]; exact hpos
          · cases e : nxF X (fun x => ok x && al x) N S (E (lf (gdF X ok (fun x => ok x && al x) N S E ht) X)) (ht - 1 - (j - 1 + 1)) (S (rwF X ok (fun x => ok x && al x) N S E ht (j - 1))) y with
            | false => rfl
            | true =>
              obtain ⟨z1, z2, z3⟩ := nxF_t.mp e
              have z1 : (ok y && al y) = true := z1
              rw [Bool.and_eq_true] at z1
              have := hfst y hy z1.1 z1.2 z2
              rw [fE] at this
              rw [show ht - 1 - (j - 1 + 1) = ht - 1 - j by omega] at z3
              omega
        rw [this]
      · exfalso
        obtain ⟨v1, v2, v3⟩ := hrw (j - 1 + 1) (by omega)
        have hv : nxF X (fun x => ok x && al x) N S (E (lf (gdF X ok (fun x => ok x && al x) N S E ht) X)) (ht - 1 - (j - 1 + 1)) (S (rwF X ok (fun x => ok x && al x) N S E ht (j - 1))) (rwF X ok (fun x => ok x && al x) N S E ht (j - 1 + 1)) = true := (lf_sp _).2 v1
        obtain ⟨z1, z2, z3⟩ := nxF_t.mp hv
        have z1 : (ok _ && al _) = true := z1
        rw [Bool.and_eq_true] at z1
        have := hnone _ v1 z1.1 z1.2 z2
        rw [fE] at this
        rw [show ht - 1 - (j - 1 + 1) = ht - 1 - j by omega] at z3
        omega
  have hc10 := (Bla_c h).2.1
  unfold wp_X5_firstTileAt
  refine ⟨fun q => ?_, fun q => ?_⟩
  · have ecl := hc10.mp q
    have eE := hE0 ecl
    refine p_firstOpenRow h hT h1 h4 (fun I1 J1 Fs1 a1 a2 a3 a4 a5 r r1 r2 => ?_)
    obtain ⟨n1, n2, n3, n4, n5, n6, n7⟩ := Bla_n a3
    rw [show (fun (_ : Nat) (v : Nat) => if v < C then 1 else 0) = E from eE.symm] at r1 r2
    unfold w_X5_firstTileAt_20
    have hle := lf_le (q := gdF X ok (fun x => ok x && al x) N S E ht) X
    rcases Nat.lt_or_ge (lf (gdF X ok (fun x => ok x && al x) N S E ht) X) X with z | z
    · rw [r2 z]
      have hcl := cN_le ok (lf (gdF X ok (fun x => ok x && al x) N S E ht) X)
      refine ⟨fun _ => ⟨fun _ => ?_, fun q2 => absurd ((Bla_c a3).2.1.mpr ecl) q2⟩, fun y => absurd y (nI_m1 (by omega))⟩
      refine below I1 J1 Fs1 a1 a2 a3 a4 z (fun d hd => ?_)
      rw [a5 d hd, eE]
    · rw [r1 (by omega)]
      refine ⟨fun y => absurd rfl y, fun _ => ?_⟩
      have := hk I1 J1 a1 a2 ⟨Fs1, a4⟩
      rw [if_pos (by omega)] at this
      exact this
  · have ecl : cl = true := by
      cases e : cl with
      | true => rfl
      | false => exact absurd (hc10.mpr e) q
    have eE := hE1 ecl
    refine p_firstRingRow h ecl hT h1 h4 (fun I1 J1 Fs1 a1 a2 a4 r r1 r2 => ?_)
    have a3 := Bla_k h a1
    obtain ⟨n1, n2, n3, n4, n5, n6, n7⟩ := Bla_n a3
    rw [show (fun (x : Nat) (v : Nat) => if v = N x then 1 else 0) = E from eE.symm] at r1 r2
    unfold w_X5_firstTileAt_20
    have hle := lf_le (q := gdF X ok (fun x => ok x && al x) N S E ht) X
    rcases Nat.lt_or_ge (lf (gdF X ok (fun x => ok x && al x) N S E ht) X) X with z | z
    · rw [r2 z]
      have hcl := cN_le ok (lf (gdF X ok (fun x => ok x && al x) N S E ht) X)
      have hox : ok (lf (gdF X ok (fun x => ok x && al x) N S E ht) X) = true := (gdF_t.mp ((lf_sp (q := gdF X ok (fun x => ok x && al x) N S E ht) X).2 z)).1
      have hax := Bla_al a3 ecl hox
      obtain ⟨_, r73, _, _, rN, _⟩ := Bla_r a3 z hox
      rw [if_pos hax] at r73
      refine ⟨fun _ => ⟨fun q2 => absurd ((Bla_c a3).2.1.mp q2) (by rw [ecl]; decide), fun _ => ⟨vp_in_nI (by omega) (by omega), ?_⟩⟩, fun y => absurd y (nI_m1 (by omega))⟩
      rw [nI_clamp (by omega), r73]
      refine i_1 ▸ ?_
      rw [pk_sub h1]
      refine Bla_at a3 a4 (rN hax) (by omega) (fun I2 J2 Fs2 b1 b2 b3 b4 b5 => ?_)
      refine below I2 J2 Fs2 (gSm_t a1 b1) (gJm_t a2 b2) b3 b4 z (fun d hd => ?_)
      rw [b5 d hd, eE]
    · rw [r1 (by omega)]
      refine ⟨fun y => absurd rfl y, fun _ => ?_⟩
      have := hk I1 J1 a1 a2 ⟨Fs1, a4⟩
      rw [if_pos (by omega)] at this
      exact this
theorem p_around (h : Bla room X C w cl ok al N S tc I) (hw : 2 ≤ w) {Fs : Nat → Nat → Nat} (hT : Tls room Fs I J) {t : Nat} (ht8 : t < 8) {Po : Int64 → gI → gL → Prop} (hk : ∀ I' J', gSm tlI I I' → gJm tlJ J J' → (∃ Fs', Tls room Fs' I' J') → Po (lN (sN ok (fun x => if (al x && decide (tc x / 8 ^ (w - 1 - 1) % 8 = t)) = true then cN (fun y => ok y && decide (S y = N x)) X * wy X (fun x => ok x && al x) N S (fun v => if v < C then 1 else 0) 1 (S x) else 0) X)) I' J') : wp_X5_countAroundMiddle room (nI t) I J Po := by
  unfold wp_X5_countAroundMiddle
  refine i_1 ▸ ?_
  refine Bla_any h hT (by omega) (fun I1 J1 Fs1 a1 a2 a3 a4 a5 => ⟨vp_in_nI (by omega) (by decide), ?_⟩)
  rw [nI_clamp (by omega)]
  obtain ⟨n1, n2, n3, n4, n5, n6, n7⟩ := Bla_n a3
  unfold w_X5_countAroundMiddle_17
  refine gl2b (N := cN ok X) (i0 := 0) (fun K a v => w_X5_countAroundMiddle_17b room Po K (nI t) 1 a v I1 J1) (fun r a => a = lN (sN (fun _ => true) (fun r => (fun x => if (al x && decide (tc x / 8 ^ (w - 1 - 1) % 8 = t)) = true then cN (fun y => ok y && decide (S y = N x)) X * wy X (fun x => ok x && al x) N S (fun v => if v < C then 1 else 0) 1 (S x) else 0) (xr ok r)) r)) (by omega) (by omega) rfl ?_
  rintro r _ hr rfl K kk
  unfold w_X5_countAroundMiddle_17b
  refine pk_le (cN ok X) r (fun hz => ?_) (fun hz => ?_) (Bla_m a3) rfl
  · obtain rfl : r = cN ok X := by omega
    rw [sN_xr (fun x => if (al x && decide (tc x / 8 ^ (w - 1 - 1) % 8 = t)) = true then cN (fun y => ok y && decide (S y = N x)) X * wy X (fun x => ok x && al x) N S (fun v => if v < C then 1 else 0) 1 (S x) else 0)]
    exact hk I1 J1 a1 a2 ⟨Fs1, a4⟩
  · obtain ⟨x1, x2, x3⟩ := xr_lt hz
    obtain ⟨_, r73, r74, rS, rN, r6, _⟩ := Bla_r a3 x1 x2
    have ht : ∀ (Po' : Int32 → Prop), Po' (nI (tc (xr ok r) / 8 ^ (w - 1 - 1) % 8)) → wp_X5_tileAt room (nI (cN ok (xr ok r))) (nI 1) I1 Po' := fun Po' h => p_tileAt a3 x1 x2 (by omega) h
    rw [x3] at r73 r74 ht
    rw [nI_clamp (n := r) (by omega), r73, r74]
    refine ⟨vp_in_nI (by omega) (by omega), ?_⟩
    intro n6' e6
    subst e6
    have skip : (al (xr ok r) && decide (tc (xr ok r) / 8 ^ (w - 1 - 1) % 8 = t)) = false → w_X5_countAroundMiddle_96 room Po K (nI t) 1 (lN (sN (fun _ => true) (fun r => (fun x => if (al x && decide (tc x / 8 ^ (w - 1 - 1) % 8 = t)) = true then cN (fun y => ok y && decide (S y = N x)) X * wy X (fun x => ok x && al x) N S (fun v => if v < C then 1 else 0) 1 (S x) else 0) (xr ok r)) r)) (nI r) I1 J1 := by
      intro hf
      unfold w_X5_countAroundMiddle_96
      intro n9 e9
      rw [nI_1] at e9
      subst e9
      refine kk hz _ ?_
      rw [sN_ts]
      show _ = lN (_ + (if (al (xr ok r) && decide (tc (xr ok r) / 8 ^ (w - 1 - 1) % 8 = t)) = true then _ else 0))
      rw [if_neg (by rw [hf]; decide), Nat.add_zero]
    refine i_1 ▸ ?_
    refine ht _ ⟨fun q => skip ?_, fun q => ?_⟩
    · rw [decide_eq_false (fun z => q (by rw [z])), Bool.and_false]
    · have hteq : tc (xr ok r) / 8 ^ (w - 1 - 1) % 8 = t := (nI_eq (by have := Nat.mod_lt (tc (xr ok r) / 8 ^ (w - 1 - 1)) (show 0 < 8 by decide); omega) (by omega)).mp q
      refine ⟨fun q2 => skip ?_, fun q2 => ?_⟩
      · have : ¬ al (xr ok r) = true := fun z => by
          rw [if_pos z] at q2
          exact nI_m1 (by have := rN z; omega) q2
        rw [show al (xr ok r) = false by cases e : al (xr ok r) with | false => rfl | true => exact absurd e this]
        rfl
      · have hal : al (xr ok r) = true := Classical.byContradiction fun z => q2 (by rw [if_neg z])
        have rN := rN hal
        rw [if_pos hal]
        have sh := Bla_1 a3
        have hbl := bX_le (X := X) (ok := ok) (cnd := fun _ => true) (cf := S) (c := N (xr ok r) + 1)
        have hbs := bX_s (X := X) (ok := ok) (cnd := fun _ => true) (cf := S) (c := N (xr ok r))
        have e79 : I1 79 (N (xr ok r)) = nI (bX X ok (fun _ => true) S (N (xr ok r))) := sh.1 _ (by omega)
        have e79' : I1 79 (N (xr ok r) + 1) = nI (bX X ok (fun _ => true) S (N (xr ok r) + 1)) := sh.1 _ (by omega)
        rw [nI_add, nI_clamp (n := N (xr ok r) + 1) (by omega), nI_clamp (n := N (xr ok r)) (by omega), e79, e79', pk_sub (by omega), nI_clamp (n := S (xr ok r)) (by omega)]
        refine ⟨vp_in_nI (by omega) (by omega), vp_in_nI (by omega) (by omega), ?_⟩
        intro n13 e13
        subst e13
        have hJ := ((a4 1 (by omega)).1 (S (xr ok r)) (by omega)).1
        rw [a5 1 (Nat.le_refl _)] at hJ
        rw [nI_l (by omega), hJ, lN_mul, lN_add]
        refine ⟨vp_in_nI (by omega) (by omega), vp_in_nI (by omega) (by omega), ?_⟩
        intro n16 e16
        subst e16
        unfold w_X5_countAroundMiddle_96
        intro n9 e9
        rw [nI_1] at e9
        subst e9
        refine kk hz _ ?_
        rw [sN_ts]
        show _ = lN (_ + (if (al (xr ok r) && decide (tc (xr ok r) / 8 ^ (w - 1 - 1) % 8 = t)) = true then _ else 0))
        rw [if_pos (by rw [hal, decide_eq_true hteq]; rfl), show bX X ok (fun _ => true) S (N (xr ok r) + 1) - bX X ok (fun _ => true) S (N (xr ok r)) = cN (fun y => ok y && decide (S y = N (xr ok r))) X from by
          rw [hbs, Nat.add_sub_cancel_left]
          exact cN_congr (fun y _ => by unfold pX; rw [Bool.true_and])]
end
