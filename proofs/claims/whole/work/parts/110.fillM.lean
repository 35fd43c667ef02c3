/-! the model: around a ring, fill -/
theorem fw_eq {X : Nat} {ok : Nat → Bool} {N S : Nat → Nat} {a : Nat} (j : Nat) : fw X ok N S a (j + 1) a = wy X ok N S (fun v => if v = a then 1 else 0) (j + 1) a := by
  have sh : ∀ (k i : Nat), sN ok (fun x => fw X ok N S a k (N x) * wy X ok N S (fun v => if v = a then 1 else 0) i (S x)) X = sN ok (fun x => fw X ok N S a (k + i) (N x) * wy X ok N S (fun v => if v = a then 1 else 0) 0 (S x)) X := by
    intro k i
    induction i generalizing k with
    | zero => rfl
    | succ i ih => rw [fw_wy, ih (k + 1), show k + 1 + i = k + (i + 1) by omega]
  have e := sh 0 j
  rw [Nat.zero_add] at e
  have l : sN ok (fun x => fw X ok N S a 0 (N x) * wy X ok N S (fun v => if v = a then 1 else 0) j (S x)) X = wy X ok N S (fun v => if v = a then 1 else 0) (j + 1) a := by
    show _ = sN (fun x => ok x && decide (N x = a)) (fun x => wy X ok N S (fun v => if v = a then 1 else 0) j (S x)) X
    rw [← sN_if]
    refine sN_cg (fun x _ => ⟨rfl, fun _ => ?_⟩)
    show (if N x = a then 1 else 0) * _ = _
    by_cases z : N x = a
    · rw [if_pos z, if_pos (decide_eq_true z), Nat.one_mul]
    · rw [if_neg z, if_neg (by rw [decide_eq_false z]; decide), Nat.zero_mul]
  have r : sN ok (fun x => fw X ok N S a j (N x) * wy X ok N S (fun v => if v = a then 1 else 0) 0 (S x)) X = fw X ok N S a (j + 1) a := by
    show _ = sN (fun x => ok x && decide (S x = a)) (fun x => fw X ok N S a j (N x)) X
    rw [← sN_if]
    refine sN_cg (fun x _ => ⟨rfl, fun _ => ?_⟩)
    show _ * (if S x = a then 1 else 0) = _
    by_cases z : S x = a
    · rw [if_pos z, if_pos (decide_eq_true z), Nat.mul_one]
    · rw [if_neg z, if_neg (by rw [decide_eq_false z]; decide), Nat.mul_zero]
  rw [← r, ← l, e]
theorem open_sum {X C : Nat} {ok : Nat → Bool} {N : Nat → Nat} {f : Nat → Nat} (hN : ∀ x, x < X → ok x = true → N x < C) : sN (fun _ => true) (fun v => sN (fun x => ok x && decide (N x = v)) f X) C = sN ok f X := by
  have e := sN_swap (p := fun v x => decide (N x = v)) (f := fun _ x => f x) (q := fun _ => true) (r := ok) X C
  refine Eq.trans e (sN_cg (fun x hx => ⟨rfl, fun hp => ?_⟩))
  exact sN_one (f := fun _ => f x) (hN x hx hp) (by show (true && decide (N x = N x)) = true; rw [Bool.true_and, decide_eq_true_eq]) (fun i hi hpi => by
    have hpi : (true && decide (N x = i)) = true := hpi
    rw [Bool.true_and, decide_eq_true_eq] at hpi
    exact hpi.symm)
section
variable {X : Nat} {ok : Nat → Bool} {N S : Nat → Nat} {I : gI} {J : gL}
theorem p_aroundM (h : MR X ok N S I) {a ht : Nat} (ha : a < 10000) (hN : ∃ r, r < cN ok X ∧ N (xr ok r) = a) (h4 : ht ≤ 4) {Po : Int64 → gL → Prop} (hk : ∀ J', gJm [208, 209] J J' → Po (lN (fw X ok N S a ht a)) J') : wp_X10_around (nI a) (nI ht) I J Po := by
  obtain ⟨m1, m2, m3⟩ := MR_n h
  unfold wp_X10_around w_X10_around_2
  refine gl2 (N := 10000) (i0 := 0) (fun K v J => w_X10_around_2b Po K (nI a) (nI ht) v I J) (fun u J' => gJm [208, 209] J J' ∧ ∀ v, v < u → J' 208 v = lN 0) (by decide) (by decide) ⟨gJm_r _, fun v hv => absurd hv (by omega)⟩ ?_
  rintro u J1 hu ⟨g1, g2⟩ K kk
  unfold w_X10_around_2b
  refine pk_le 10000 u (fun hz => ?_) (fun hz => ?_) rfl rfl
  · rw [nI_clamp (by omega)]
    refine ⟨vp_in_nI (by omega) (by decide), ?_⟩
    intro J3 e3
    unfold w_X10_around_31
    refine gl2 (N := ht) (i0 := 0) (fun K v J => w_X10_around_31b Po K (nI a) (nI ht) v I J) (fun k J' => gJm [208, 209] J J' ∧ ∀ v, v < 10000 → J' 208 v = lN (fw X ok N S a k v)) (by omega) (by omega) ⟨by rw [e3]; exact gJm_u g1 (by decide), fun v hv => ?_⟩ ?_
    · show J3 208 v = lN (if v = a then 1 else 0)
      by_cases e : v = a
      · subst e; rw [e3, gup_at, if_pos rfl]; rfl
      · rw [e3, gup_ne e, if_neg e]; exact g2 v (by omega)
    rintro k J4 hk4 ⟨o1, o2⟩ K2 kk2
    unfold w_X10_around_31b
    refine pk_le ht k (fun hz2 => ?_) (fun hz2 => ?_) rfl rfl
    · obtain rfl : k = ht := by omega
      rw [nI_clamp (by omega), o2 a ha]
      exact ⟨vp_in_nI (by omega) (by decide), hk J4 o1⟩
    · unfold w_X10_around_39
      refine gl2 (N := cN ok X) (i0 := 0) (fun K v J => w_X10_around_39b Po K2 K (nI a) (nI ht) (nI k) v I J) (fun r J' => gJm [208, 209] J J' ∧ J' 208 = J4 208 ∧ ∀ r', r' < r → J' 209 (S (xr ok r')) = lN 0) (by omega) (by omega) ⟨o1, rfl, fun r' hr' => absurd hr' (by omega)⟩ ?_
      rintro r J5 hr ⟨p1, p2, p3⟩ K3 kk3
      unfold w_X10_around_39b
      refine pk_le (cN ok X) r (fun hz3 => ?_) (fun hz3 => ?_) m1 rfl
      · unfold w_X10_around_70
        refine gl2 (N := cN ok X) (i0 := 0) (fun K v J => w_X10_around_70b Po K2 K (nI a) (nI ht) (nI k) v I J) (fun r J' => gJm [208, 209] J J' ∧ J' 208 = J4 208 ∧ ∀ r', r' < cN ok X → J' 209 (S (xr ok r')) = lN (sN (fun _ => true) (fun r2 => if S (xr ok r2) = S (xr ok r') then fw X ok N S a k (N (xr ok r2)) else 0) r)) (by omega) (by omega) ⟨p1, p2, fun r' hr' => p3 r' (by omega)⟩ ?_
        rintro r6 J6 hr6 ⟨q1, q2, q3⟩ K4 kk4
        unfold w_X10_around_70b
        refine pk_le (cN ok X) r6 (fun hz4 => ?_) (fun hz4 => ?_) m1 rfl
        · obtain rfl : r6 = cN ok X := by omega
          have eG : ∀ v, sN (fun _ => true) (fun r2 => if S (xr ok r2) = v then fw X ok N S a k (N (xr ok r2)) else 0) (cN ok X) = fw X ok N S a (k + 1) v := fun v => by
            rw [sN_xr (fun x => if S x = v then fw X ok N S a k (N x) else 0)]
            show _ = sN (fun x => ok x && decide (S x = v)) (fun x => fw X ok N S a k (N x)) X
            rw [← sN_if]
            refine sN_cg (fun x _ => ⟨rfl, fun _ => ?_⟩)
            by_cases z : S x = v
            · rw [if_pos z, if_pos (decide_eq_true z)]
            · rw [if_neg z, if_neg (by rw [decide_eq_false z]; decide)]
          have eS : ∀ r', r' < cN ok X → J6 209 (S (xr ok r')) = lN (fw X ok N S a (k + 1) (S (xr ok r'))) := fun r' hr' => by rw [q3 r' hr', eG]
          unfold w_X10_around_115
          refine gl2 (N := cN ok X) (i0 := 0) (fun K v J => w_X10_around_115b Po K2 K (nI a) (nI ht) (nI k) v I J) (fun r J' => gJm [208, 209] J J' ∧ J' 209 = J6 209 ∧ ∀ v, v < 10000 → ((∃ r', r' < r ∧ N (xr ok r') = v) → J' 208 v = lN 0) ∧ ((¬ ∃ r', r' < r ∧ N (xr ok r') = v) → J' 208 v = lN (fw X ok N S a k v))) (by omega) (by omega) ⟨q1, rfl, fun v hv => ⟨fun ⟨r', h1, _⟩ => absurd h1 (by omega), fun _ => by rw [q2]; exact o2 v hv⟩⟩ ?_
          rintro r7 J7 hr7 ⟨s1, s2, s3⟩ K5 kk5
          unfold w_X10_around_115b
          refine pk_le (cN ok X) r7 (fun hz5 => ?_) (fun hz5 => ?_) m1 rfl
          · obtain rfl : r7 = cN ok X := by omega
            unfold w_X10_around_146
            refine gl2 (N := cN ok X) (i0 := 0) (fun K v J => w_X10_around_146b Po K2 K (nI a) (nI ht) (nI k) v I J) (fun r J' => gJm [208, 209] J J' ∧ J' 209 = J6 209 ∧ ∀ v, v < 10000 → ((∃ r', r' < r ∧ S (xr ok r') = v) → J' 208 v = lN (fw X ok N S a (k + 1) v)) ∧ ((¬ ∃ r', r' < r ∧ S (xr ok r') = v) → J' 208 v = J7 208 v)) (by omega) (by omega) ⟨s1, s2, fun v hv => ⟨fun ⟨r', h1, _⟩ => absurd h1 (by omega), fun _ => rfl⟩⟩ ?_
            rintro r8 J8 hr8 ⟨t1, t2, t3⟩ K6 kk6
            unfold w_X10_around_146b
            refine pk_le (cN ok X) r8 (fun hz6 => ?_) (fun hz6 => ?_) m1 rfl
            · obtain rfl : r8 = cN ok X := by omega
              intro n10 e10
              rw [nI_1] at e10
              subst e10
              refine kk2 hz2 J8 ⟨t1, fun v hv => ?_⟩
              by_cases hs : ∃ r', r' < cN ok X ∧ S (xr ok r') = v
              · exact (t3 v hv).1 hs
              · have noS : ∀ x, x < X → ok x = true → S x ≠ v := fun x hx hox e => hs ⟨cN ok x, cN_ms hx hox, by rw [xr_at hox]; exact e⟩
                have f0 : ∀ i, fw X ok N S a (i + 1) v = 0 := fun i => sN_zero (fun x hx hp => by
                  have hp : (ok x && decide (S x = v)) = true := hp
                  rw [Bool.and_eq_true, decide_eq_true_eq] at hp
                  exact absurd hp.2 (noS x hx hp.1))
                rw [(t3 v hv).2 hs, f0 k]
                by_cases hn : ∃ r', r' < cN ok X ∧ N (xr ok r') = v
                · exact (s3 v hv).1 hn
                · rw [(s3 v hv).2 hn]
                  cases k with
                  | zero =>
                    show lN (if v = a then 1 else 0) = lN 0
                    rw [if_neg (fun e => hn (by rw [e]; exact hN))]
                  | succ k => rw [f0 k]
            · obtain ⟨x1, x2, _, x4, x5, x6, x7⟩ := MR_r h hz6
              rw [nI_clamp (n := r8) (by omega), x5, nI_clamp (n := S (xr ok r8)) (by omega), t2, eS r8 hz6, nI_1]
              refine ⟨vp_in_nI (by omega) (by decide), vp_in_nI (by omega) (by decide), vp_in_nI (by omega) (by decide), vp_in_nI (by omega) (by decide), ?_⟩
              intro J15 e15 n16 e16
              subst e16
              refine kk6 hz6 J15 ⟨by rw [e15]; exact gJm_u t1 (by decide), by rw [e15, gup_o (by decide)]; exact t2, fun v hv => ⟨fun hex => ?_, fun hno => ?_⟩⟩
              · by_cases e : v = S (xr ok r8)
                · subst e; rw [e15, gup_at]
                · rw [e15, gup_ne e]
                  obtain ⟨r', h1, h2⟩ := hex
                  exact (t3 v hv).1 ⟨r', by
                    rcases Nat.lt_or_ge r' r8 with z | z
                    · exact z
                    · rw [show r' = r8 by omega] at h2; exact absurd h2.symm e, h2⟩
              · have e : v ≠ S (xr ok r8) := fun e => hno ⟨r8, by omega, e.symm⟩
                rw [e15, gup_ne e]
                exact (t3 v hv).2 (fun ⟨r', h1, h2⟩ => hno ⟨r', by omega, h2⟩)
          · obtain ⟨x1, x2, _, x4, x5, x6, x7⟩ := MR_r h hz5
            rw [nI_clamp (n := r7) (by omega), x4, nI_clamp (n := N (xr ok r7)) (by omega), nI_1]
            refine ⟨vp_in_nI (by omega) (by decide), vp_in_nI (by omega) (by decide), ?_⟩
            intro J19 e19 n20 e20
            subst e20
            refine kk5 hz5 J19 ⟨by rw [e19]; exact gJm_u s1 (by decide), by rw [e19, gup_o (by decide)]; exact s2, fun v hv => ⟨fun hex => ?_, fun hno => ?_⟩⟩
            · by_cases e : v = N (xr ok r7)
              · subst e; rw [e19, gup_at]; rfl
              · rw [e19, gup_ne e]
                obtain ⟨r', h1, h2⟩ := hex
                exact (s3 v hv).1 ⟨r', by
                  rcases Nat.lt_or_ge r' r7 with z | z
                  · exact z
                  · rw [show r' = r7 by omega] at h2; exact absurd h2.symm e, h2⟩
            · have e : v ≠ N (xr ok r7) := fun e => hno ⟨r7, by omega, e.symm⟩
              rw [e19, gup_ne e]
              exact (s3 v hv).2 (fun ⟨r', h1, h2⟩ => hno ⟨r', by omega, h2⟩)
        · obtain ⟨x1, x2, _, x4, x5, x6, x7⟩ := MR_r h hz4
          have w1 : J6 208 (N (xr ok r6)) = lN (fw X ok N S a k (N (xr ok r6))) := by rw [q2]; exact o2 _ x6
          rw [nI_clamp (n := r6) (by omega), x4, x5, nI_clamp (n := S (xr ok r6)) (by omega), nI_clamp (n := N (xr ok r6)) (by omega), q3 r6 hz4, w1, lN_add, nI_1]
          refine ⟨vp_in_nI (by omega) (by decide), vp_in_nI (by omega) (by decide), vp_in_nI (by omega) (by decide), vp_in_nI (by omega) (by decide), vp_in_nI (by omega) (by decide), ?_⟩
          intro J26 e26 n27 e27
          subst e27
          refine kk4 hz4 J26 ⟨by rw [e26]; exact gJm_u q1 (by decide), by rw [e26, gup_o (by decide)]; exact q2, fun r' hr' => ?_⟩
          rw [sN_ts]
          by_cases e : S (xr ok r') = S (xr ok r6)
          · rw [e, e26, gup_at, if_pos rfl]
          · rw [e26, gup_ne e, if_neg (fun z => e z.symm), Nat.add_zero]
            exact q3 r' hr'
      · obtain ⟨x1, x2, _, x4, x5, x6, x7⟩ := MR_r h hz3
        rw [nI_clamp (n := r) (by omega), x5, nI_clamp (n := S (xr ok r)) (by omega), nI_1]
        refine ⟨vp_in_nI (by omega) (by decide), vp_in_nI (by omega) (by decide), ?_⟩
        intro J30 e30 n31 e31
        subst e31
        refine kk3 hz3 J30 ⟨by rw [e30]; exact gJm_u p1 (by decide), by rw [e30, gup_o (by decide)]; exact p2, fun r' hr' => ?_⟩
        by_cases e : S (xr ok r') = S (xr ok r)
        · rw [e, e30, gup_at]; rfl
        · rw [e30, gup_ne e]
          refine p3 r' ?_
          rcases Nat.lt_or_ge r' r with z | z
          · exact z
          · rw [show r' = r by omega] at e; exact absurd rfl e
  · rw [nI_clamp (by omega), nI_1]
    refine ⟨vp_in_nI (by omega) (by decide), ?_⟩
    intro J33 e33 n34 e34
    subst e34
    refine kk hz J33 ⟨by rw [e33]; exact gJm_u g1 (by decide), fun v hv => ?_⟩
    by_cases e : v = u
    · subst e; rw [e33, gup_at]; rfl
    · rw [e33, gup_ne e]; exact g2 v (by omega)
/-- how the model's ways end: anywhere, or in rings where they began -/
def eM (N : Nat → Nat) (cl : Bool) (x v : Nat) : Nat := if cl = true then (if v = N x then 1 else 0) else 1
noncomputable def smM (X : Nat) (ok : Nat → Bool) (N S : Nat → Nat) (cl : Bool) (ht : Nat) : Nat := sN ok (fun x => wy X ok N S (eM N cl x) (ht - 1) (S x)) X
end
theorem p_fillM {T w : Nat} {c : Nat → Nat → Nat} {cl : Bool} {I : gI} {J : gL} (hR : RelT T c I) (hw1 : 1 ≤ w) (hw4 : w ≤ 4) {ht : Nat} (h1 : 1 ≤ ht) (h4 : ht ≤ 4) {a2 : Int32} (hcl : a2 = 0 ↔ cl = false) {Po : Int64 → gI → gL → Prop} (hk : ∀ I' J', gSm [200, 202, 203, 204, 205, 207] I I' → (∀ j, j ≠ 5 → I' 200 j = I 200 j) → gJm [206, 208, 209] J J' → Po (lN (smM (T ^ w) (okM T w c cl) (cd T 10 (fun t => c t 0) w) (cd T 10 (fun t => c t 2) w) cl ht)) I' J') : wp_X10_fill (nI w) (nI ht) a2 I J Po := by
  unfold wp_X10_fill
  refine p_layRows hR hw1 hw4 hcl (fun I1 g1 g2 h => ?_)
  generalize okM T w c cl = ok at *
  generalize cd T 10 (fun t => c t 0) w = N at *
  generalize cd T 10 (fun t => c t 2) w = S at *
  generalize T ^ w = X at *
  obtain ⟨m1, m2, m3⟩ := MR_n h
  have s1 : gSm [200, 202, 203, 204, 205, 207] I I1 := gSm_w g1 (by decide)
  refine ⟨fun q => ?_, fun q => ?_⟩
  · have ecl : cl = true := by
      cases e : cl with
      | true => rfl
      | false => exact absurd (hcl.mpr e) q
    subst ecl
    unfold w_X10_fill_60
    refine gl2 (N := 10000) (i0 := 0) (fun K v I => w_X10_fill_60b Po K (nI ht) 0 v I J) (fun u I' => gSm [207] I1 I' ∧ ∀ v, v < u → I' 207 v = 0) (by decide) (by decide) ⟨gSm_r _, fun v hv => absurd hv (by omega)⟩ ?_
    rintro u I2 hu ⟨o1, o2⟩ K kk
    unfold w_X10_fill_60b
    refine pk_le 10000 u (fun hz => ?_) (fun hz => ?_) rfl rfl
    · unfold w_X10_fill_85
      refine gl4b (N := cN ok X) (i0 := 0) (fun K a v I J => w_X10_fill_85b Po K (nI ht) a v I J) (fun r a I' J' => gSm [207] I1 I' ∧ gJm [206, 208, 209] J J' ∧ a = lN (sN (fun v => decide (∃ r', r' < r ∧ N (xr ok r') = v)) (fun v => wy X ok N S (fun v' => if v' = v then 1 else 0) ht v) 10000) ∧ ∀ v, v < 10000 → (I' 207 v = 0 ↔ ¬ ∃ r', r' < r ∧ N (xr ok r') = v)) (by omega) (by omega) ⟨o1, gJm_r _, ?_, fun v hv => ⟨fun _ ⟨r', h1, _⟩ => absurd h1 (by omega), fun _ => o2 v (by omega)⟩⟩ ?_
      · rw [sN_zero (fun v _ hp => by
          obtain ⟨r', h1, _⟩ := of_decide_eq_true hp
          exact absurd h1 (by omega))]
        rfl
      rintro r _ I3 J3 hr ⟨p1, p2, rfl, p3⟩ K2 kk2
      have hM : MR X ok N S I3 := MR_k h (by rw [p1 200 (by decide)]) (p1 202 (by decide)) (p1 203 (by decide)) (p1 204 (by decide))
      have s3 : gSm [200, 202, 203, 204, 205, 207] I I3 := gSm_t s1 (gSm_w p1 (by decide))
      have m1' := (MR_n hM).1
      unfold w_X10_fill_85b
      refine pk_le (cN ok X) r (fun hz2 => ?_) (fun hz2 => ?_) m1' rfl
      · obtain rfl : r = cN ok X := by omega
        have := hk I3 J3 s3 (fun j hj => by rw [p1 200 (by decide)]; exact g2 j hj) p2
        have e : smM X ok N S true ht = sN (fun v => decide (∃ r', r' < cN ok X ∧ N (xr ok r') = v)) (fun v => wy X ok N S (fun v' => if v' = v then 1 else 0) ht v) 10000 := by
          have r1 := rings_sum (X := X) (C := 10000) (ok := ok) (al := fun _ => true) (N := N) (S := S) h1 (fun x hx _ _ => (h.2.2 x hx).1)
          have e1 : (fun x => ok x && (fun _ => true) x) = ok := by funext x; exact Bool.and_true _
          rw [e1] at r1
          have e2 : smM X ok N S true ht = sN ok (fun x => wy X ok N S (fun v => if v = N x then 1 else 0) (ht - 1) (S x)) X := rfl
          rw [e2, ← r1]
          refine (sN_z (fun v hv => ⟨fun _ => rfl, fun _ hno => ?_⟩)).symm
          obtain ⟨m, rfl⟩ : ∃ m, ht = m + 1 := ⟨ht - 1, by omega⟩
          refine sN_zero (fun x hx hp => ?_)
          have hp : (ok x && decide (N x = v)) = true := hp
          rw [Bool.and_eq_true, decide_eq_true_eq] at hp
          have hno := of_decide_eq_false hno
          exact absurd ⟨cN ok x, cN_ms hx hp.1, by rw [xr_at hp.1]; exact hp.2⟩ hno
        rw [e] at this
        exact this
      · obtain ⟨x1, x2, _, x4, x5, x6, x7⟩ := MR_r hM hz2
        rw [nI_clamp (n := r) (by omega), x4]
        refine ⟨vp_in_nI (by omega) (by decide), ?_⟩
        intro n6 e6
        subst e6
        rw [nI_clamp (n := N (xr ok r)) (by omega)]
        refine ⟨vp_in_nI (by omega) (by decide), fun q2 => ?_, fun q2 => ⟨vp_in_nI (by omega) (by decide), ?_⟩⟩
        · have hex : ∃ r', r' < r ∧ N (xr ok r') = N (xr ok r) := Classical.byContradiction fun z => q2 ((p3 _ x6).mpr z)
          have same : ∀ v, (∃ r', r' < r + 1 ∧ N (xr ok r') = v) ↔ ∃ r', r' < r ∧ N (xr ok r') = v := fun v => by
            constructor
            · rintro ⟨r', h1, h2⟩
              by_cases e : r' = r
              · subst e
                obtain ⟨r2, h3, h4⟩ := hex
                exact ⟨r2, h3, by rw [h4]; exact h2⟩
              · exact ⟨r', by omega, h2⟩
            · rintro ⟨r', h1, h2⟩
              exact ⟨r', by omega, h2⟩
          unfold w_X10_fill_133
          intro n9 e9
          rw [nI_1] at e9
          subst e9
          refine kk2 hz2 _ I3 J3 ⟨p1, p2, ?_, fun v hv => by rw [same v]; exact p3 v hv⟩
          refine congrArg lN (sN_cg (fun v _ => ⟨?_, fun _ => rfl⟩))
          exact decide_eq_decide.mpr (same v).symm
        · have hno := (p3 _ x6).mp q2
          intro I11 e11
          have p1' : gSm [207] I1 I11 := by rw [e11]; exact gSm_u p1 (by decide)
          have hM2 : MR X ok N S I11 := MR_k h (by rw [p1' 200 (by decide)]) (p1' 202 (by decide)) (p1' 203 (by decide)) (p1' 204 (by decide))
          refine p_aroundM hM2 x6 ⟨r, hz2, rfl⟩ h4 (fun J13 u1 => ?_)
          have ef : fw X ok N S (N (xr ok r)) ht (N (xr ok r)) = wy X ok N S (fun v' => if v' = N (xr ok r) then 1 else 0) ht (N (xr ok r)) := by
            obtain ⟨m, rfl⟩ : ∃ m, ht = m + 1 := ⟨ht - 1, by omega⟩
            exact fw_eq m
          rw [ef, lN_add]
          intro n14 e14
          subst e14
          unfold w_X10_fill_133
          intro n9 e9
          rw [nI_1] at e9
          subst e9
          refine kk2 hz2 _ I11 J13 ⟨p1', gJm_t p2 (gJm_w u1 (by decide)), congrArg lN ?_, fun v hv => ?_⟩
          · refine (sN_set (c := N (xr ok r)) (decide_eq_false hno) (decide_eq_true ⟨r, by omega, rfl⟩) (fun v _ hne => decide_eq_decide.mpr ?_) x6).symm
            constructor
            · rintro ⟨r', h1, h2⟩
              by_cases e : r' = r
              · subst e; exact absurd h2.symm hne
              · exact ⟨r', by omega, h2⟩
            · rintro ⟨r', h1, h2⟩
              exact ⟨r', by omega, h2⟩
          · by_cases e : v = N (xr ok r)
            · subst e
              rw [e11, gup_at]
              exact ⟨fun z => absurd z (by decide), fun z => absurd ⟨r, by omega, rfl⟩ z⟩
            · rw [e11, gup_ne e, p3 v hv]
              constructor
              · rintro z ⟨r', h1, h2⟩
                by_cases e2 : r' = r
                · subst e2; exact e h2.symm
                · exact z ⟨r', by omega, h2⟩
              · rintro z ⟨r', h1, h2⟩
                exact z ⟨r', by omega, h2⟩
    · rw [nI_clamp (by omega), nI_1]
      refine ⟨vp_in_nI (by omega) (by decide), ?_⟩
      intro I16 e16 n17 e17
      subst e17
      refine kk hz I16 ⟨by rw [e16]; exact gSm_u o1 (by decide), fun v hv => ?_⟩
      by_cases e : v = u
      · subst e; rw [e16, gup_at]; rfl
      · rw [e16, gup_ne e]; exact o2 v (by omega)
  · have ecl := hcl.mp q
    subst ecl
    refine p_tellWays (E := fun _ => 1) h h4 (fun _ _ _ => rfl) (fun v hv z => absurd rfl z) (fun J1 u1 u2 => ?_)
    unfold w_X10_fill_22
    refine gl2b (N := 10000) (i0 := 0) (fun K a v => w_X10_fill_22b Po K (nI ht) a v I1 J1) (fun u a => a = lN (sN (fun _ => true) (fun v => wy X ok N S (fun _ => 1) ht v) u)) (by decide) (by decide) rfl ?_
    rintro u _ hu rfl K kk
    unfold w_X10_fill_22b
    refine pk_le 10000 u (fun hz => ?_) (fun hz => ?_) rfl rfl
    · obtain rfl : u = 10000 := by omega
      have := hk I1 J1 s1 g2 (gJm_w u1 (by decide))
      have e : smM X ok N S false ht = sN (fun _ => true) (fun v => wy X ok N S (fun _ => 1) ht v) 10000 := by
        obtain ⟨m, rfl⟩ : ∃ m, ht = m + 1 := ⟨ht - 1, by omega⟩
        exact (open_sum (X := X) (C := 10000) (ok := ok) (N := N) (f := fun x => wy X ok N S (fun _ => 1) m (S x)) (fun x hx _ => (h.2.2 x hx).1)).symm
      rw [e] at this
      exact this
    · rw [i_10000, pk_mul, nI_add, nI_clamp (by omega), u2 ht (Nat.le_refl _) u hz, lN_add, nI_1]
      refine ⟨vp_in_nI (by omega) (by decide), ?_⟩
      intro n21 e21 n22 e22
      subst e21 e22
      exact kk hz _ rfl
