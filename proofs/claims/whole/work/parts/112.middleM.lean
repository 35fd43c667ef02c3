/-! the model: middle; class and model tell the same of rows -/
theorem p_middleG {T w X t : Nat} {ok : Nat → Bool} {N S : Nat → Nat} {I : gI} {J : gL} (h : MR X ok N S I) (h0 : I 200 0 = nI T) (hT0 : 0 < T) (hT8 : T ≤ 8) (ht : t < T) (hw : w = 3) {Po : Int64 → gI → gL → Prop} (hk : ∀ J', gJm [206, 208] J J' → Po (lN (sN ok (fun x => if x / T ^ (w - 1 - 1) % T = t then cN (fun y => ok y && decide (S y = N x)) X * wy X ok N S (fun _ => 1) 1 (S x) else 0) X)) I J') : wp_X10_tellWays 1 (-1) I J (fun J4 => w_X10_middle_32 Po (nI t) 0 I J4) := by
  subst hw
  obtain ⟨m1, m2, m3⟩ := MR_n h
  rw [i_1]
  refine p_tellWays (E := fun _ => 1) h (by decide) (fun _ _ _ => rfl) (fun v hv z => absurd rfl z) (fun J1 u1 u2 => ?_)
  unfold w_X10_middle_32
  refine gl2 (N := 10000) (i0 := 0) (fun K v J => w_X10_middle_32b Po K (nI t) v I J) (fun u J' => gJm [208] J1 J' ∧ ∀ v, v < u → J' 208 v = lN 0) (by decide) (by decide) ⟨gJm_r _, fun v hv => absurd hv (by omega)⟩ ?_
  rintro u J2 hu ⟨g1, g2⟩ K kk
  unfold w_X10_middle_32b
  refine pk_le 10000 u (fun hz => ?_) (fun hz => ?_) rfl rfl
  · unfold w_X10_middle_54
    refine gl2 (N := cN ok X) (i0 := 0) (fun K v J => w_X10_middle_54b Po K (nI t) v I J) (fun r J' => gJm [208] J1 J' ∧ ∀ v, v < 10000 → J' 208 v = lN (sN (fun _ => true) (fun r => if S (xr ok r) = v then 1 else 0) r)) (by omega) (by omega) ⟨g1, fun v hv => g2 v (by omega)⟩ ?_
    rintro r J3 hr ⟨o1, o2⟩ K2 kk2
    unfold w_X10_middle_54b
    refine pk_le (cN ok X) r (fun hz2 => ?_) (fun hz2 => ?_) m1 rfl
    · obtain rfl : r = cN ok X := by omega
      have j3 : gJm [206, 208] J J3 := gJm_t (gJm_w u1 (by decide)) (gJm_w o1 (by decide))
      have nowE : ∀ v, v < 10000 → J3 208 v = lN (cN (fun y => ok y && decide (S y = v)) X) := fun v hv => by
        rw [o2 v hv, sN_xr (fun x => if S x = v then 1 else 0), ← sN_cN, ← sN_if]
        refine congrArg lN (sN_cg (fun x _ => ⟨rfl, fun _ => ?_⟩))
        by_cases z : S x = v
        · rw [if_pos z, if_pos (decide_eq_true z)]
        · rw [if_neg z, if_neg (by rw [decide_eq_false z]; decide)]
      have wE : ∀ v, v < 10000 → J3 206 (10000 + v) = lN (wy X ok N S (fun _ => 1) 1 v) := fun v hv => by
        have := u2 1 (Nat.le_refl _) v hv
        rw [Nat.mul_one] at this
        rw [o1 206 (by decide)]; exact this
      unfold w_X10_middle_88
      refine gl2b (N := cN ok X) (i0 := 0) (fun K a v => w_X10_middle_88b Po K (nI t) a v I J3) (fun r a => a = lN (sN (fun _ => true) (fun r => (fun x => if x / T ^ (3 - 1 - 1) % T = t then cN (fun y => ok y && decide (S y = N x)) X * wy X ok N S (fun _ => 1) 1 (S x) else 0) (xr ok r)) r)) (by omega) (by omega) rfl ?_
      rintro r _ hr3 rfl K3 kk3
      unfold w_X10_middle_88b
      refine pk_le (cN ok X) r (fun hz3 => ?_) (fun hz3 => ?_) m1 rfl
      · obtain rfl : r = cN ok X := by omega
        rw [sN_xr (fun x => if x / T ^ (3 - 1 - 1) % T = t then cN (fun y => ok y && decide (S y = N x)) X * wy X ok N S (fun _ => 1) 1 (S x) else 0)]
        exact hk J3 j3
      · obtain ⟨x1, x2, x3, x4, x5, x6, x7⟩ := MR_r h hz3
        rw [nI_clamp (n := r) (by omega), x3, x4, x5]
        refine ⟨vp_in_nI (by omega) (by decide), ?_⟩
        refine i_1 ▸ i_3 ▸ ?_
        refine p_digit h0 hT0 hT8 (by omega) (by decide) (by decide) ?_
        have ht' : xr ok r / T ^ (3 - 1 - 1) % T < T := Nat.mod_lt _ hT0
        have nx : ∀ z : Int64, z = lN ((fun x => if x / T ^ (3 - 1 - 1) % T = t then cN (fun y => ok y && decide (S y = N x)) X * wy X ok N S (fun _ => 1) 1 (S x) else 0) (xr ok r)) → w_X10_middle_148 Po K3 (nI t) (nI r) z (lN (sN (fun _ => true) (fun r => (fun x => if x / T ^ (3 - 1 - 1) % T = t then cN (fun y => ok y && decide (S y = N x)) X * wy X ok N S (fun _ => 1) 1 (S x) else 0) (xr ok r)) r)) I J3 := by
          intro z hz
          unfold w_X10_middle_148
          intro n11 e11 n12 e12
          rw [nI_1] at e12
          subst e12
          rw [hz, lN_add] at e11
          subst e11
          exact kk3 hz3 _ rfl
        refine ⟨fun q => nx _ ?_, fun q => ?_⟩
        · show _ = lN (if xr ok r / T ^ (3 - 1 - 1) % T = t then _ else 0)
          rw [if_neg (fun z => q (by rw [z]))]; rfl
        · have e := (nI_eq (by omega) (by omega)).mp q
          rw [nI_clamp (n := N (xr ok r)) (by omega), i_10000, nI_add, nI_clamp (by omega), nowE _ x6, wE _ x7, lN_mul]
          refine ⟨vp_in_nI (by omega) (by decide), vp_in_nI (by omega) (by decide), vp_in_nI (by omega) (by decide), vp_in_nI (by omega) (by decide), nx _ ?_⟩
          show _ = lN (if xr ok r / T ^ (3 - 1 - 1) % T = t then _ else 0)
          rw [if_pos e]
    · obtain ⟨x1, x2, x3, x4, x5, x6, x7⟩ := MR_r h hz2
      rw [nI_clamp (n := r) (by omega), x5, nI_clamp (n := S (xr ok r)) (by omega), o2 _ x7, nI_1, lN_1]
      refine ⟨vp_in_nI (by omega) (by decide), vp_in_nI (by omega) (by decide), vp_in_nI (by omega) (by decide), ?_⟩
      intro J20 e20 n21 e21
      subst e21
      refine kk2 hz2 J20 ⟨by rw [e20]; exact gJm_u o1 (by decide), fun v hv => ?_⟩
      rw [sN_ts]
      by_cases e : v = S (xr ok r)
      · subst e; rw [e20, gup_at, if_pos rfl]
      · rw [e20, gup_ne e, if_neg (fun z => e z.symm), Nat.add_zero]; exact o2 v hv
  · rw [nI_clamp (by omega), nI_1]
    refine ⟨vp_in_nI (by omega) (by decide), ?_⟩
    intro J23 e23 n24 e24
    subst e24
    refine kk hz J23 ⟨by rw [e23]; exact gJm_u g1 (by decide), fun v hv => ?_⟩
    by_cases e : v = u
    · subst e; rw [e23, gup_at]; rfl
    · rw [e23, gup_ne e]; exact g2 v (by omega)
theorem cd_dg {T : Nat} (hT : 0 < T) (h8 : T ≤ 8) : ∀ (i j p : Nat), i < j → cd T 8 (fun t => t) j p / 8 ^ i % 8 = p / T ^ i % T
  | 0, j + 1, p, _ => by
    show (cd T 8 (fun t => t) j (p / T) * 8 + p % T) / 8 ^ 0 % 8 = p / T ^ 0 % T
    have := Nat.mod_lt p hT
    rw [Nat.pow_zero, Nat.pow_zero, Nat.div_one, Nat.div_one]; omega
  | i + 1, j + 1, p, h => by
    show (cd T 8 (fun t => t) j (p / T) * 8 + p % T) / 8 ^ (i + 1) % 8 = _
    have := Nat.mod_lt p hT
    rw [Nat.pow_succ, Nat.mul_comm (8 ^ i) 8, ← Nat.div_div_eq_div_mul, show (cd T 8 (fun t => t) j (p / T) * 8 + p % T) / 8 = cd T 8 (fun t => t) j (p / T) by omega, cd_dg hT h8 i j (p / T) (by omega), Nat.div_div_eq_div_mul, Nat.mul_comm T, ← Nat.pow_succ]
theorem cd_dig {T b : Nat} {f g : Nat → Nat} (hT : 0 < T) (hf : ∀ t, t < T → f t < b) (hg : ∀ t, t < T → g t < b) : ∀ (j x y : Nat), cd T b f j x = cd T b g j y → ∀ i, i < j → f (x / T ^ i % T) = g (y / T ^ i % T)
  | 0, _, _, _, i, hi => absurd hi (by omega)
  | j + 1, x, y, h, i, hi => by
    have h : cd T b f j (x / T) * b + f (x % T) = cd T b g j (y / T) * b + g (y % T) := h
    rw [cd_s (hf _ (Nat.mod_lt _ hT)) (hg _ (Nat.mod_lt _ hT))] at h
    cases i with
    | zero => rw [Nat.pow_zero, Nat.div_one, Nat.div_one]; exact h.2
    | succ i =>
      have := cd_dig hT hf hg j (x / T) (y / T) h.1 i (by omega)
      rw [Nat.div_div_eq_div_mul, Nat.div_div_eq_div_mul, Nat.mul_comm T, ← Nat.pow_succ] at this
      exact this
section
variable {T w D : Nat} {c : Nat → Nat → Nat} {cl : Bool} {dig : Nat → Nat}
/-- how the class's ways end -/
def eC (N : Nat → Nat) (C : Nat) (cl : Bool) (x v : Nat) : Nat := if cl = true then (if v = N x then 1 else 0) else (if v < C then 1 else 0)
theorem br_B (hT : 0 < T) (hc : ∀ t, t < T → ∀ d, d < 4 → c t d ≤ 9) (hD : ∀ t, t < T → dig (c t 2) < D) (hi : ∀ t t', t < T → t' < T → dig (c t 2) = dig (c t' 2) → c t 2 = c t' 2) {x y : Nat} (ha : allP T (hasN T c) w x = true) : cd T 10 (fun t => c t 0) w x = cd T 10 (fun t => c t 2) w y ↔ cd T D (fun t => dig (c t 0)) w x = cd T D (fun t => dig (c t 2)) w y := by
  rw [allP_i] at ha
  refine cd_iff hT w x y (fun t ht => by have := hc t ht 0 (by decide); omega) (fun t ht => by have := hc t ht 2 (by decide); omega) (fun _ _ => Or.inr trivial) (fun i hi' => ?_)
  obtain ⟨t', h1, h2⟩ := of_decide_eq_true (ha i hi')
  have hy : y / T ^ i % T < T := Nat.mod_lt _ hT
  refine ⟨by show dig (c (x / T ^ i % T) 0) < D; rw [← h2]; exact hD t' h1, hD _ hy, fun e => congrArg dig e, fun e => ?_⟩
  have e : dig (c (x / T ^ i % T) 0) = dig (c (y / T ^ i % T) 2) := e
  rw [← h2] at e
  show c (x / T ^ i % T) 0 = c (y / T ^ i % T) 2
  rw [← h2]
  exact hi t' _ h1 hy e
theorem br_C (hT : 0 < T) (hc : ∀ t, t < T → ∀ d, d < 4 → c t d ≤ 9) {x y : Nat} (h : cd T 10 (fun t => c t 0) w x = cd T 10 (fun t => c t 2) w y) : allP T (hasN T c) w x = true := by
  rw [allP_i]
  intro i hi
  have := cd_dig hT (fun t ht => by have := hc t ht 0 (by decide); omega) (fun t ht => by have := hc t ht 2 (by decide); omega) w x y h i hi
  exact decide_eq_true ⟨y / T ^ i % T, Nat.mod_lt _ hT, this.symm⟩
theorem br_N (hT : 0 < T) (hc : ∀ t, t < T → ∀ d, d < 4 → c t d ≤ 9) (hD : ∀ t, t < T → dig (c t 2) < D) (hi : ∀ t t', t < T → t' < T → dig (c t 2) = dig (c t' 2) → c t 2 = c t' 2) (x y : Nat) : (okM T w c cl x && decide (cd T 10 (fun t => c t 0) w x = cd T 10 (fun t => c t 2) w y)) = ((okJ T w c cl w x && allP T (hasN T c) w x) && decide (cd T D (fun t => dig (c t 0)) w x = cd T D (fun t => dig (c t 2)) w y)) := by
  rw [okJ_M]
  cases ha : allP T (hasN T c) w x with
  | true => rw [decide_eq_decide.mpr (br_B hT hc hD hi (y := y) ha), Bool.or_true, Bool.and_true, Bool.and_true]
  | false =>
    rw [decide_eq_false (fun h => by rw [br_C hT hc h] at ha; exact absurd ha (by decide)), Bool.and_false, Bool.and_false, Bool.false_and]
theorem br_W (hT : 0 < T) (hc : ∀ t, t < T → ∀ d, d < 4 → c t d ≤ 9) (hD : ∀ t, t < T → dig (c t 2) < D) (hi : ∀ t t', t < T → t' < T → dig (c t 2) = dig (c t' 2) → c t 2 = c t' 2) {x : Nat} (hx : cl = true → allP T (hasN T c) w x = true) (k : Nat) {y : Nat} (hy : y < T ^ w) (hoy : okM T w c cl y = true) : wy (T ^ w) (okM T w c cl) (cd T 10 (fun t => c t 0) w) (cd T 10 (fun t => c t 2) w) (eM (cd T 10 (fun t => c t 0) w) cl x) k (cd T 10 (fun t => c t 2) w y) = wy (T ^ w) (fun x => okJ T w c cl w x && allP T (hasN T c) w x) (cd T D (fun t => dig (c t 0)) w) (cd T D (fun t => dig (c t 2)) w) (eC (cd T D (fun t => dig (c t 0)) w) (D ^ w) cl x) k (cd T D (fun t => dig (c t 2)) w y) := by
  refine wy_eq (fun y hy hoy => ?_) (fun x y _ _ _ => br_N hT hc hD hi x y) k hy hoy
  unfold eM eC
  cases e : cl with
  | false =>
    rw [if_neg (by decide), if_neg (by decide), if_pos (cd_lt hT hD w y)]
  | true =>
    rw [if_pos rfl, if_pos rfl]
    have b := br_B hT hc hD hi (y := y) (hx e)
    by_cases z : cd T 10 (fun t => c t 2) w y = cd T 10 (fun t => c t 0) w x
    · rw [if_pos z, if_pos (b.mp z.symm).symm]
    · rw [if_neg z, if_neg (fun z2 => z (b.mpr z2.symm).symm)]
theorem br_Z (hT : 0 < T) (hc : ∀ t, t < T → ∀ d, d < 4 → c t d ≤ 9) {x : Nat} (hcl : cl = true) (hx : allP T (hasN T c) w x = false) : ∀ (k y : Nat), wy (T ^ w) (okM T w c cl) (cd T 10 (fun t => c t 0) w) (cd T 10 (fun t => c t 2) w) (eM (cd T 10 (fun t => c t 0) w) cl x) k (cd T 10 (fun t => c t 2) w y) = 0
  | 0, y => by
    show eM _ cl x _ = 0
    unfold eM
    rw [if_pos hcl, if_neg (fun z => by rw [br_C hT hc z.symm] at hx; exact absurd hx (by decide))]
  | k + 1, y => sN_zero (fun x' _ _ => br_Z hT hc hcl hx k x')
/-- the sums agree -/
theorem br_open (hT : 0 < T) (hc : ∀ t, t < T → ∀ d, d < 4 → c t d ≤ 9) (hD : ∀ t, t < T → dig (c t 2) < D) (hi : ∀ t t', t < T → t' < T → dig (c t 2) = dig (c t' 2) → c t 2 = c t' 2) (ht : Nat) : sN (okJ T w c false w) (fun x => wy (T ^ w) (fun x => okJ T w c false w x && allP T (hasN T c) w x) (cd T D (fun t => dig (c t 0)) w) (cd T D (fun t => dig (c t 2)) w) (fun v => if v < D ^ w then 1 else 0) (ht - 1) (cd T D (fun t => dig (c t 2)) w x)) (T ^ w) = smM (T ^ w) (okM T w c false) (cd T 10 (fun t => c t 0) w) (cd T 10 (fun t => c t 2) w) false ht := by
  refine sN_cg (fun x hx => ⟨by rw [okJ_M, Bool.not_false, Bool.true_or, Bool.and_true], fun hp => ?_⟩)
  rw [okJ_M, Bool.not_false, Bool.true_or, Bool.and_true] at hp
  exact (br_W (cl := false) (x := x) hT hc hD hi (fun e => absurd e (by decide)) (ht - 1) hx hp).symm
theorem br_ring (hT : 0 < T) (hc : ∀ t, t < T → ∀ d, d < 4 → c t d ≤ 9) (hD : ∀ t, t < T → dig (c t 2) < D) (hi : ∀ t t', t < T → t' < T → dig (c t 2) = dig (c t' 2) → c t 2 = c t' 2) (ht : Nat) : sN (fun x => okJ T w c true w x && allP T (hasN T c) w x) (fun x => wy (T ^ w) (fun x => okJ T w c true w x && allP T (hasN T c) w x) (cd T D (fun t => dig (c t 0)) w) (cd T D (fun t => dig (c t 2)) w) (fun v => if v = cd T D (fun t => dig (c t 0)) w x then 1 else 0) (ht - 1) (cd T D (fun t => dig (c t 2)) w x)) (T ^ w) = smM (T ^ w) (okM T w c true) (cd T 10 (fun t => c t 0) w) (cd T 10 (fun t => c t 2) w) true ht := by
  have h1 : smM (T ^ w) (okM T w c true) (cd T 10 (fun t => c t 0) w) (cd T 10 (fun t => c t 2) w) true ht = sN (fun x => okJ T w c true w x && allP T (hasN T c) w x) (fun x => wy (T ^ w) (okM T w c true) (cd T 10 (fun t => c t 0) w) (cd T 10 (fun t => c t 2) w) (eM (cd T 10 (fun t => c t 0) w) true x) (ht - 1) (cd T 10 (fun t => c t 2) w x)) (T ^ w) := by
    refine (sN_z (fun x hx => ⟨fun hp => ?_, fun hq hp => ?_⟩)).symm
    · rw [okJ_M, Bool.and_eq_true, Bool.and_eq_true] at hp
      exact hp.1.1
    · refine br_Z hT hc rfl ?_ _ _
      cases ha : allP T (hasN T c) w x with
      | false => rfl
      | true =>
        have hp : (okJ T w c true w x && allP T (hasN T c) w x) = false := hp
        rw [okJ_M, hq, ha] at hp
        exact absurd hp (by decide)
  rw [h1]
  refine sN_cg (fun x hx => ⟨rfl, fun hp => ?_⟩)
  rw [Bool.and_eq_true] at hp
  have ho := hp.1
  rw [okJ_M, Bool.and_eq_true] at ho
  exact (br_W (cl := true) (x := x) hT hc hD hi (fun _ => hp.2) (ht - 1) hx ho.1).symm
theorem br_gd (hT : 0 < T) (hc : ∀ t, t < T → ∀ d, d < 4 → c t d ≤ 9) (hD : ∀ t, t < T → dig (c t 2) < D) (hi : ∀ t t', t < T → t' < T → dig (c t 2) = dig (c t' 2) → c t 2 = c t' 2) (ht : Nat) {x : Nat} (hx : x < T ^ w) : gdF (T ^ w) (okM T w c cl) (okM T w c cl) (cd T 10 (fun t => c t 0) w) (cd T 10 (fun t => c t 2) w) (eM (cd T 10 (fun t => c t 0) w) cl) ht x = gdF (T ^ w) (okJ T w c cl w) (fun x => okJ T w c cl w x && allP T (hasN T c) w x) (cd T D (fun t => dig (c t 0)) w) (cd T D (fun t => dig (c t 2)) w) (eC (cd T D (fun t => dig (c t 0)) w) (D ^ w) cl) ht x := by
  unfold gdF
  cases ho : okM T w c cl x with
  | false =>
    have : okJ T w c cl w x = false := by rw [okJ_M, ho, Bool.false_and]
    rw [this, Bool.false_and, Bool.false_and]
  | true =>
    by_cases ha : cl = true → allP T (hasN T c) w x = true
    · have : okJ T w c cl w x = true := by
        rw [okJ_M, ho, Bool.true_and]
        cases e : cl with
        | false => rfl
        | true => rw [ha e]; rfl
      rw [this, br_W hT hc hD hi ha (ht - 1) hx ho]
    · have ecl : cl = true := Classical.byContradiction fun z => ha (fun e => absurd e z)
      have hf : allP T (hasN T c) w x = false := by
        cases e : allP T (hasN T c) w x with
        | false => rfl
        | true => exact absurd (fun _ => e) ha
      have : okJ T w c cl w x = false := by rw [okJ_M, ho, ecl, hf]; rfl
      rw [this, br_Z hT hc ecl hf, Bool.false_and]
      rfl
theorem br_lf (hT : 0 < T) (hc : ∀ t, t < T → ∀ d, d < 4 → c t d ≤ 9) (hD : ∀ t, t < T → dig (c t 2) < D) (hi : ∀ t t', t < T → t' < T → dig (c t 2) = dig (c t' 2) → c t 2 = c t' 2) (ht : Nat) : lf (gdF (T ^ w) (okM T w c cl) (okM T w c cl) (cd T 10 (fun t => c t 0) w) (cd T 10 (fun t => c t 2) w) (eM (cd T 10 (fun t => c t 0) w) cl) ht) (T ^ w) = lf (gdF (T ^ w) (okJ T w c cl w) (fun x => okJ T w c cl w x && allP T (hasN T c) w x) (cd T D (fun t => dig (c t 0)) w) (cd T D (fun t => dig (c t 2)) w) (eC (cd T D (fun t => dig (c t 0)) w) (D ^ w) cl) ht) (T ^ w) := lf_cg (fun _ hx => br_gd hT hc hD hi ht hx)
theorem br_rw (hT : 0 < T) (hc : ∀ t, t < T → ∀ d, d < 4 → c t d ≤ 9) (hD : ∀ t, t < T → dig (c t 2) < D) (hi : ∀ t t', t < T → t' < T → dig (c t 2) = dig (c t' 2) → c t 2 = c t' 2) {ht : Nat} (hl : lf (gdF (T ^ w) (okM T w c cl) (okM T w c cl) (cd T 10 (fun t => c t 0) w) (cd T 10 (fun t => c t 2) w) (eM (cd T 10 (fun t => c t 0) w) cl) ht) (T ^ w) < T ^ w) : ∀ j, j ≤ ht - 1 → rwF (T ^ w) (okM T w c cl) (okM T w c cl) (cd T 10 (fun t => c t 0) w) (cd T 10 (fun t => c t 2) w) (eM (cd T 10 (fun t => c t 0) w) cl) ht j = rwF (T ^ w) (okJ T w c cl w) (fun x => okJ T w c cl w x && allP T (hasN T c) w x) (cd T D (fun t => dig (c t 0)) w) (cd T D (fun t => dig (c t 2)) w) (eC (cd T D (fun t => dig (c t 0)) w) (D ^ w) cl) ht j
  | 0, _ => br_lf hT hc hD hi ht
  | j + 1, hj => by
    have ih := br_rw hT hc hD hi hl j (by omega)
    obtain ⟨w1, w2, _⟩ := rwF_ok (fun x hx => hx) hl j (by omega)
    have hx0 : cl = true → allP T (hasN T c) w (lf (gdF (T ^ w) (okM T w c cl) (okM T w c cl) (cd T 10 (fun t => c t 0) w) (cd T 10 (fun t => c t 2) w) (eM (cd T 10 (fun t => c t 0) w) cl) ht) (T ^ w)) = true := fun ecl => by
      have g := (lf_sp (q := gdF (T ^ w) (okM T w c cl) (okM T w c cl) (cd T 10 (fun t => c t 0) w) (cd T 10 (fun t => c t 2) w) (eM (cd T 10 (fun t => c t 0) w) cl) ht) (T ^ w)).2 hl
      rw [br_gd hT hc hD hi ht hl] at g
      have := (gdF_t.mp g).1
      rw [okJ_M, Bool.and_eq_true, Bool.or_eq_true] at this
      rcases this.2 with z | z
      · rw [ecl] at z; exact absurd z (by decide)
      · exact z
    refine lf_cg (fun y hy => ?_)
    rw [← ih, ← br_lf hT hc hD hi ht]
    have hn := br_N (cl := cl) (w := w) hT hc hD hi y (rwF (T ^ w) (okM T w c cl) (okM T w c cl) (cd T 10 (fun t => c t 0) w) (cd T 10 (fun t => c t 2) w) (eM (cd T 10 (fun t => c t 0) w) cl) ht j)
    unfold nxF
    rw [← Bool.and_assoc, ← Bool.and_assoc, ← hn]
    cases ho : okM T w c cl y with
    | false => rw [Bool.false_and, Bool.false_and, Bool.false_and]
    | true => rw [br_W hT hc hD hi hx0 _ hy ho]
/-- round a middle -/
theorem br_mid (hT : 0 < T) (h8 : T ≤ 8) (hw : 2 ≤ w) (hc : ∀ t, t < T → ∀ d, d < 4 → c t d ≤ 9) (hD : ∀ t, t < T → dig (c t 2) < D) (hi : ∀ t t', t < T → t' < T → dig (c t 2) = dig (c t' 2) → c t 2 = c t' 2) (t : Nat) : sN (okJ T w c false w) (fun x => if (allP T (hasN T c) w x && decide (cd T 8 (fun t => t) w x / 8 ^ (w - 1 - 1) % 8 = t)) = true then cN (fun y => okJ T w c false w y && decide (cd T D (fun t => dig (c t 2)) w y = cd T D (fun t => dig (c t 0)) w x)) (T ^ w) * wy (T ^ w) (fun x => okJ T w c false w x && allP T (hasN T c) w x) (cd T D (fun t => dig (c t 0)) w) (cd T D (fun t => dig (c t 2)) w) (fun v => if v < D ^ w then 1 else 0) 1 (cd T D (fun t => dig (c t 2)) w x) else 0) (T ^ w) = sN (okM T w c false) (fun x => if x / T ^ (w - 1 - 1) % T = t then cN (fun y => okM T w c false y && decide (cd T 10 (fun t => c t 2) w y = cd T 10 (fun t => c t 0) w x)) (T ^ w) * wy (T ^ w) (okM T w c false) (cd T 10 (fun t => c t 0) w) (cd T 10 (fun t => c t 2) w) (fun _ => 1) 1 (cd T 10 (fun t => c t 2) w x) else 0) (T ^ w) := by
  have eok : ∀ x, okJ T w c false w x = okM T w c false x := fun x => by rw [okJ_M, Bool.not_false, Bool.true_or, Bool.and_true]
  refine sN_cg (fun x hx => ⟨eok x, fun hp => ?_⟩)
  rw [eok] at hp
  show (if _ then _ else 0) = (if _ then _ else 0)
  rw [cd_dg hT h8 (w - 1 - 1) w x (by omega)]
  by_cases ht : x / T ^ (w - 1 - 1) % T = t
  · rw [if_pos ht]
    cases ha : allP T (hasN T c) w x with
    | true =>
      rw [decide_eq_true ht, Bool.and_self, if_pos rfl]
      have e1 : cN (fun y => okJ T w c false w y && decide (cd T D (fun t => dig (c t 2)) w y = cd T D (fun t => dig (c t 0)) w x)) (T ^ w) = cN (fun y => okM T w c false y && decide (cd T 10 (fun t => c t 2) w y = cd T 10 (fun t => c t 0) w x)) (T ^ w) := cN_congr (fun y _ => by
        show (okJ T w c false w y && _) = (okM T w c false y && _)
        have b := br_B hT hc hD hi (y := y) ha
        rw [eok, decide_eq_decide.mpr ⟨fun z => (b.mpr z.symm).symm, fun z => (b.mp z.symm).symm⟩])
      rw [e1]
      exact congrArg _ (br_W (cl := false) (x := x) hT hc hD hi (fun e => absurd e (by decide)) 1 hx hp).symm
    | false =>
      rw [Bool.false_and, if_neg (by decide)]
      have e1 : cN (fun y => okM T w c false y && decide (cd T 10 (fun t => c t 2) w y = cd T 10 (fun t => c t 0) w x)) (T ^ w) = 0 := cN_zero (fun y _ => by
        show (okM T w c false y && _) = false
        rw [decide_eq_false (fun z => by rw [br_C hT hc z.symm] at ha; exact absurd ha (by decide)), Bool.and_false])
      rw [e1, Nat.zero_mul]
  · rw [if_neg ht, decide_eq_false ht, Bool.and_false, if_neg (by decide)]
end
