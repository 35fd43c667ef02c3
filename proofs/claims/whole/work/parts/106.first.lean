/-! the first row, and the next ones -/
def lf (q : Nat → Bool) : Nat → Nat
  | 0 => 0
  | n + 1 => if lf q n < n then lf q n else if q n = true then n else n + 1
theorem lf_le {q : Nat → Bool} : ∀ n, lf q n ≤ n
  | 0 => Nat.le_refl _
  | n + 1 => by
    show (if lf q n < n then lf q n else if q n = true then n else n + 1) ≤ n + 1
    split
    · omega
    · split <;> omega
theorem lf_sp {q : Nat → Bool} : ∀ n, (∀ y, y < lf q n → q y = false) ∧ (lf q n < n → q (lf q n) = true)
  | 0 => ⟨fun y hy => absurd hy (by show ¬ y < 0; omega), fun h => absurd h (by show ¬ 0 < 0; omega)⟩
  | n + 1 => by
    obtain ⟨h1, h2⟩ := lf_sp (q := q) n
    have hl := lf_le (q := q) n
    show (∀ y, y < (if lf q n < n then lf q n else if q n = true then n else n + 1) → q y = false) ∧ ((if lf q n < n then lf q n else if q n = true then n else n + 1) < n + 1 → q (if lf q n < n then lf q n else if q n = true then n else n + 1) = true)
    by_cases a : lf q n < n
    · rw [if_pos a]; exact ⟨h1, fun _ => h2 a⟩
    · have e : lf q n = n := by omega
      rw [e] at h1
      rw [if_neg a]
      by_cases b : q n = true
      · rw [if_pos b]; exact ⟨h1, fun _ => b⟩
      · rw [if_neg b]
        refine ⟨fun y hy => ?_, fun h => by omega⟩
        by_cases c : y = n
        · rw [c]; exact Bool.not_eq_true _ ▸ b
        · exact h1 y (by omega)
theorem lf_at {q : Nat → Bool} {n x : Nat} (hx : x < n) (hq : q x = true) (ho : ∀ y, y < x → q y = false) : lf q n = x := by
  obtain ⟨h1, h2⟩ := lf_sp (q := q) n
  rcases Nat.lt_trichotomy (lf q n) x with z | z | z
  · have := h2 (by omega)
    rw [ho _ z] at this; exact absurd this (by decide)
  · exact z
  · rw [h1 x z] at hq; exact absurd hq (by decide)
theorem lf_no {q : Nat → Bool} {n : Nat} (ho : ∀ y, y < n → q y = false) : lf q n = n := by
  obtain ⟨h1, h2⟩ := lf_sp (q := q) n
  have hl := lf_le (q := q) n
  rcases Nat.lt_or_ge (lf q n) n with z | z
  · have := h2 z
    rw [ho _ z] at this; exact absurd this (by decide)
  · omega
theorem lf_ex {q : Nat → Bool} {n x : Nat} (hx : x < n) (hq : q x = true) : lf q n < n := by
  obtain ⟨h1, h2⟩ := lf_sp (q := q) n
  rcases Nat.lt_or_ge x (lf q n) with z | z
  · rw [h1 x z] at hq; exact absurd hq (by decide)
  · omega
theorem lf_cg {q q' : Nat → Bool} : ∀ {n : Nat}, (∀ x, x < n → q x = q' x) → lf q n = lf q' n
  | 0, _ => rfl
  | n + 1, h => by
    show (if lf q n < n then lf q n else if q n = true then n else n + 1) = (if lf q' n < n then lf q' n else if q' n = true then n else n + 1)
    rw [lf_cg (fun x hx => h x (by omega)), h n (by omega)]
/-- the first row of a filling, E x: where the ways that begin at x end; and the rows below it -/
noncomputable def gdF (X : Nat) (ok oA : Nat → Bool) (N S : Nat → Nat) (E : Nat → Nat → Nat) (ht : Nat) (x : Nat) : Bool := ok x && decide (0 < wy X oA N S (E x) (ht - 1) (S x))
noncomputable def nxF (X : Nat) (oA : Nat → Bool) (N S : Nat → Nat) (E : Nat → Nat) (d v : Nat) (y : Nat) : Bool := oA y && (decide (N y = v) && decide (0 < wy X oA N S E d (S y)))
noncomputable def rwF (X : Nat) (ok oA : Nat → Bool) (N S : Nat → Nat) (E : Nat → Nat → Nat) (ht : Nat) : Nat → Nat
  | 0 => lf (gdF X ok oA N S E ht) X
  | j + 1 => lf (nxF X oA N S (E (lf (gdF X ok oA N S E ht) X)) (ht - 1 - (j + 1)) (S (rwF X ok oA N S E ht j))) X
theorem nxF_t {X : Nat} {oA : Nat → Bool} {N S : Nat → Nat} {E : Nat → Nat} {d v y : Nat} : nxF X oA N S E d v y = true ↔ oA y = true ∧ N y = v ∧ 0 < wy X oA N S E d (S y) := by
  unfold nxF; rw [Bool.and_eq_true, Bool.and_eq_true, decide_eq_true_eq, decide_eq_true_eq]
theorem gdF_t {X : Nat} {ok oA : Nat → Bool} {N S : Nat → Nat} {E : Nat → Nat → Nat} {ht x : Nat} : gdF X ok oA N S E ht x = true ↔ ok x = true ∧ 0 < wy X oA N S (E x) (ht - 1) (S x) := by
  unfold gdF; rw [Bool.and_eq_true, decide_eq_true_eq]
theorem rwF_ok {X : Nat} {ok oA : Nat → Bool} {N S : Nat → Nat} {E : Nat → Nat → Nat} {ht : Nat} (hO : ∀ x, oA x = true → ok x = true) (h0 : lf (gdF X ok oA N S E ht) X < X) : ∀ j, j ≤ ht - 1 → rwF X ok oA N S E ht j < X ∧ ok (rwF X ok oA N S E ht j) = true ∧ 0 < wy X oA N S (E (lf (gdF X ok oA N S E ht) X)) (ht - 1 - j) (S (rwF X ok oA N S E ht j))
  | 0, _ => by
    obtain ⟨h1, h2⟩ := gdF_t.mp ((lf_sp (q := gdF X ok oA N S E ht) X).2 h0)
    exact ⟨h0, h1, h2⟩
  | j + 1, hj => by
    obtain ⟨g1, g2, g3⟩ := rwF_ok hO h0 j (by omega)
    rw [show ht - 1 - j = (ht - 1 - (j + 1)) + 1 by omega] at g3
    obtain ⟨y, y1, y2, y3⟩ := sN_pos.mp g3
    have y2 : (oA y && decide (N y = S (rwF X ok oA N S E ht j))) = true := y2
    rw [Bool.and_eq_true, decide_eq_true_eq] at y2
    have hl := lf_ex (q := nxF X oA N S (E (lf (gdF X ok oA N S E ht) X)) (ht - 1 - (j + 1)) (S (rwF X ok oA N S E ht j))) y1 (nxF_t.mpr ⟨y2.1, y2.2, y3⟩)
    have := nxF_t.mp ((lf_sp (q := nxF X oA N S (E (lf (gdF X ok oA N S E ht) X)) (ht - 1 - (j + 1)) (S (rwF X ok oA N S E ht j))) X).2 hl)
    exact ⟨hl, hO _ this.1, this.2.2⟩
section
variable {room X C w : Nat} {cl : Bool} {ok al : Nat → Bool} {N S tc : Nat → Nat} {I I' : gI} {J : gL}
/-- the first of a shelf whose south has ways -/
theorem p_firstBelow (h : Bla room X C w cl ok al N S tc I) {Fs : Nat → Nat → Nat} (hT : Tls room Fs I J) {code d : Nat} (hc : code < C) (hd : d < 4) {Po : Int32 → Prop} (hk : ∀ x, x < X → ok x = true → al x = true → N x = code → 0 < Fs d (S x) → (∀ y, y < x → ok y = true → al y = true → N y = code → Fs d (S y) = 0) → Po (nI (cN ok x))) (hno : (∀ y, y < X → ok y = true → al y = true → N y = code → Fs d (S y) = 0) → Po (-1)) : wp_X5_firstBelow room (nI code) (nI d) I J Po := by
  obtain ⟨n1, n2, n3, n4, n5, n6, n7⟩ := Bla_n h
  have sh := Bla_0 h
  have hbl := bX_le (X := X) (ok := ok) (cnd := al) (cf := N) (c := code + 1)
  have hbs := bX_s (X := X) (ok := ok) (cnd := al) (cf := N) (c := code)
  have e76 : I 76 code = nI (bX X ok al N code) := sh.1 code (by omega)
  have e76' : I 76 (code + 1) = nI (bX X ok al N (code + 1)) := sh.1 (code + 1) (by omega)
  unfold wp_X5_firstBelow
  refine ⟨vp_in_nI (by omega) (by omega), ?_⟩
  rw [nI_clamp (n := code) (by omega), e76]
  intro n2' e2
  subst e2
  unfold w_X5_firstBelow_10
  refine gl1 (N := bX X ok al N (code + 1)) (i0 := bX X ok al N code) (fun K v => w_X5_firstBelow_10b room Po K (nI code) (nI d) v I J) (fun i => ∃ k, i = bX X ok al N code + k ∧ ∀ k', k' < k → Fs d (S (xr (pX ok al N code) k')) = 0) (by omega) (by omega) ⟨0, rfl, fun k' h => absurd h (by omega)⟩ ?_
  rintro _ hi ⟨k, rfl, g⟩ K kk
  have before : ∀ y, cN (pX ok al N code) y < k → ok y = true → al y = true → N y = code → Fs d (S y) = 0 := fun y hy y1 y2 y3 => by
    have := g _ hy
    rw [xr_at (pX_t.mpr ⟨y1, y2, y3⟩)] at this
    exact this
  unfold w_X5_firstBelow_10b
  rw [nI_1, nI_clamp (n := code + 1) (by omega), e76']
  refine ⟨vp_in_nI (by omega) (by omega), pk_le _ _ (fun hz => ?_) (fun hz => ?_) rfl rfl⟩
  · refine hno (fun y hy y1 y2 y3 => before y ?_ y1 y2 y3)
    have := cN_ms hy (pX_t.mpr ⟨y1, y2, y3⟩)
    omega
  · obtain ⟨y1, y2, y3, y4, y5, y6⟩ := Shx_xr sh (c := code) (k := k) (by omega)
    have y1 : I 77 (bX X ok al N code + k) = _ := y1
    obtain ⟨_, _, r74, rS, _, r6, _⟩ := Bla_r h y2 y3
    rw [nI_clamp (by omega), y1]
    refine ⟨vp_in_nI (by omega) (by omega), ?_⟩
    intro n6' e6
    subst e6
    obtain ⟨f1, f2⟩ := (hT d hd).1 (S (xr (pX ok al N code) k)) (by omega)
    rw [nI_clamp (n := cN ok _) (by omega), r74, nI_clamp (n := d) (by omega), nI_clamp (n := S _) (by omega), f1]
    refine ⟨vp_in_nI (by omega) (by decide), vp_in_nI (by omega) (by omega), vp_in_nI (by omega) (by omega), fun q => ?_, fun q => ?_⟩
    · rw [nI_1]
      intro n11 e11
      subst e11
      refine kk (by omega) ⟨k + 1, by omega, fun k' hk' => ?_⟩
      have z : Fs d (S (xr (pX ok al N code) k)) = 0 := by
        have := (pk_lLE (b := 0) (by omega) (by decide)).mp ((lg_cmp_le _ _).mp q)
        omega
      by_cases e : k' = k
      · rw [e]; exact z
      · exact g k' (by omega)
    · have z : 0 < Fs d (S (xr (pX ok al N code) k)) := by
        rcases Nat.eq_zero_or_pos (Fs d (S (xr (pX ok al N code) k))) with e | e
        · exact absurd ((lg_cmp_le _ _).mpr (by rw [e]; exact (pk_lLE (a := 0) (b := 0) (by decide) (by decide)).mpr (Nat.le_refl 0))) q
        · exact e
      refine hk _ y2 y3 y4 y5 z (fun y hy u1 u2 u3 => before y ?_ u1 u2 u3)
      have := cN_ms hy (pX_t.mpr ⟨u1, u2, u3⟩)
      omega
theorem p_firstOpenRow (h : Bla room X C w cl ok al N S tc I) {Fs : Nat → Nat → Nat} (hT : Tls room Fs I J) {ht : Nat} (h1 : 1 ≤ ht) (h4 : ht ≤ 4) {Po : Int32 → gI → gL → Prop} (hk : ∀ I' J' Fs', gSm tlI I I' → gJm tlJ J J' → Bla room X C w cl ok al N S tc I' → Tls room Fs' I' J' → (∀ d, d ≤ ht - 1 → Fs' d = wy X (fun x => ok x && al x) N S (fun v => if v < C then 1 else 0) d) → ∀ r, (lf (gdF X ok (fun x => ok x && al x) N S (fun _ v => if v < C then 1 else 0) ht) X = X → r = -1) → (lf (gdF X ok (fun x => ok x && al x) N S (fun _ v => if v < C then 1 else 0) ht) X < X → r = nI (cN ok (lf (gdF X ok (fun x => ok x && al x) N S (fun _ v => if v < C then 1 else 0) ht) X))) → Po r I' J') : wp_X5_firstOpenRow room (nI ht) I J Po := by
  unfold wp_X5_firstOpenRow
  rw [i_1, pk_sub h1]
  refine Bla_any h hT (by omega) (fun I1 J1 Fs1 a1 a2 a3 a4 a5 => ?_)
  obtain ⟨n1, n2, n3, n4, n5, n6, n7⟩ := Bla_n a3
  unfold w_X5_firstOpenRow_9
  refine gl1 (N := cN ok X) (i0 := 0) (fun K v => w_X5_firstOpenRow_9b room Po K (nI ht) v I1 J1) (fun i => ∀ y, y < X → ok y = true → cN ok y < i → Fs1 (ht - 1) (S y) = 0) (by omega) (by omega) (fun y _ _ h => absurd h (by omega)) ?_
  intro i hi g K kk
  have fE := a5 (ht - 1) (Nat.le_refl _)
  unfold w_X5_firstOpenRow_9b
  refine pk_le (cN ok X) i (fun hz => ?_) (fun hz => ?_) (Bla_m a3) rfl
  · have no : lf (gdF X ok (fun x => ok x && al x) N S (fun _ v => if v < C then 1 else 0) ht) X = X := lf_no (fun y hy => by
      cases e : gdF X ok (fun x => ok x && al x) N S (fun _ v => if v < C then 1 else 0) ht y with
      | false => rfl
      | true =>
        obtain ⟨z1, z2⟩ := gdF_t.mp e
        have := cN_ms hy z1
        have := g y hy z1 (by omega)
        rw [fE] at this
        omega)
    exact hk I1 J1 Fs1 a1 a2 a3 a4 a5 _ (fun _ => rfl) (fun z => by omega)
  · obtain ⟨x1, x2, x3⟩ := xr_lt hz
    obtain ⟨_, _, r74, rS, _⟩ := Bla_r a3 x1 x2
    rw [x3] at r74
    obtain ⟨f1, f2⟩ := (a4 (ht - 1) (by omega)).1 (S (xr ok i)) (by omega)
    rw [i_1, pk_sub h1, nI_clamp (n := i) (by omega), r74, nI_clamp (n := ht - 1) (by omega), nI_clamp (n := S _) (by omega), f1]
    refine ⟨vp_in_nI (by omega) (by decide), vp_in_nI (by omega) (by omega), vp_in_nI (by omega) (by omega), fun q => ?_, fun q => ?_⟩
    · rw [nI_add]
      intro n11 e11
      subst e11
      refine kk (by omega) (fun y hy y1 y2 => ?_)
      have z : Fs1 (ht - 1) (S (xr ok i)) = 0 := by
        have := (pk_lLE (b := 0) (by omega) (by decide)).mp ((lg_cmp_le _ _).mp q)
        omega
      by_cases e : cN ok y = i
      · rw [cN_inj y1 x2 (by rw [e, x3])]; exact z
      · exact g y hy y1 (by omega)
    · have z : 0 < Fs1 (ht - 1) (S (xr ok i)) := by
        rcases Nat.eq_zero_or_pos (Fs1 (ht - 1) (S (xr ok i))) with e | e
        · exact absurd ((lg_cmp_le _ _).mpr (by rw [e]; exact (pk_lLE (a := 0) (b := 0) (by decide) (by decide)).mpr (Nat.le_refl 0))) q
        · exact e
      have yes : lf (gdF X ok (fun x => ok x && al x) N S (fun _ v => if v < C then 1 else 0) ht) X = xr ok i := lf_at x1 (gdF_t.mpr ⟨x2, by rw [fE] at z; exact z⟩) (fun y hy => by
        cases e : gdF X ok (fun x => ok x && al x) N S (fun _ v => if v < C then 1 else 0) ht y with
        | false => rfl
        | true =>
          obtain ⟨z1, z2⟩ := gdF_t.mp e
          have := cN_ms hy z1
          have := g y (by omega) z1 (by omega)
          rw [fE] at this
          omega)
      exact hk I1 J1 Fs1 a1 a2 a3 a4 a5 _ (fun e => by omega) (fun _ => by rw [yes, x3])
theorem p_firstRingRow (h : Bla room X C w cl ok al N S tc I) (hcl : cl = true) {Fs : Nat → Nat → Nat} (hT : Tls room Fs I J) {ht : Nat} (h1 : 1 ≤ ht) (h4 : ht ≤ 4) {Po : Int32 → gI → gL → Prop} (hk : ∀ I' J' Fs', gSm tlI I I' → gJm tlJ J J' → Tls room Fs' I' J' → ∀ r, (lf (gdF X ok (fun x => ok x && al x) N S (fun x v => if v = N x then 1 else 0) ht) X = X → r = -1) → (lf (gdF X ok (fun x => ok x && al x) N S (fun x v => if v = N x then 1 else 0) ht) X < X → r = nI (cN ok (lf (gdF X ok (fun x => ok x && al x) N S (fun x v => if v = N x then 1 else 0) ht) X))) → Po r I' J') : wp_X5_firstRingRow room (nI ht) I J Po := by
  obtain ⟨n1, n2, n3, n4, n5, n6, n7⟩ := Bla_n h
  unfold wp_X5_firstRingRow
  rw [Bla_m h]
  intro n1' e1
  subst e1
  unfold w_X5_firstRingRow_7
  refine gr4 (m0 := cN ok X) (fun K b r I J => w_X5_firstRingRow_7b room Po K (nI ht) b r I J) (fun m b r I' J' => ∃ b0 r0, b = nI b0 ∧ r = nI r0 ∧ b0 ≤ cN ok X ∧ (r0 ≤ cN ok X ∧ m = cN ok X - r0) ∧ gSm tlI I I' ∧ gJm tlJ J J' ∧ (∃ Fs', Tls room Fs' I' J') ∧ (b0 < cN ok X → ∃ x, x < X ∧ cN ok x = b0 ∧ gdF X ok (fun x => ok x && al x) N S (fun x v => if v = N x then 1 else 0) ht x = true) ∧ ∀ x, x < X → gdF X ok (fun x => ok x && al x) N S (fun x v => if v = N x then 1 else 0) ht x = true → cN ok x < b0 → ∀ y, y < X → ok y = true → N y = N x → r0 ≤ cN ok y) ⟨cN ok X, 0, rfl, rfl, Nat.le_refl _, ⟨Nat.zero_le _, by omega⟩, gSm_r _, gJm_r _, ⟨Fs, hT⟩, fun h => absurd h (by omega), fun _ _ _ _ _ _ _ _ => Nat.zero_le _⟩ ?_
  rintro m _ _ I1 J1 ⟨b0, r0, rfl, rfl, hb, ⟨hr0, rfl⟩, g1, g2, ⟨Fs1, g3⟩, g4, g5⟩ K kk
  have bl := Bla_k h g1
  have sh := Bla_0 bl
  unfold w_X5_firstRingRow_7b
  refine pk_le b0 r0 (fun hz => ?_) (fun hz => ?_) rfl rfl
  · have none : ∀ x, x < X → gdF X ok (fun x => ok x && al x) N S (fun x v => if v = N x then 1 else 0) ht x = true → ¬ cN ok x < b0 := fun x hx hg hlt => by
      have := g5 x hx hg hlt x hx (gdF_t.mp hg).1 rfl
      omega
    refine pk_le (cN ok X) b0 (fun z => ?_) (fun z => ?_) (Bla_m bl) rfl
    · have no : lf (gdF X ok (fun x => ok x && al x) N S (fun x v => if v = N x then 1 else 0) ht) X = X := lf_no (fun y hy => by
        cases e : gdF X ok (fun x => ok x && al x) N S (fun x v => if v = N x then 1 else 0) ht y with
        | false => rfl
        | true =>
          have := cN_ms hy (gdF_t.mp e).1
          exact absurd (show cN ok y < b0 by omega) (none y hy e))
      exact hk I1 J1 Fs1 g1 g2 g3 _ (fun _ => rfl) (fun z => by omega)
    · obtain ⟨x, x1, x2, x3⟩ := g4 z
      have yes : lf (gdF X ok (fun x => ok x && al x) N S (fun x v => if v = N x then 1 else 0) ht) X = x := lf_at x1 x3 (fun y hy => by
        cases e : gdF X ok (fun x => ok x && al x) N S (fun x v => if v = N x then 1 else 0) ht y with
        | false => rfl
        | true =>
          have := cN_ms hy (gdF_t.mp e).1
          exact absurd (show cN ok y < b0 by omega) (none y (by omega) e))
      exact hk I1 J1 Fs1 g1 g2 g3 _ (fun e => by omega) (fun _ => by rw [yes, x2])
  · obtain ⟨x1, x2, x3⟩ := xr_lt (ok := ok) (X := X) (r := r0) (by omega)
    have xal := Bla_al bl hcl x2
    obtain ⟨_, r73, _, _, rN, _⟩ := Bla_r bl x1 x2
    have rN := rN xal
    rw [x3, if_pos xal] at r73
    rw [nI_clamp (n := r0) (by omega), r73]
    refine ⟨vp_in_nI (by omega) (by omega), ?_⟩
    intro n5' e5
    subst e5
    have hbl := bX_le (X := X) (ok := ok) (cnd := al) (cf := N) (c := N (xr ok r0) + 1)
    have hbs := bX_s (X := X) (ok := ok) (cnd := al) (cf := N) (c := N (xr ok r0))
    have e76 : I1 76 (N (xr ok r0)) = nI (bX X ok al N (N (xr ok r0))) := sh.1 _ (by omega)
    have hpx : pX ok al N (N (xr ok r0)) (xr ok r0) = true := pX_t.mpr ⟨x2, xal, rfl⟩
    have hp0 := cN_ms x1 hpx
    obtain ⟨y1, y2, y3, y4, y5, y6⟩ := Shx_xr sh (c := N (xr ok r0)) (k := 0) (by omega)
    have y1 : I1 77 (bX X ok al N (N (xr ok r0)) + 0) = _ := y1
    rw [Nat.add_zero] at y1
    rw [nI_clamp (n := N (xr ok r0)) (by omega), e76, nI_clamp (n := bX X ok al N (N (xr ok r0))) (by omega), y1]
    refine ⟨vp_in_nI (by omega) (by omega), vp_in_nI (by omega) (by omega), ?_⟩
    have hc0 := cN_ms y2 y3
    have nxt : ∀ (b1 : Nat) (I2 : gI) (J2 : gL), b1 ≤ cN ok X → gSm tlI I I2 → gJm tlJ J J2 → (∃ Fs', Tls room Fs' I2 J2) → (b1 < cN ok X → ∃ x, x < X ∧ cN ok x = b1 ∧ gdF X ok (fun x => ok x && al x) N S (fun x v => if v = N x then 1 else 0) ht x = true) → (∀ x, x < X → gdF X ok (fun x => ok x && al x) N S (fun x v => if v = N x then 1 else 0) ht x = true → cN ok x < b1 → ∀ y, y < X → ok y = true → N y = N x → r0 + 1 ≤ cN ok y) → w_X5_firstRingRow_79 room Po K (nI ht) (nI b1) (nI r0) I2 J2 := by
      intro b1 I2 J2 hb1 u1 u2 u3 u4 u5
      unfold w_X5_firstRingRow_79
      intro n9 e9
      rw [nI_1] at e9
      subst e9
      exact kk (cN ok X - (r0 + 1)) _ _ I2 J2 (by omega) ⟨b1, r0 + 1, rfl, rfl, hb1, ⟨by omega, rfl⟩, u1, u2, u3, u4, u5⟩
    refine ⟨fun q => ?_, fun q => ?_⟩
    · refine nxt b0 I1 J1 hb g1 g2 ⟨Fs1, g3⟩ g4 (fun x hx hg hlt y hy hoy hN => ?_)
      have h0 := g5 x hx hg hlt y hy hoy hN
      by_cases e : cN ok y = r0
      · exfalso
        have ey : y = xr ok r0 := cN_inj hoy x2 (by rw [e, x3])
        have h2 := g5 x hx hg hlt _ y2 y3 (by rw [y5, ← ey, hN])
        have hne : cN ok (xr (pX ok al N (N (xr ok r0))) 0) ≠ r0 := fun z => q (by rw [z])
        have hle : xr (pX ok al N (N (xr ok r0))) 0 ≤ xr ok r0 := by
          rcases Nat.lt_or_ge (xr ok r0) (xr (pX ok al N (N (xr ok r0))) 0) with z | z
          · have := cN_ms z hpx; omega
          · exact z
        have := cN_m (p := ok) hle
        omega
      · omega
    · refine i_1 ▸ ?_
      rw [pk_sub h1]
      refine Bla_at bl g3 rN (by omega) (fun I2 J2 Fs2 a1 a2 a3 a4 a5 => ?_)
      have s2 := gSm_t g1 a1
      have j2 := gJm_t g2 a2
      have fE := a5 (ht - 1) (Nat.le_refl _)
      refine p_firstBelow a3 a4 rN (by omega) (fun x hx hox hax hNx hpos hfst => ?_) (fun hnone => ?_)
      · have hcx := cN_ms hx hox
        have hgx : gdF X ok (fun x => ok x && al x) N S (fun x v => if v = N x then 1 else 0) ht x = true := gdF_t.mpr ⟨hox, by rw [hNx]; rw [fE] at hpos; exact hpos⟩
        refine ⟨fun _ => ?_, fun z => absurd z (nI_m1 (by omega))⟩
        rw [nI_minI (by omega) (by omega)]
        unfold w_X5_firstRingRow_78
        refine nxt (min (cN ok x) b0) I2 J2 (by omega) s2 j2 ⟨Fs2, a4⟩ (fun hlt => ?_) (fun x' hx' hg hlt y hy hoy hN => ?_)
        · by_cases z : cN ok x ≤ b0
          · exact ⟨x, hx, by omega, hgx⟩
          · obtain ⟨x0, z1, z2, z3⟩ := g4 (by omega)
            exact ⟨x0, z1, by omega, z3⟩
        · have h0 := g5 x' hx' hg (by omega) y hy hoy hN
          by_cases e : cN ok y = r0
          · exfalso
            have ey : y = xr ok r0 := cN_inj hoy x2 (by rw [e, x3])
            obtain ⟨o1, o2⟩ := gdF_t.mp hg
            have hN' : N x' = N (xr ok r0) := by rw [← hN, ey]
            have o2 : 0 < wy X (fun x => ok x && al x) N S (fun v => if v = N x' then 1 else 0) (ht - 1) (S x') := o2
            rw [hN'] at o2
            rcases Nat.lt_or_ge x' x with z | z
            · have := hfst x' z o1 (Bla_al bl hcl o1) hN'
              rw [fE] at this
              omega
            · have := cN_m (p := ok) z
              omega
          · omega
      · refine ⟨fun z => absurd rfl z, fun _ => ?_⟩
        unfold w_X5_firstRingRow_78
        refine nxt b0 I2 J2 hb s2 j2 ⟨Fs2, a4⟩ g4 (fun x' hx' hg hlt y hy hoy hN => ?_)
        have h0 := g5 x' hx' hg hlt y hy hoy hN
        by_cases e : cN ok y = r0
        · exfalso
          have ey : y = xr ok r0 := cN_inj hoy x2 (by rw [e, x3])
          obtain ⟨o1, o2⟩ := gdF_t.mp hg
          have hN' : N x' = N (xr ok r0) := by rw [← hN, ey]
          have o2 : 0 < wy X (fun x => ok x && al x) N S (fun v => if v = N x' then 1 else 0) (ht - 1) (S x') := o2
          rw [hN'] at o2
          have := hnone x' hx' o1 (Bla_al bl hcl o1) hN'
          rw [fE] at this
          omega
        · omega
theorem p_tileAt (h : Bla room X C w cl ok al N S tc I) {x a : Nat} (hx : x < X) (ho : ok x = true) (ha : a < w) {Po : Int32 → Prop} (hk : Po (nI (tc x / 8 ^ (w - 1 - a) % 8))) : wp_X5_tileAt room (nI (cN ok x)) (nI a) I Po := by
  obtain ⟨n1, n2, n3, n4, n5, n6, n7⟩ := Bla_n h
  obtain ⟨r72, _, _, _, _, r6, r7⟩ := Bla_r h hx ho
  unfold wp_X5_tileAt
  refine ⟨vp_in_nI (by omega) (by omega), ?_⟩
  rw [nI_clamp (by omega), r72, (Bla_c h).1, i_1, pk_sub (by omega), pk_sub (by omega), i_3, pk_mul, nI_shr (by omega) (by omega), i_7, nI_and (Nat.lt_of_le_of_lt (Nat.div_le_self _ _) (by omega)) (by decide), show (7 : Nat) = 2 ^ 3 - 1 from rfl, Nat.and_two_pow_sub_one_eq_mod, Nat.pow_mul]
  exact hk
end
