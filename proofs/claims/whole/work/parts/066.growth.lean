/-! longs by their bits; LETTERS, pairs: growPairs -/
def lb (x : Int64) (i : Nat) : Bool := x.toBitVec.getLsbD i
theorem lb_ext {x y : Int64} (h : ∀ i, i < 64 → lb x i = lb y i) : x = y := Int64.toBitVec_inj.mp (BitVec.eq_of_getLsbD_eq (fun i hi => h i hi))
theorem lb_or (x y : Int64) (i : Nat) : lb (x ||| y) i = (lb x i || lb y i) := by unfold lb; rw [Int64.toBitVec_or, BitVec.getLsbD_or]
theorem lb_and (x y : Int64) (i : Nat) : lb (x &&& y) i = (lb x i && lb y i) := by unfold lb; rw [Int64.toBitVec_and, BitVec.getLsbD_and]
theorem lb_0 (i : Nat) : lb 0 i = false := BitVec.getLsbD_zero
theorem lb_one : ∀ s, s < 64 → ∀ c, c < 64 → lb ((1 : Int64) <<< ((nI s).toInt64 &&& 63)) c = decide (c = s) := by decide +kernel
theorem lb_test (x : Int64) {s : Nat} (hs : s < 64) : lg_cmp (x &&& ((1 : Int64) <<< ((nI s).toInt64 &&& 63))) (0 : Int64) = 0 ↔ lb x s = false := by
  rw [lg_cmp_eq]
  constructor
  · intro h
    have h0 : lb (x &&& ((1 : Int64) <<< ((nI s).toInt64 &&& 63))) s = lb 0 s := by rw [h]
    rw [lb_and, lb_one s hs s hs, lb_0] at h0
    simpa using h0
  · intro h
    apply lb_ext
    intro i hi
    rw [lb_and, lb_one s hs i hi, lb_0]
    by_cases e : i = s
    · subst e; simp [h]
    · simp [e]
theorem lb_iff {b : Bool} {P : Prop} (h : b = true ↔ P) : b = false ↔ ¬ P := by
  cases b
  · exact ⟨fun _ p => absurd (h.mpr p) (by decide), fun _ => rfl⟩
  · exact ⟨fun e => absurd e (by decide), fun np => absurd (h.mp rfl) np⟩
/-- places of a block that lie beside each other, and of two blocks that do -/
def bsI (a w p q : Nat) : Prop := (w = 0 ∧ ∃ x y, x + 1 < a ∧ y < a ∧ p = a * y + x ∧ q = a * y + (x + 1)) ∨ (w = 1 ∧ ∃ x y, x < a ∧ y + 1 < a ∧ p = a * y + x ∧ q = a * (y + 1) + x)
def bsX (a w p q : Nat) : Prop := (w = 0 ∧ ∃ t, t < a ∧ p = a * t + (a - 1) ∧ q = a * t + 0) ∨ (w = 1 ∧ ∃ t, t < a ∧ p = a * (a - 1) + t ∧ q = a * 0 + t)
def insW (a : Nat) (bl : Nat → Nat → Nat) (w x c : Nat) : Prop := ∃ p q, bsI a w p q ∧ c = 6 * bl x p + bl x q
def acrW (a : Nat) (bl : Nat → Nat → Nat) (w x y c : Nat) : Prop := ∃ p q, bsX a w p q ∧ c = 6 * bl x p + bl y q
theorem p_pair {i m : Nat} (hi : i < 6) (hm : m < 6) {Po : Int64 → Prop} (h : Po ((1 : Int64) <<< ((nI (6 * i + m)).toInt64 &&& 63))) : wp_X3_pair (nI i) (nI m) Po := by
  unfold wp_X3_pair
  rw [i_6, pk_mul, nI_add]
  exact h
section
variable {n a : Nat} {bl : Nat → Nat → Nat} {I : gI}
theorem p_lettersIn (hR : RelL n a bl I) {x : Nat} (hx : x < 6) {Po : Int32 → Prop} (h : ∀ r : Int32, (∀ c, c < 32 → (bt r c = true ↔ ∃ i, i < a * a ∧ bl x i = c)) → Po r) : wp_X0_lettersIn (nI x) I Po := by
  obtain ⟨hn1, hn6, ha2, ha3, l0, m0, l1, m1, hb⟩ := hR
  have hq := RelL_q ha2 ha3
  unfold wp_X0_lettersIn w_X0_lettersIn_4
  refine gl2b (N := a * a) (i0 := 0) (fun K r v => w_X0_lettersIn_4b Po K (nI x) r v I) (fun i r => ∀ c, c < 32 → (bt r c = true ↔ ∃ i', i' < i ∧ bl x i' = c)) (by omega) (by omega) (fun c hc => ?_) ?_
  · rw [b_0]; exact ⟨fun z => absurd z (by decide), fun ⟨i', h1, _⟩ => absurd h1 (by omega)⟩
  rintro i r hi hr K kk
  unfold w_X0_lettersIn_4b
  rw [l1, pk_mul]
  refine pk_le (a * a) i (fun hz => ?_) (fun hz => ?_) rfl rfl
  · obtain rfl : i = a * a := by omega
    exact h r hr
  · have hbl := hb x hx i (by omega)
    rw [nI_clamp (n := x) (by omega), nI_clamp (n := i) (by omega), hbl.2.1]
    refine ⟨vp_in_nI (by omega) (by decide), vp_in_nI (by omega) (by decide), ?_⟩
    intro n4 e4 n5 e5
    rw [nI_1] at e5
    subst e5
    refine kk hz n4 (fun c hc => ?_)
    rw [e4, b_or, bit_one (by omega) hc, Bool.or_eq_true, hr c hc, decide_eq_true_eq]
    constructor
    · rintro (⟨i', w1, w2⟩ | w)
      · exact ⟨i', by omega, w2⟩
      · exact ⟨i, by omega, w.symm⟩
    · rintro ⟨i', w1, w2⟩
      by_cases e : i' = i
      · subst e; exact Or.inr w2.symm
      · exact Or.inl ⟨i', by omega, w2⟩
theorem p_eastInside (hR : RelL n a bl I) {l : Nat} (hl : l < 6) {Po : Int64 → Prop} (h : ∀ r : Int64, (∀ c, c < 64 → (lb r c = true ↔ insW a bl 0 l c)) → Po r) : wp_X3_eastInside (nI l) I Po := by
  have hR0 := hR
  obtain ⟨hn1, hn6, ha2, ha3, l0, m0, l1, m1, hb⟩ := hR0
  unfold wp_X3_eastInside w_X3_eastInside_5
  refine gl2b (N := a) (i0 := 0) (fun K r v => w_X3_eastInside_5b Po K (nI l) r v I) (fun y r => ∀ c, c < 64 → (lb r c = true ↔ ∃ x' y', x' + 1 < a ∧ y' < y ∧ c = 6 * bl l (a * y' + x') + bl l (a * y' + (x' + 1)))) (by omega) (by omega) (fun c hc => ?_) ?_
  · rw [lb_0]; exact ⟨fun z => absurd z (by decide), fun ⟨_, _, _, h1, _⟩ => absurd h1 (by omega)⟩
  rintro y r hy hr K kk
  unfold w_X3_eastInside_5b
  refine pk_le a y (fun hz => ?_) (fun hz => ?_) l1 rfl
  · obtain rfl : y = a := by omega
    refine h r (fun c hc => (hr c hc).trans ?_)
    constructor
    · rintro ⟨x', y', h1, h2, h3⟩
      exact ⟨_, _, Or.inl ⟨rfl, x', y', h1, h2, rfl, rfl⟩, h3⟩
    · rintro ⟨p, q, ⟨_, x', y', h1, h2, rfl, rfl⟩ | ⟨h0, _⟩, h3⟩
      · exact ⟨x', y', h1, h2, h3⟩
      · exact absurd h0 (by decide)
  · unfold w_X3_eastInside_20
    refine gl2b (N := a) (i0 := 1) (fun K2 r v => w_X3_eastInside_20b Po K K2 (nI l) r (nI y) v I) (fun x r => 1 ≤ x ∧ ∀ c, c < 64 → (lb r c = true ↔ ∃ x' y', x' + 1 < a ∧ (y' < y ∨ y' = y ∧ x' + 1 < x) ∧ c = 6 * bl l (a * y' + x') + bl l (a * y' + (x' + 1)))) (by omega) (by omega) ⟨Nat.le_refl _, fun c hc => (hr c hc).trans ?_⟩ ?_
    · constructor
      · rintro ⟨x', y', h1, h2, h3⟩; exact ⟨x', y', h1, Or.inl h2, h3⟩
      · rintro ⟨x', y', h1, h2 | h2, h3⟩
        · exact ⟨x', y', h1, h2, h3⟩
        · omega
    rintro x r2 hx ⟨x1, hr2⟩ K2 kk2
    unfold w_X3_eastInside_20b
    refine pk_le a x (fun hz2 => ?_) (fun hz2 => ?_) l1 rfl
    · intro n3 e3
      rw [nI_1] at e3
      subst e3
      refine kk hz r2 (fun c hc => (hr2 c hc).trans ?_)
      constructor
      · rintro ⟨x', y', h1, h2, h3⟩; exact ⟨x', y', h1, by omega, h3⟩
      · rintro ⟨x', y', h1, h2, h3⟩; exact ⟨x', y', h1, by omega, h3⟩
    · rw [i_1, pk_sub (by omega)]
      refine p_atC hR hl (by omega) hz (p_atC hR hl hz2 hz ?_)
      have b1 := hb l hl (a * y + (x - 1)) (RelL_ix ha2 ha3 (by omega) hz)
      have b2 := hb l hl (a * y + x) (RelL_ix ha2 ha3 (by omega) hz)
      refine p_pair (by omega) (by omega) ?_
      intro n7 e7 n8 e8
      rw [nI_add] at e8
      subst e8
      refine kk2 hz2 n7 ⟨by omega, fun c hc => ?_⟩
      rw [e7, lb_or, lb_one _ (by omega) c hc, Bool.or_eq_true, hr2 c hc, decide_eq_true_eq]
      constructor
      · rintro (⟨x', y', h1, h2, h3⟩ | e)
        · exact ⟨x', y', h1, by omega, h3⟩
        · exact ⟨x - 1, y, by omega, by omega, by rw [show x - 1 + 1 = x by omega]; exact e⟩
      · rintro ⟨x', y', h1, h2, h3⟩
        by_cases e : y' = y ∧ x' + 1 = x
        · obtain ⟨rfl, rfl⟩ := e
          exact Or.inr h3
        · exact Or.inl ⟨x', y', h1, by omega, h3⟩
theorem p_southInside (hR : RelL n a bl I) {l : Nat} (hl : l < 6) {Po : Int64 → Prop} (h : ∀ r : Int64, (∀ c, c < 64 → (lb r c = true ↔ insW a bl 1 l c)) → Po r) : wp_X3_southInside (nI l) I Po := by
  have hR0 := hR
  obtain ⟨hn1, hn6, ha2, ha3, l0, m0, l1, m1, hb⟩ := hR0
  unfold wp_X3_southInside w_X3_southInside_5
  refine gl2b (N := a) (i0 := 1) (fun K r v => w_X3_southInside_5b Po K (nI l) r v I) (fun y r => 1 ≤ y ∧ ∀ c, c < 64 → (lb r c = true ↔ ∃ x' y', x' < a ∧ y' + 1 < y ∧ c = 6 * bl l (a * y' + x') + bl l (a * (y' + 1) + x'))) (by omega) (by omega) ⟨Nat.le_refl _, fun c hc => ?_⟩ ?_
  · rw [lb_0]; exact ⟨fun z => absurd z (by decide), fun ⟨_, _, _, h1, _⟩ => absurd h1 (by omega)⟩
  rintro y r hy ⟨y1, hr⟩ K kk
  unfold w_X3_southInside_5b
  refine pk_le a y (fun hz => ?_) (fun hz => ?_) l1 rfl
  · obtain rfl : y = a := by omega
    refine h r (fun c hc => (hr c hc).trans ?_)
    constructor
    · rintro ⟨x', y', h1, h2, h3⟩
      exact ⟨_, _, Or.inr ⟨rfl, x', y', h1, h2, rfl, rfl⟩, h3⟩
    · rintro ⟨p, q, ⟨h0, _⟩ | ⟨_, x', y', h1, h2, rfl, rfl⟩, h3⟩
      · exact absurd h0 (by decide)
      · exact ⟨x', y', h1, h2, h3⟩
  · unfold w_X3_southInside_20
    refine gl2b (N := a) (i0 := 0) (fun K2 r v => w_X3_southInside_20b Po K K2 (nI l) r (nI y) v I) (fun x r => ∀ c, c < 64 → (lb r c = true ↔ ∃ x' y', x' < a ∧ (y' + 1 < y ∨ y' + 1 = y ∧ x' < x) ∧ c = 6 * bl l (a * y' + x') + bl l (a * (y' + 1) + x'))) (by omega) (by omega) (fun c hc => (hr c hc).trans ?_) ?_
    · constructor
      · rintro ⟨x', y', h1, h2, h3⟩; exact ⟨x', y', h1, Or.inl h2, h3⟩
      · rintro ⟨x', y', h1, h2 | h2, h3⟩
        · exact ⟨x', y', h1, h2, h3⟩
        · omega
    rintro x r2 hx hr2 K2 kk2
    unfold w_X3_southInside_20b
    refine pk_le a x (fun hz2 => ?_) (fun hz2 => ?_) l1 rfl
    · intro n3 e3
      rw [nI_1] at e3
      subst e3
      refine kk hz r2 ⟨by omega, fun c hc => (hr2 c hc).trans ?_⟩
      constructor
      · rintro ⟨x', y', h1, h2, h3⟩; exact ⟨x', y', h1, by omega, h3⟩
      · rintro ⟨x', y', h1, h2, h3⟩; exact ⟨x', y', h1, by omega, h3⟩
    · rw [i_1, pk_sub (by omega)]
      refine p_atC hR hl hz2 (by omega) (p_atC hR hl hz2 hz ?_)
      have b1 := hb l hl (a * (y - 1) + x) (RelL_ix ha2 ha3 (by omega) (by omega))
      have b2 := hb l hl (a * y + x) (RelL_ix ha2 ha3 (by omega) hz)
      refine p_pair (by omega) (by omega) ?_
      intro n7 e7 n8 e8
      rw [nI_add] at e8
      subst e8
      refine kk2 hz2 n7 (fun c hc => ?_)
      rw [e7, lb_or, lb_one _ (by omega) c hc, Bool.or_eq_true, hr2 c hc, decide_eq_true_eq]
      constructor
      · rintro (⟨x', y', h1, h2, h3⟩ | e)
        · exact ⟨x', y', h1, by omega, h3⟩
        · exact ⟨x, y - 1, by omega, by omega, by rw [show y - 1 + 1 = y by omega]; exact e⟩
      · rintro ⟨x', y', h1, h2, h3⟩
        by_cases e : y' + 1 = y ∧ x' = x
        · obtain ⟨rfl, rfl⟩ := e
          exact Or.inr h3
        · exact Or.inl ⟨x', y', h1, by omega, h3⟩
theorem p_eastAcross (hR : RelL n a bl I) {i m : Nat} (hi : i < 6) (hm : m < 6) {Po : Int64 → Prop} (h : ∀ r : Int64, (∀ c, c < 64 → (lb r c = true ↔ acrW a bl 0 i m c)) → Po r) : wp_X3_eastAcross (nI i) (nI m) I Po := by
  have hR0 := hR
  obtain ⟨hn1, hn6, ha2, ha3, l0, m0, l1, m1, hb⟩ := hR0
  unfold wp_X3_eastAcross w_X3_eastAcross_5
  refine gl2b (N := a) (i0 := 0) (fun K r v => w_X3_eastAcross_5b Po K (nI i) (nI m) r v I) (fun y r => ∀ c, c < 64 → (lb r c = true ↔ ∃ t, t < y ∧ c = 6 * bl i (a * t + (a - 1)) + bl m (a * t + 0))) (by omega) (by omega) (fun c hc => ?_) ?_
  · rw [lb_0]; exact ⟨fun z => absurd z (by decide), fun ⟨_, h1, _⟩ => absurd h1 (by omega)⟩
  rintro y r hy hr K kk
  unfold w_X3_eastAcross_5b
  refine pk_le a y (fun hz => ?_) (fun hz => ?_) l1 rfl
  · obtain rfl : y = a := by omega
    refine h r (fun c hc => (hr c hc).trans ?_)
    constructor
    · rintro ⟨t, h2, h3⟩
      exact ⟨_, _, Or.inl ⟨rfl, t, h2, rfl, rfl⟩, h3⟩
    · rintro ⟨p, q, ⟨_, t, h2, rfl, rfl⟩ | ⟨h0, _⟩, h3⟩
      · exact ⟨t, h2, h3⟩
      · exact absurd h0 (by decide)
  · rw [l1, i_1, pk_sub (by omega)]
    refine p_atC hR hi (by omega) hz (p_atC hR hm (x := 0) (by omega) hz ?_)
    have b1 := hb i hi (a * y + (a - 1)) (RelL_ix ha2 ha3 (by omega) hz)
    have b2 := hb m hm (a * y + 0) (RelL_ix ha2 ha3 (by omega) hz)
    refine p_pair (by omega) (by omega) ?_
    intro n7 e7 n8 e8
    rw [nI_add] at e8
    subst e8
    refine kk hz n7 (fun c hc => ?_)
    rw [e7, lb_or, lb_one _ (by omega) c hc, Bool.or_eq_true, hr c hc, decide_eq_true_eq]
    constructor
    · rintro (⟨t, h2, h3⟩ | e)
      · exact ⟨t, by omega, h3⟩
      · exact ⟨y, by omega, e⟩
    · rintro ⟨t, h2, h3⟩
      by_cases e : t = y
      · subst e; exact Or.inr h3
      · exact Or.inl ⟨t, by omega, h3⟩
theorem p_southAcross (hR : RelL n a bl I) {i m : Nat} (hi : i < 6) (hm : m < 6) {Po : Int64 → Prop} (h : ∀ r : Int64, (∀ c, c < 64 → (lb r c = true ↔ acrW a bl 1 i m c)) → Po r) : wp_X3_southAcross (nI i) (nI m) I Po := by
  have hR0 := hR
  obtain ⟨hn1, hn6, ha2, ha3, l0, m0, l1, m1, hb⟩ := hR0
  unfold wp_X3_southAcross w_X3_southAcross_5
  refine gl2b (N := a) (i0 := 0) (fun K r v => w_X3_southAcross_5b Po K (nI i) (nI m) r v I) (fun y r => ∀ c, c < 64 → (lb r c = true ↔ ∃ t, t < y ∧ c = 6 * bl i (a * (a - 1) + t) + bl m (a * 0 + t))) (by omega) (by omega) (fun c hc => ?_) ?_
  · rw [lb_0]; exact ⟨fun z => absurd z (by decide), fun ⟨_, h1, _⟩ => absurd h1 (by omega)⟩
  rintro y r hy hr K kk
  unfold w_X3_southAcross_5b
  refine pk_le a y (fun hz => ?_) (fun hz => ?_) l1 rfl
  · obtain rfl : y = a := by omega
    refine h r (fun c hc => (hr c hc).trans ?_)
    constructor
    · rintro ⟨t, h2, h3⟩
      exact ⟨_, _, Or.inr ⟨rfl, t, h2, rfl, rfl⟩, h3⟩
    · rintro ⟨p, q, ⟨h0, _⟩ | ⟨_, t, h2, rfl, rfl⟩, h3⟩
      · exact absurd h0 (by decide)
      · exact ⟨t, h2, h3⟩
  · rw [l1, i_1, pk_sub (by omega)]
    refine p_atC hR hi hz (by omega) (p_atC hR hm (y := 0) hz (by omega) ?_)
    have b1 := hb i hi (a * (a - 1) + y) (RelL_ix ha2 ha3 hz (by omega))
    have b2 := hb m hm (a * 0 + y) (RelL_ix ha2 ha3 hz (by omega))
    refine p_pair (by omega) (by omega) ?_
    intro n7 e7 n8 e8
    rw [nI_add] at e8
    subst e8
    refine kk hz n7 (fun c hc => ?_)
    rw [e7, lb_or, lb_one _ (by omega) c hc, Bool.or_eq_true, hr c hc, decide_eq_true_eq]
    constructor
    · rintro (⟨t, h2, h3⟩ | e)
      · exact ⟨t, by omega, h3⟩
      · exact ⟨y, by omega, e⟩
    · rintro ⟨t, h2, h3⟩
      by_cases e : t = y
      · subst e; exact Or.inr h3
      · exact Or.inl ⟨t, by omega, h3⟩
end
