/-! squares: the class -/
theorem s_l64 : ∀ n, n < 64 → (((nI n).toInt64 &&& 63).toBitVec.smod 64).toNat = n := by decide +kernel
theorem lb_sshr (n : Nat) (hn : n < 64) (x : Int64) {i : Nat} (hi : i < 64) : lb (x >>> ((nI n).toInt64 &&& 63)) i = if n + i < 64 then lb x (n + i) else lb x 63 := by
  unfold lb
  rw [Int64.toBitVec_shiftRight]
  show (x.toBitVec.sshiftRight (((nI n).toInt64 &&& 63).toBitVec.smod 64).toNat).getLsbD i = _
  rw [s_l64 n hn, BitVec.getLsbD_sshiftRight, BitVec.msb_eq_getLsbD_last]
  simp [hi]
theorem lb_1 : ∀ i, i < 64 → lb 1 i = decide (i = 0) := by decide +kernel
theorem lb_tst (x : Int64) {s : Nat} (hs : s < 64) : lg_cmp ((x >>> ((nI s).toInt64 &&& 63)) &&& (1 : Int64)) (0 : Int64) = 0 ↔ lb x s = false := by
  rw [lg_cmp_eq]
  constructor
  · intro h
    have h0 : lb ((x >>> ((nI s).toInt64 &&& 63)) &&& (1 : Int64)) 0 = lb 0 0 := by rw [h]
    rw [lb_and, lb_1 0 (by decide), lb_0, lb_sshr s hs x (by decide), if_pos (by omega)] at h0
    simpa using h0
  · intro h
    apply lb_ext
    intro i hi
    rw [lb_and, lb_1 i hi, lb_0, lb_sshr s hs x hi]
    by_cases e : i = 0
    · subst e; simp [hs, h]
    · simp [e]
def sb (J : gL) (k c : Nat) : Prop := lb (J k (c / 64)) (c % 64) = true
section
variable {n a : Nat} {bl : Nat → Nat → Nat} {I : gI} {J : gL}
theorem p_addSquare {x y z w : Nat} (hx : x < 6) (hy : y < 6) (hz : z < 6) (hw : w < 6) {A : Nat → Prop} (hA : ∀ c, c < 1344 → (sb J 103 c ↔ A c)) {Po : gL → Prop} (h : ∀ J', gJm [103] J J' → (∀ c, c < 1344 → (sb J' 103 c ↔ A c ∨ c = sqC x y z w)) → Po J') : wp_X3_addSquare (nI x) (nI y) (nI z) (nI w) J Po := by
  unfold wp_X3_addSquare
  intro n1 e1 n2 e2
  rw [i_6, pk_mul, nI_add] at e1
  subst e1
  rw [i_6, pk_mul, nI_add, pk_mul, nI_add] at e2
  subst e2
  have hC : sqC x y z w < 1296 := by unfold sqC; omega
  rw [i_64, show 6 * (6 * (6 * x + y) + z) + w = sqC x y z w from rfl, pk_rem (by omega) (by decide) (by decide), pk_div (by omega) (by decide) (by decide)]
  refine ⟨by decide, vp_in_nI (by omega) (by decide), by decide, vp_in_nI (by omega) (by decide), ?_⟩
  intro J7 e7
  rw [nI_clamp (by omega)] at e7
  refine h J7 (by rw [e7]; exact gJm_u (gJm_r J) (by decide)) (fun c hc => ?_)
  rw [← hA c hc]
  unfold sb
  by_cases e : c / 64 = sqC x y z w / 64
  · rw [e7, e, gup_at, lb_or, lb_one _ (by omega) _ (by omega), Bool.or_eq_true, decide_eq_true_eq]
    constructor
    · rintro (h1 | h1)
      · exact Or.inl h1
      · exact Or.inr (by omega)
    · rintro (h1 | h1)
      · exact Or.inl h1
      · exact Or.inr (by omega)
  · rw [e7, gup_ne e]
    exact ⟨fun h1 => Or.inl h1, fun h1 => h1.elim id (fun h2 => absurd (by rw [h2]) e)⟩
theorem p_sqInside (hR : RelL n a bl I) {l : Nat} (hl : l < 6) {A : Nat → Prop} (hA : ∀ c, c < 1344 → (sb J 103 c ↔ A c)) {Po : gL → Prop} (h : ∀ J', gJm [103] J J' → (∀ c, c < 1344 → (sb J' 103 c ↔ A c ∨ sqI a bl l c)) → Po J') : wp_X3_addSquaresInside (nI l) I J Po := by
  have hR0 := hR
  obtain ⟨hn1, hn6, ha2, ha3, l0, m0, l1, m1, hb⟩ := hR0
  unfold wp_X3_addSquaresInside w_X3_addSquaresInside_2
  refine gl2 (N := a) (i0 := 1) (fun K v J => w_X3_addSquaresInside_2b Po K (nI l) v I J) (fun y J' => 1 ≤ y ∧ gJm [103] J J' ∧ ∀ c, c < 1344 → (sb J' 103 c ↔ A c ∨ ∃ p q, p + 1 < a ∧ q + 1 < y ∧ c = sqC (bl l (a * q + p)) (bl l (a * q + (p + 1))) (bl l (a * (q + 1) + p)) (bl l (a * (q + 1) + (p + 1))))) (by omega) (by omega) ⟨Nat.le_refl _, gJm_r J, fun c hc => (hA c hc).trans ⟨Or.inl, fun z => z.elim id (fun ⟨_, _, _, h1, _⟩ => absurd h1 (by omega))⟩⟩ ?_
  rintro y J1 hy ⟨y1, g1, g2⟩ K kk
  unfold w_X3_addSquaresInside_2b
  refine pk_le a y (fun hz => ?_) (fun hz => ?_) l1 rfl
  · obtain rfl : y = a := by omega
    exact h J1 g1 g2
  · unfold w_X3_addSquaresInside_15
    refine gl2 (N := a) (i0 := 1) (fun K2 v J => w_X3_addSquaresInside_15b Po K K2 (nI l) (nI y) v I J) (fun x J' => 1 ≤ x ∧ gJm [103] J J' ∧ ∀ c, c < 1344 → (sb J' 103 c ↔ A c ∨ ∃ p q, p + 1 < a ∧ (q + 1 < y ∨ q + 1 = y ∧ p + 1 < x) ∧ c = sqC (bl l (a * q + p)) (bl l (a * q + (p + 1))) (bl l (a * (q + 1) + p)) (bl l (a * (q + 1) + (p + 1))))) (by omega) (by omega) ⟨Nat.le_refl _, g1, fun c hc => (g2 c hc).trans ?_⟩ ?_
    · constructor
      · rintro (z | ⟨p, q, h1, h2, h3⟩)
        · exact Or.inl z
        · exact Or.inr ⟨p, q, h1, Or.inl h2, h3⟩
      · rintro (z | ⟨p, q, h1, h2, h3⟩)
        · exact Or.inl z
        · exact Or.inr ⟨p, q, h1, by omega, h3⟩
    rintro x J2 hx ⟨x1, g3, g4⟩ K2 kk2
    unfold w_X3_addSquaresInside_15b
    refine pk_le a x (fun hz2 => ?_) (fun hz2 => ?_) l1 rfl
    · intro n3 e3
      rw [nI_1] at e3
      subst e3
      refine kk hz J2 ⟨by omega, g3, fun c hc => (g4 c hc).trans ?_⟩
      constructor
      · rintro (z | ⟨p, q, h1, h2, h3⟩)
        · exact Or.inl z
        · exact Or.inr ⟨p, q, h1, by omega, h3⟩
      · rintro (z | ⟨p, q, h1, h2, h3⟩)
        · exact Or.inl z
        · exact Or.inr ⟨p, q, h1, by omega, h3⟩
    · obtain ⟨p, rfl⟩ : ∃ p, x = p + 1 := ⟨x - 1, by omega⟩
      obtain ⟨q, rfl⟩ : ∃ q, y = q + 1 := ⟨y - 1, by omega⟩
      rw [i_1, pk_sub (by omega), pk_sub (by omega), Nat.add_sub_cancel, Nat.add_sub_cancel]
      refine p_atC hR hl (by omega) (by omega) (p_atC hR hl hz2 (by omega) (p_atC hR hl (by omega) hz (p_atC hR hl hz2 hz ?_)))
      have b1 := (hb l hl (a * q + p) (RelL_ix ha2 ha3 (by omega) (by omega))).1
      have b2 := (hb l hl (a * q + (p + 1)) (RelL_ix ha2 ha3 (by omega) (by omega))).1
      have b3 := (hb l hl (a * (q + 1) + p) (RelL_ix ha2 ha3 (by omega) (by omega))).1
      have b4 := (hb l hl (a * (q + 1) + (p + 1)) (RelL_ix ha2 ha3 (by omega) (by omega))).1
      refine p_addSquare (by omega) (by omega) (by omega) (by omega) g4 (fun J3 g5 g6 => ?_)
      intro n9 e9
      rw [nI_add] at e9
      subst e9
      refine kk2 hz2 J3 ⟨by omega, gJm_t g3 g5, fun c hc => (g6 c hc).trans ?_⟩
      constructor
      · rintro ((z | ⟨p', q', h1, h2, h3⟩) | e)
        · exact Or.inl z
        · exact Or.inr ⟨p', q', h1, by omega, h3⟩
        · exact Or.inr ⟨p, q, hz2, by omega, e⟩
      · rintro (z | ⟨p', q', h1, h2, h3⟩)
        · exact Or.inl (Or.inl z)
        · by_cases e : q' = q ∧ p' = p
          · obtain ⟨rfl, rfl⟩ := e; exact Or.inr h3
          · exact Or.inl (Or.inr ⟨p', q', h1, by omega, h3⟩)
theorem p_sqEast (hR : RelL n a bl I) {i m : Nat} (hi : i < 6) (hm : m < 6) {A : Nat → Prop} (hA : ∀ c, c < 1344 → (sb J 103 c ↔ A c)) {Po : gL → Prop} (h : ∀ J', gJm [103] J J' → (∀ c, c < 1344 → (sb J' 103 c ↔ A c ∨ sqE a bl i m c)) → Po J') : wp_X3_addSquaresOnEastBorder (nI i) (nI m) I J Po := by
  have hR0 := hR
  obtain ⟨hn1, hn6, ha2, ha3, l0, m0, l1, m1, hb⟩ := hR0
  unfold wp_X3_addSquaresOnEastBorder
  rw [l1, i_1, pk_sub (by omega)]
  intro n1 e1
  subst e1
  unfold w_X3_addSquaresOnEastBorder_13
  refine gl2 (N := a) (i0 := 1) (fun K v J => w_X3_addSquaresOnEastBorder_13b Po K (nI i) (nI m) (nI (a - 1)) v I J) (fun y J' => 1 ≤ y ∧ gJm [103] J J' ∧ ∀ c, c < 1344 → (sb J' 103 c ↔ A c ∨ ∃ q, q + 1 < y ∧ c = sqC (bl i (a * q + (a - 1))) (bl m (a * q + 0)) (bl i (a * (q + 1) + (a - 1))) (bl m (a * (q + 1) + 0)))) (by omega) (by omega) ⟨Nat.le_refl _, gJm_r J, fun c hc => (hA c hc).trans ⟨Or.inl, fun z => z.elim id (fun ⟨_, h1, _⟩ => absurd h1 (by omega))⟩⟩ ?_
  rintro y J1 hy ⟨y1, g1, g2⟩ K kk
  unfold w_X3_addSquaresOnEastBorder_13b
  refine pk_le a y (fun hz => ?_) (fun hz => ?_) l1 rfl
  · obtain rfl : y = a := by omega
    exact h J1 g1 g2
  · obtain ⟨q, rfl⟩ : ∃ q, y = q + 1 := ⟨y - 1, by omega⟩
    rw [i_1, pk_sub (by omega), Nat.add_sub_cancel]
    refine p_atC hR hi (by omega) (by omega) (p_atC hR hm (x := 0) (by omega) (by omega) (p_atC hR hi (by omega) hz (p_atC hR hm (x := 0) (by omega) hz ?_)))
    have b1 := (hb i hi (a * q + (a - 1)) (RelL_ix ha2 ha3 (by omega) (by omega))).1
    have b2 := (hb m hm (a * q + 0) (RelL_ix ha2 ha3 (by omega) (by omega))).1
    have b3 := (hb i hi (a * (q + 1) + (a - 1)) (RelL_ix ha2 ha3 (by omega) (by omega))).1
    have b4 := (hb m hm (a * (q + 1) + 0) (RelL_ix ha2 ha3 (by omega) (by omega))).1
    refine p_addSquare (by omega) (by omega) (by omega) (by omega) g2 (fun J3 g5 g6 => ?_)
    intro n9 e9
    rw [nI_add] at e9
    subst e9
    refine kk hz J3 ⟨by omega, gJm_t g1 g5, fun c hc => (g6 c hc).trans ?_⟩
    constructor
    · rintro ((z | ⟨q', h2, h3⟩) | e)
      · exact Or.inl z
      · exact Or.inr ⟨q', by omega, h3⟩
      · exact Or.inr ⟨q, by omega, e⟩
    · rintro (z | ⟨q', h2, h3⟩)
      · exact Or.inl (Or.inl z)
      · by_cases e : q' = q
        · subst e; exact Or.inr h3
        · exact Or.inl (Or.inr ⟨q', by omega, h3⟩)
theorem p_sqSouth (hR : RelL n a bl I) {i m : Nat} (hi : i < 6) (hm : m < 6) {A : Nat → Prop} (hA : ∀ c, c < 1344 → (sb J 103 c ↔ A c)) {Po : gL → Prop} (h : ∀ J', gJm [103] J J' → (∀ c, c < 1344 → (sb J' 103 c ↔ A c ∨ sqS a bl i m c)) → Po J') : wp_X3_addSquaresOnSouthBorder (nI i) (nI m) I J Po := by
  have hR0 := hR
  obtain ⟨hn1, hn6, ha2, ha3, l0, m0, l1, m1, hb⟩ := hR0
  unfold wp_X3_addSquaresOnSouthBorder
  rw [l1, i_1, pk_sub (by omega)]
  intro n1 e1
  subst e1
  unfold w_X3_addSquaresOnSouthBorder_13
  refine gl2 (N := a) (i0 := 1) (fun K v J => w_X3_addSquaresOnSouthBorder_13b Po K (nI i) (nI m) (nI (a - 1)) v I J) (fun y J' => 1 ≤ y ∧ gJm [103] J J' ∧ ∀ c, c < 1344 → (sb J' 103 c ↔ A c ∨ ∃ p, p + 1 < y ∧ c = sqC (bl i (a * (a - 1) + p)) (bl i (a * (a - 1) + (p + 1))) (bl m (a * 0 + p)) (bl m (a * 0 + (p + 1))))) (by omega) (by omega) ⟨Nat.le_refl _, gJm_r J, fun c hc => (hA c hc).trans ⟨Or.inl, fun z => z.elim id (fun ⟨_, h1, _⟩ => absurd h1 (by omega))⟩⟩ ?_
  rintro y J1 hy ⟨y1, g1, g2⟩ K kk
  unfold w_X3_addSquaresOnSouthBorder_13b
  refine pk_le a y (fun hz => ?_) (fun hz => ?_) l1 rfl
  · obtain rfl : y = a := by omega
    exact h J1 g1 g2
  · obtain ⟨q, rfl⟩ : ∃ q, y = q + 1 := ⟨y - 1, by omega⟩
    rw [i_1, pk_sub (by omega), Nat.add_sub_cancel]
    refine p_atC hR hi (by omega) (by omega) (p_atC hR hi hz (by omega) (p_atC hR hm (y := 0) (by omega) (by omega) (p_atC hR hm (y := 0) hz (by omega) ?_)))
    have b1 := (hb i hi (a * (a - 1) + q) (RelL_ix ha2 ha3 (by omega) (by omega))).1
    have b2 := (hb i hi (a * (a - 1) + (q + 1)) (RelL_ix ha2 ha3 (by omega) (by omega))).1
    have b3 := (hb m hm (a * 0 + q) (RelL_ix ha2 ha3 (by omega) (by omega))).1
    have b4 := (hb m hm (a * 0 + (q + 1)) (RelL_ix ha2 ha3 (by omega) (by omega))).1
    refine p_addSquare (by omega) (by omega) (by omega) (by omega) g2 (fun J3 g5 g6 => ?_)
    intro n9 e9
    rw [nI_add] at e9
    subst e9
    refine kk hz J3 ⟨by omega, gJm_t g1 g5, fun c hc => (g6 c hc).trans ?_⟩
    constructor
    · rintro ((z | ⟨q', h2, h3⟩) | e)
      · exact Or.inl z
      · exact Or.inr ⟨q', by omega, h3⟩
      · exact Or.inr ⟨q, by omega, e⟩
    · rintro (z | ⟨q', h2, h3⟩)
      · exact Or.inl (Or.inl z)
      · by_cases e : q' = q
        · subst e; exact Or.inr h3
        · exact Or.inl (Or.inr ⟨q', by omega, h3⟩)
theorem p_sqCross (hR : RelL n a bl I) {d : Nat} (hd : d < 1296) {A : Nat → Prop} (hA : ∀ c, c < 1344 → (sb J 103 c ↔ A c)) {Po : gL → Prop} (h : ∀ J', gJm [103] J J' → (∀ c, c < 1344 → (sb J' 103 c ↔ A c ∨ c = sqX a bl (d / 216) (d / 36 % 6) (d / 6 % 6) (d % 6))) → Po J') : wp_X3_addSquareOnCrossing (nI d) I J Po := by
  have hR0 := hR
  obtain ⟨hn1, hn6, ha2, ha3, l0, m0, l1, m1, hb⟩ := hR0
  unfold wp_X3_addSquareOnCrossing
  rw [l1, i_1, pk_sub (by omega)]
  intro n1 e1
  subst e1
  refine ⟨by decide, ?_⟩
  intro n3 e3
  rw [i_216, pk_div (by omega) (by decide) (by decide)] at e3
  subst e3
  refine ⟨by decide, by decide, ?_⟩
  intro n6 e6
  rw [i_36, i_6, pk_div (a := d) (by omega) (by decide) (by decide), pk_rem (by omega) (by decide) (by decide)] at e6
  subst e6
  refine ⟨by decide, by decide, ?_⟩
  intro n9 e9
  rw [i_6, pk_div (a := d) (by omega) (by decide) (by decide), pk_rem (by omega) (by decide) (by decide)] at e9
  subst e9
  refine ⟨by decide, ?_⟩
  intro n11 e11
  rw [i_6, pk_rem (by omega) (by decide) (by decide)] at e11
  subst e11
  refine p_atC hR (by omega) (by omega) (by omega) (p_atC hR (x := 0) (by omega) (by omega) (by omega) (p_atC hR (y := 0) (by omega) (by omega) (by omega) (p_atC hR (x := 0) (y := 0) (by omega) (by omega) (by omega) ?_)))
  have b1 := (hb (d / 216) (by omega) (a * (a - 1) + (a - 1)) (RelL_ix ha2 ha3 (by omega) (by omega))).1
  have b2 := (hb (d / 36 % 6) (by omega) (a * (a - 1) + 0) (RelL_ix ha2 ha3 (by omega) (by omega))).1
  have b3 := (hb (d / 6 % 6) (by omega) (a * 0 + (a - 1)) (RelL_ix ha2 ha3 (by omega) (by omega))).1
  have b4 := (hb (d % 6) (by omega) (a * 0 + 0) (RelL_ix ha2 ha3 (by omega) (by omega))).1
  exact p_addSquare (by omega) (by omega) (by omega) (by omega) hA (fun J3 g5 g6 => h J3 g5 g6)
end
/-- so far: letters before i', pairs before (i, z) -/
def sqA (n a : Nat) (bl : Nat → Nat → Nat) (L P0 P1 : Nat → Prop) (i' i z c : Nat) : Prop := (∃ x, x < i' ∧ L x ∧ sqI a bl x c) ∨ ∃ x y, (x < i ∧ y < n ∨ x = i ∧ y < z) ∧ ((P0 (6 * x + y) ∧ sqE a bl x y c) ∨ (P1 (6 * x + y) ∧ sqS a bl x y c))
theorem p_growSquares {n a : Nat} {bl : Nat → Nat → Nat} {I : gI} {J : gL} (hR : RelL n a bl I) {L P0 P1 Q : Nat → Prop} (hL : ∀ c, c < 32 → (bt (I 99 1) c = true ↔ L c)) (hP0 : ∀ c, c < 64 → (lb (J 99 2) c = true ↔ P0 c)) (hP1 : ∀ c, c < 64 → (lb (J 99 3) c = true ↔ P1 c)) (hQ : ∀ c, c < 1344 → (sb J 102 c ↔ Q c)) {Po : gL → Prop}
    (h : ∀ J', gJm [102, 103] J J' → (∀ c, c < 1344 → (sb J' 102 c ↔ sqA n a bl L P0 P1 n n 0 c ∨ ∃ d, d < 1296 ∧ Q d ∧ c = sqX a bl (d / 216) (d / 36 % 6) (d / 6 % 6) (d % 6))) → Po J') : wp_X3_growSquares I J Po := by
  have hR0 := hR
  obtain ⟨hn1, hn6, ha2, ha3, l0, m0, l1, m1, hb⟩ := hR0
  unfold wp_X3_growSquares
  refine p_fillL (by decide) (fun J1 f1 f2 _ => ?_)
  have g1 : gJm [103] J J1 := fun k hk => f1 k (fun e => hk (by rw [e]; decide))
  unfold w_X3_growSquares_10
  refine gl2 (N := n) (i0 := 0) (fun K v J => w_X3_growSquares_10b Po K v I J) (fun i J' => gJm [103] J J' ∧ ∀ c, c < 1344 → (sb J' 103 c ↔ sqA n a bl L P0 P1 i i 0 c)) (by omega) (by omega) ⟨g1, fun c hc => ?_⟩ ?_
  · unfold sb
    rw [f2 _ (by omega), lb_0]
    exact ⟨fun z => absurd z (by decide), fun z => by rcases z with ⟨_, h1, _⟩ | ⟨_, _, h1, _⟩ <;> omega⟩
  rintro i J2 hi ⟨g2, g3⟩ K kk
  unfold w_X3_growSquares_10b
  refine pk_le n i (fun hz => ?_) (fun hz => ?_) l0 rfl
  · obtain rfl : i = n := by omega
    unfold w_X3_growSquares_106
    refine gl2 (N := 1296) (i0 := 0) (fun K v J => w_X3_growSquares_106b Po K v I J) (fun e J' => gJm [103] J J' ∧ ∀ c, c < 1344 → (sb J' 103 c ↔ sqA i a bl L P0 P1 i i 0 c ∨ ∃ d, d < e ∧ Q d ∧ c = sqX a bl (d / 216) (d / 36 % 6) (d / 6 % 6) (d % 6))) (by omega) (by omega) ⟨g2, fun c hc => (g3 c hc).trans ⟨Or.inl, fun z => z.elim id (fun ⟨_, h1, _⟩ => absurd h1 (by omega))⟩⟩ ?_
    rintro e J3 he ⟨g4, g5⟩ K2 kk2
    unfold w_X3_growSquares_106b
    refine pk_le 1296 e (fun hz => ?_) (fun hz => ?_) rfl rfl
    · obtain rfl : e = 1296 := by omega
      intro J4 e4
      refine h J4 (by rw [e4]; exact gJm_c (gJm_w g4 (by decide)) (by decide)) (fun c hc => ?_)
      rw [← g5 c hc]
      unfold sb
      rw [e4, guc_s, pk_cpy_in (by omega) (by omega), show 0 + (c / 64 - 0) = c / 64 by omega]
    · rw [i_64, pk_rem (by omega) (by decide) (by decide), pk_div (by omega) (by decide) (by decide), nI_clamp (by omega)]
      refine ⟨by decide, vp_in_nI (by omega) (by decide), by decide, ?_⟩
      have hq : sb J3 102 e ↔ Q e := by
        rw [← hQ e (by omega)]; unfold sb; rw [g4 102 (by decide)]
      have t := lb_tst (J3 102 (e / 64)) (s := e % 64) (by omega)
      refine ⟨fun q => ?_, fun q => ?_⟩
      · have hn : ¬ Q e := by
          rw [← hq]; unfold sb; rw [t.mp q]; decide
        unfold w_X3_growSquares_139
        intro n9 e9
        rw [nI_1] at e9
        subst e9
        refine kk2 hz J3 ⟨g4, fun c hc => (g5 c hc).trans ?_⟩
        constructor
        · rintro (z | ⟨d, h1, h2⟩)
          · exact Or.inl z
          · exact Or.inr ⟨d, by omega, h2⟩
        · rintro (z | ⟨d, h1, h2⟩)
          · exact Or.inl z
          · by_cases e1 : d = e
            · subst e1; exact absurd h2.1 hn
            · exact Or.inr ⟨d, by omega, h2⟩
      · have hp : Q e := by
          rw [← hq]; unfold sb
          cases hb : lb (J3 102 (e / 64)) (e % 64) with
          | true => rfl
          | false => exact absurd (t.mpr hb) q
        refine p_sqCross hR hz g5 (fun J4 g6 g7 => ?_)
        unfold w_X3_growSquares_139
        intro n9 e9
        rw [nI_1] at e9
        subst e9
        refine kk2 hz J4 ⟨gJm_t g4 g6, fun c hc => (g7 c hc).trans ?_⟩
        constructor
        · rintro ((z | ⟨d, h1, h2⟩) | e1)
          · exact Or.inl z
          · exact Or.inr ⟨d, by omega, h2⟩
          · exact Or.inr ⟨e, by omega, hp, e1⟩
        · rintro (z | ⟨d, h1, h2⟩)
          · exact Or.inl (Or.inl z)
          · by_cases e1 : d = e
            · subst e1; exact Or.inr h2.2
            · exact Or.inl (Or.inr ⟨d, by omega, h2⟩)
  · have inner : ∀ J3 : gL, gJm [103] J J3 → (∀ c, c < 1344 → (sb J3 103 c ↔ sqA n a bl L P0 P1 (i + 1) i 0 c)) → w_X3_growSquares_37 Po K (nI i) I J3 := by
      intro J3 k1 k2
      unfold w_X3_growSquares_37 w_X3_growSquares_39
      refine gl2 (N := n) (i0 := 0) (fun K2 v J => w_X3_growSquares_39b Po K K2 (nI i) v I J) (fun t J' => gJm [103] J J' ∧ ∀ c, c < 1344 → (sb J' 103 c ↔ sqA n a bl L P0 P1 (i + 1) i t c)) (by omega) (by omega) ⟨k1, k2⟩ ?_
      rintro t J4 ht ⟨k4, k5⟩ K2 kk2
      unfold w_X3_growSquares_39b
      refine pk_le n t (fun hz2 => ?_) (fun hz2 => ?_) l0 rfl
      · obtain rfl : t = n := by omega
        intro n7 e7
        rw [nI_1] at e7
        subst e7
        refine kk hz J4 ⟨k4, fun c hc => (k5 c hc).trans ?_⟩
        constructor
        · rintro (z | ⟨x, y, h1, h2⟩)
          · exact Or.inl z
          · exact Or.inr ⟨x, y, by omega, h2⟩
        · rintro (z | ⟨x, y, h1, h2⟩)
          · exact Or.inl z
          · exact Or.inr ⟨x, y, by omega, h2⟩
      · have fin : ∀ (J5 : gL), gJm [103] J J5 → (∀ c, c < 1344 → (sb J5 103 c ↔ sqA n a bl L P0 P1 (i + 1) i t c ∨ (P0 (6 * i + t) ∧ sqE a bl i t c))) → w_X3_growSquares_71 Po K K2 (nI i) (nI t) I J5 := by
          intro J5 o1 o2
          unfold w_X3_growSquares_71
          refine p_pair (by omega) (by omega) ?_
          have f3 : J5 99 3 = J 99 3 := by rw [o1 99 (by decide)]
          have last : ∀ (J6 : gL), gJm [103] J J6 → (∀ c, c < 1344 → (sb J6 103 c ↔ (sqA n a bl L P0 P1 (i + 1) i t c ∨ (P0 (6 * i + t) ∧ sqE a bl i t c)) ∨ (P1 (6 * i + t) ∧ sqS a bl i t c))) → w_X3_growSquares_92 Po K K2 (nI i) (nI t) I J6 := by
            intro J6 o3 o4
            unfold w_X3_growSquares_92
            intro n18 e18
            rw [nI_1] at e18
            subst e18
            refine kk2 hz2 J6 ⟨o3, fun c hc => (o4 c hc).trans ?_⟩
            constructor
            · rintro (((z | ⟨x, y, h1, h2⟩) | z) | z)
              · exact Or.inl z
              · exact Or.inr ⟨x, y, by omega, h2⟩
              · exact Or.inr ⟨i, t, by omega, Or.inl z⟩
              · exact Or.inr ⟨i, t, by omega, Or.inr z⟩
            · rintro (z | ⟨x, y, h1, h2⟩)
              · exact Or.inl (Or.inl (Or.inl z))
              · by_cases e : x = i ∧ y = t
                · obtain ⟨rfl, rfl⟩ := e
                  rcases h2 with h2 | h2
                  · exact Or.inl (Or.inr h2)
                  · exact Or.inr h2
                · exact Or.inl (Or.inl (Or.inr ⟨x, y, by omega, h2⟩))
          have t1 := lb_test (J 99 3) (s := 6 * i + t) (by omega)
          rw [f3]
          refine ⟨fun q => ?_, fun q => ?_⟩
          · have hn := t1.mp q
            rw [lb_iff (hP1 _ (by omega))] at hn
            exact last J5 o1 (fun c hc => (o2 c hc).trans ⟨Or.inl, fun z => z.elim id (fun z => absurd z.1 hn)⟩)
          · have hp : P1 (6 * i + t) := Classical.byContradiction fun hn => q (t1.mpr ((lb_iff (hP1 _ (by omega))).mpr hn))
            refine p_sqSouth hR (by omega) (by omega) o2 (fun J6 o3 o4 => last J6 (gJm_t o1 o3) (fun c hc => (o4 c hc).trans ?_))
            exact ⟨fun z => z.elim Or.inl (fun z => Or.inr ⟨hp, z⟩), fun z => z.elim Or.inl (fun z => Or.inr z.2)⟩
        refine p_pair (by omega) (by omega) ?_
        have f2 : J4 99 2 = J 99 2 := by rw [k4 99 (by decide)]
        have t0 := lb_test (J 99 2) (s := 6 * i + t) (by omega)
        rw [f2]
        refine ⟨fun q => ?_, fun q => ?_⟩
        · have hn := t0.mp q
          rw [lb_iff (hP0 _ (by omega))] at hn
          exact fin J4 k4 (fun c hc => (k5 c hc).trans ⟨Or.inl, fun z => z.elim id (fun z => absurd z.1 hn)⟩)
        · have hp : P0 (6 * i + t) := Classical.byContradiction fun hn => q (t0.mpr ((lb_iff (hP0 _ (by omega))).mpr hn))
          refine p_sqEast hR (by omega) (by omega) k5 (fun J6 o3 o4 => fin J6 (gJm_t k4 o3) (fun c hc => (o4 c hc).trans ?_))
          exact ⟨fun z => z.elim Or.inl (fun z => Or.inr ⟨hp, z⟩), fun z => z.elim Or.inl (fun z => Or.inr z.2)⟩
    refine ⟨fun q => ?_, fun q => ?_⟩
    · have hn := (bit_test (I 99 1) (s := i) (by omega)).mp q
      rw [lb_iff (hL i (by omega))] at hn
      refine inner J2 g2 (fun c hc => (g3 c hc).trans ?_)
      constructor
      · rintro (⟨x, h1, h2⟩ | z)
        · exact Or.inl ⟨x, by omega, h2⟩
        · exact Or.inr z
      · rintro (⟨x, h1, h2⟩ | z)
        · by_cases e : x = i
          · subst e; exact absurd h2.1 hn
          · exact Or.inl ⟨x, by omega, h2⟩
        · exact Or.inr z
    · have hp : L i := Classical.byContradiction fun hn => q ((bit_test (I 99 1) (s := i) (by omega)).mpr ((lb_iff (hL i (by omega))).mpr hn))
      refine p_sqInside hR (by omega) g3 (fun J3 g4 g5 => inner J3 (gJm_t g2 g4) (fun c hc => (g5 c hc).trans ?_))
      constructor
      · rintro ((⟨x, h1, h2⟩ | z) | z)
        · exact Or.inl ⟨x, by omega, h2⟩
        · exact Or.inr z
        · exact Or.inl ⟨i, by omega, hp, z⟩
      · rintro (⟨x, h1, h2⟩ | z)
        · by_cases e : x = i
          · subst e; exact Or.inr h2.2
          · exact Or.inl (Or.inl ⟨x, by omega, h2⟩)
        · exact Or.inl (Or.inr z)
noncomputable def sqB (a : Nat) (bl : Nat → Nat → Nat) (l k c : Nat) : Bool := @decide (pQ a bl l k c) (Classical.propDecidable _)
theorem sqB_t {a : Nat} {bl : Nat → Nat → Nat} {l k c : Nat} : sqB a bl l k c = true ↔ pQ a bl l k c := @decide_eq_true_iff _ (Classical.propDecidable _)
theorem p_countSquares {n a : Nat} {bl : Nat → Nat → Nat} {I : gI} {J : gL} (hR : RelL n a bl I) {l k : Nat} (hl : l < n) (hk : k ≤ 5) (hS : gwS n a bl l 0 I J) (h0 : ∀ j, j < 21 → J 102 j = 0) {Po : Int32 → gI → gL → Prop} (h : ∀ I' J', gSm [99] I I' → gJm [99, 102, 103] J J' → Po (nI (cN (sqB a bl l k) 1296)) I' J') : wp_X3_countSquares (nI k) I J Po := by
  have hR0 := hR
  obtain ⟨hn1, hn6, ha2, ha3, l0, m0, l1, m1, hb⟩ := hR0
  have hb' : ∀ x, x < 6 → ∀ i, i < 9 → bl x i < n := fun x hx i hi => (hb x hx i hi).1
  unfold wp_X3_countSquares w_X3_countSquares_2
  refine gl3 (N := k) (i0 := 0) (fun K v I J => w_X3_countSquares_2b Po K (nI k) v I J) (fun s I' J' => gSm [99] I I' ∧ gJm [99, 102, 103] J J' ∧ gwS n a bl l s I' J' ∧ ∀ c, c < 1344 → (sb J' 102 c ↔ pQ a bl l s c)) (by omega) (by omega) ⟨gSm_r I, gJm_r J, hS, fun c hc => ?_⟩ ?_
  · unfold sb
    rw [h0 _ (by omega), lb_0]
    exact ⟨fun z => absurd z (by decide), fun z => absurd z pQ_0⟩
  rintro s I1 J1 hs ⟨g1, g2, g3, g4⟩ K kk
  unfold w_X3_countSquares_2b
  refine pk_le k s (fun hz => ?_) (fun hz => ?_) rfl rfl
  · obtain rfl : s = k := by omega
    unfold w_X3_countSquares_25
    refine gl2b (N := 21) (i0 := 0) (fun K t v => w_X3_countSquares_25b Po K t v I1 J1) (fun i t => t = nI (cN (sqB a bl l s) (64 * i))) (by omega) (by omega) rfl ?_
    rintro i t hi rfl K kk
    unfold w_X3_countSquares_25b
    refine pk_le 21 i (fun hz => ?_) (fun hz => ?_) rfl rfl
    · obtain rfl : i = 21 := by omega
      have e : cN (sqB a bl l s) (64 * 21) = cN (sqB a bl l s) 1296 := by
        rw [show 64 * 21 = 1296 + 48 from rfl, cN_add, cN_zero (n := 48)]
        · exact Nat.add_zero _
        · intro j hj
          rw [lb_iff sqB_t]
          intro z
          have := pQ_lt ha2 ha3 hb' hn6 hl z
          omega
      rw [e]
      exact h I1 J1 g1 g2
    · refine ⟨vp_in_nI (by omega) (by decide), ?_⟩
      rw [nI_clamp (by omega)]
      refine p_bitCountL _ ?_
      intro n5 e5 n6 e6
      rw [nI_1] at e6
      rw [nI_add] at e5
      subst e5 e6
      refine kk hz _ ?_
      rw [show 64 * (i + 1) = 64 * i + 64 by omega, cN_add]
      congr 2
      apply cN_congr
      intro j hj
      rw [lb_u64, Bool.eq_iff_iff, sqB_t, ← g4 (64 * i + j) (by omega)]
      unfold sb
      rw [show (64 * i + j) / 64 = i by omega, show (64 * i + j) % 64 = j by omega]
  · have hR1 := RelL_99 hR (gSm_w g1 (by decide))
    refine p_growSquares hR1 g3.1 g3.2.1 g3.2.2 g4 (fun J2 g5 g6 => ?_)
    refine p_growS (k := s) hR1 hl ⟨g3.1, fun c hc => by rw [g5 99 (by decide)]; exact g3.2.1 c hc, fun c hc => by rw [g5 99 (by decide)]; exact g3.2.2 c hc⟩ (fun I3 J3 g7 g8 g9 => ?_)
    intro n10 e10
    rw [nI_1] at e10
    subst e10
    refine kk hz I3 J3 ⟨gSm_t g1 g7, gJm_t g2 (gJm_t (gJm_w g5 (by decide)) (gJm_w g8 (by decide))), g9, fun c hc => ?_⟩
    have e1 : sb J3 102 c ↔ sb J2 102 c := by unfold sb; rw [g8 102 (by decide)]
    rw [e1, g6 c hc, pQ_step ha2 ha3 hb' hn6 hl]
    unfold sqA
    constructor
    · rintro ((⟨x, h1, h2⟩ | ⟨x, y, h1, h2⟩) | z)
      · exact Or.inl ⟨x, h1, h2⟩
      · exact Or.inr (Or.inl ⟨x, y, by omega, by omega, h2⟩)
      · exact Or.inr (Or.inr z)
    · rintro (⟨x, h1, h2⟩ | ⟨x, y, h1, h3, h2⟩ | z)
      · exact Or.inl (Or.inl ⟨x, h1, h2⟩)
      · exact Or.inl (Or.inr ⟨x, y, Or.inl ⟨h1, h3⟩, h2⟩)
      · exact Or.inr z
