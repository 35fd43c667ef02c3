theorem gl3c {α β : Type} {N i0 : Nat} {a0 : α} {b0 : β} (B : (α → β → Int32 → Prop) → α → β → Int32 → Prop) (Q : Nat → α → β → Prop) (hN : N < 2147483648) (hi : i0 ≤ N) (h0 : Q i0 a0 b0) (st : ∀ i a b, i ≤ N → Q i a b → ∀ K : α → β → Int32 → Prop, (i < N → ∀ a' b', Q (i + 1) a' b' → K a' b' (nI (i + 1))) → B K a b (nI i)) : ∃ (Inv : α → β → Int32 → Prop) (mu : α → β → Int32 → Nat), Inv a0 b0 (nI i0) ∧ ∀ a b v, Inv a b v → B (fun a1 b1 u => Inv a1 b1 u ∧ mu a1 b1 u < mu a b v) a b v := by
  refine ⟨fun a b v => ∃ i, i ≤ N ∧ v = nI i ∧ Q i a b, fun _ _ v => N - v.toNatClampNeg, ⟨i0, hi, rfl, h0⟩, ?_⟩
  rintro a b v ⟨i, hi, rfl, hq⟩
  exact st i a b hi hq _ (fun h1 a' b' h2 => ⟨⟨i + 1, by omega, rfl, h2⟩, mu_lt h1 hN⟩)
theorem gl4d {α β γ : Type} {N i0 : Nat} {a0 : α} {b0 : β} {c0 : γ} (B : (α → β → γ → Int32 → Prop) → α → β → γ → Int32 → Prop) (Q : Nat → α → β → γ → Prop) (hN : N < 2147483648) (hi : i0 ≤ N) (h0 : Q i0 a0 b0 c0) (st : ∀ i a b c, i ≤ N → Q i a b c → ∀ K : α → β → γ → Int32 → Prop, (i < N → ∀ a' b' c', Q (i + 1) a' b' c' → K a' b' c' (nI (i + 1))) → B K a b c (nI i)) : ∃ (Inv : α → β → γ → Int32 → Prop) (mu : α → β → γ → Int32 → Nat), Inv a0 b0 c0 (nI i0) ∧ ∀ a b c v, Inv a b c v → B (fun a1 b1 c1 u => Inv a1 b1 c1 u ∧ mu a1 b1 c1 u < mu a b c v) a b c v := by
  refine ⟨fun a b c v => ∃ i, i ≤ N ∧ v = nI i ∧ Q i a b c, fun _ _ _ v => N - v.toNatClampNeg, ⟨i0, hi, rfl, h0⟩, ?_⟩
  rintro a b c v ⟨i, hi, rfl, hq⟩
  exact st i a b c hi hq _ (fun h1 a' b' c' h2 => ⟨⟨i + 1, by omega, rfl, h2⟩, mu_lt h1 hN⟩)
/-- one way's pairs, so far: the letters before i and their insides; pairs (x, y) before (i, z) -/
def gpA (n a : Nat) (bl : Nat → Nat → Nat) (L P : Nat → Prop) (w i' i z c : Nat) : Prop := (∃ x, x < i' ∧ L x ∧ insW a bl w x c) ∨ ∃ x y, (x < i ∧ y < n ∨ x = i ∧ y < z) ∧ P (6 * x + y) ∧ acrW a bl w x y c
theorem gpA_in {n a : Nat} {bl : Nat → Nat → Nat} {L P : Nat → Prop} {w i c : Nat} (hL : L i) : gpA n a bl L P w i i 0 c ∨ insW a bl w i c ↔ gpA n a bl L P w (i + 1) i 0 c := by
  constructor
  · rintro ((⟨x, h1, h2, h3⟩ | h) | h)
    · exact Or.inl ⟨x, by omega, h2, h3⟩
    · exact Or.inr h
    · exact Or.inl ⟨i, by omega, hL, h⟩
  · rintro (⟨x, h1, h2, h3⟩ | h)
    · by_cases e : x = i
      · subst e; exact Or.inr h3
      · exact Or.inl (Or.inl ⟨x, by omega, h2, h3⟩)
    · exact Or.inl (Or.inr h)
theorem gpA_out {n a : Nat} {bl : Nat → Nat → Nat} {L P : Nat → Prop} {w i c : Nat} (hL : ¬ L i) : gpA n a bl L P w i i 0 c ↔ gpA n a bl L P w (i + 1) i 0 c := by
  constructor
  · rintro (⟨x, h1, h2, h3⟩ | h)
    · exact Or.inl ⟨x, by omega, h2, h3⟩
    · exact Or.inr h
  · rintro (⟨x, h1, h2, h3⟩ | h)
    · by_cases e : x = i
      · subst e; exact absurd h2 hL
      · exact Or.inl ⟨x, by omega, h2, h3⟩
    · exact Or.inr h
theorem gpA_up {n a : Nat} {bl : Nat → Nat → Nat} {L P : Nat → Prop} {w i c : Nat} : gpA n a bl L P w (i + 1) i n c ↔ gpA n a bl L P w (i + 1) (i + 1) 0 c := by
  constructor
  · rintro (h | ⟨x, y, h1, h2⟩)
    · exact Or.inl h
    · exact Or.inr ⟨x, y, by omega, h2⟩
  · rintro (h | ⟨x, y, h1, h2⟩)
    · exact Or.inl h
    · exact Or.inr ⟨x, y, by omega, h2⟩
theorem gpA_pin {n a : Nat} {bl : Nat → Nat → Nat} {L P : Nat → Prop} {w i z c : Nat} (hz : z < n) (hP : P (6 * i + z)) : gpA n a bl L P w (i + 1) i z c ∨ acrW a bl w i z c ↔ gpA n a bl L P w (i + 1) i (z + 1) c := by
  constructor
  · rintro ((h | ⟨x, y, h1, h2⟩) | h)
    · exact Or.inl h
    · exact Or.inr ⟨x, y, by omega, h2⟩
    · exact Or.inr ⟨i, z, by omega, hP, h⟩
  · rintro (h | ⟨x, y, h1, h2⟩)
    · exact Or.inl (Or.inl h)
    · by_cases e : x = i ∧ y = z
      · obtain ⟨rfl, rfl⟩ := e; exact Or.inr h2.2
      · exact Or.inl (Or.inr ⟨x, y, by omega, h2⟩)
theorem gpA_pout {n a : Nat} {bl : Nat → Nat → Nat} {L P : Nat → Prop} {w i z c : Nat} (hP : ¬ P (6 * i + z)) : gpA n a bl L P w (i + 1) i z c ↔ gpA n a bl L P w (i + 1) i (z + 1) c := by
  constructor
  · rintro (h | ⟨x, y, h1, h2⟩)
    · exact Or.inl h
    · exact Or.inr ⟨x, y, by omega, h2⟩
  · rintro (h | ⟨x, y, h1, h2⟩)
    · exact Or.inl h
    · by_cases e : x = i ∧ y = z
      · obtain ⟨rfl, rfl⟩ := e; exact absurd h2.1 hP
      · exact Or.inr ⟨x, y, by omega, h2⟩
theorem p_growPairs {n a : Nat} {bl : Nat → Nat → Nat} {I : gI} {J : gL} (hR : RelL n a bl I) {L : Nat → Prop} {P0 P1 : Nat → Prop} (hL : ∀ c, c < 32 → (bt (I 99 1) c = true ↔ L c)) (hP0 : ∀ c, c < 64 → (lb (J 99 2) c = true ↔ P0 c)) (hP1 : ∀ c, c < 64 → (lb (J 99 3) c = true ↔ P1 c)) {Po : gI → gL → Prop}
    (h : ∀ I' J', gSm [99] I I' → gJm [99] J J' → (∀ c, c < 32 → (bt (I' 99 1) c = true ↔ ∃ x, x < n ∧ L x ∧ ∃ i, i < a * a ∧ bl x i = c)) → (∀ c, c < 64 → (lb (J' 99 2) c = true ↔ gpA n a bl L P0 0 n n 0 c)) → (∀ c, c < 64 → (lb (J' 99 3) c = true ↔ gpA n a bl L P1 1 n n 0 c)) → Po I' J') : wp_X3_growPairs I J Po := by
  have hR0 := hR
  obtain ⟨hn1, hn6, ha2, ha3, l0, m0, l1, m1, hb⟩ := hR0
  unfold wp_X3_growPairs w_X3_growPairs_10
  refine gl4d (N := n) (i0 := 0) (fun K x y z v => w_X3_growPairs_10b Po K x y z v I J) (fun i x y z => (∀ c, c < 32 → (bt x c = true ↔ ∃ x, x < i ∧ L x ∧ ∃ i, i < a * a ∧ bl x i = c)) ∧ (∀ c, c < 64 → (lb y c = true ↔ gpA n a bl L P0 0 i i 0 c)) ∧ (∀ c, c < 64 → (lb z c = true ↔ gpA n a bl L P1 1 i i 0 c))) (by omega) (by omega) ⟨fun c hc => ?_, fun c hc => ?_, fun c hc => ?_⟩ ?_
  · rw [b_0]; exact ⟨fun z => absurd z (by decide), fun ⟨_, h1, _⟩ => absurd h1 (by omega)⟩
  · rw [lb_0]; exact ⟨fun z => absurd z (by decide), fun z => by rcases z with ⟨_, h1, _⟩ | ⟨_, _, h1, _⟩ <;> omega⟩
  · rw [lb_0]; exact ⟨fun z => absurd z (by decide), fun z => by rcases z with ⟨_, h1, _⟩ | ⟨_, _, h1, _⟩ <;> omega⟩
  rintro i x y z hi ⟨g1, g2, g3⟩ K kk
  unfold w_X3_growPairs_10b
  refine pk_le n i (fun hz => ?_) (fun hz => ?_) l0 rfl
  · obtain rfl : i = n := by omega
    intro I2 e2 J3 e3 J4 e4
    refine h I2 J4 (by rw [e2]; exact gSm_u (gSm_r I) (by decide)) (by rw [e4, e3]; exact gJm_u (gJm_u (gJm_r J) (by decide)) (by decide)) (fun c hc => ?_) (fun c hc => ?_) (fun c hc => ?_)
    · rw [e2, gup_at]; exact g1 c hc
    · rw [e4, gup_ne (by decide), e3, gup_at]; exact g2 c hc
    · rw [e4, gup_at]; exact g3 c hc
  · -- the inner loop
    have inner : ∀ (x' : Int32) (y' z' : Int64), (∀ c, c < 32 → (bt x' c = true ↔ ∃ x, x < i + 1 ∧ L x ∧ ∃ i, i < a * a ∧ bl x i = c)) → (∀ c, c < 64 → (lb y' c = true ↔ gpA n a bl L P0 0 (i + 1) i 0 c)) → (∀ c, c < 64 → (lb z' c = true ↔ gpA n a bl L P1 1 (i + 1) i 0 c)) → w_X3_growPairs_66 Po K x' y' z' (nI i) I J := by
      intro x' y' z' k1 k2 k3
      unfold w_X3_growPairs_66 w_X3_growPairs_69
      refine gl3c (N := n) (i0 := 0) (fun K2 y z v => w_X3_growPairs_69b Po K K2 x' y z (nI i) v I J) (fun t y z => (∀ c, c < 64 → (lb y c = true ↔ gpA n a bl L P0 0 (i + 1) i t c)) ∧ (∀ c, c < 64 → (lb z c = true ↔ gpA n a bl L P1 1 (i + 1) i t c))) (by omega) (by omega) ⟨k2, k3⟩ ?_
      rintro t y2 z2 ht ⟨k4, k5⟩ K2 kk2
      unfold w_X3_growPairs_69b
      refine pk_le n t (fun hz2 => ?_) (fun hz2 => ?_) l0 rfl
      · obtain rfl : t = n := by omega
        intro n7 e7
        rw [nI_1] at e7
        subst e7
        exact kk hz x' y2 z2 ⟨k1, fun c hc => (k4 c hc).trans gpA_up, fun c hc => (k5 c hc).trans gpA_up⟩
      · have fin : ∀ s0 : Int64, (∀ c, c < 64 → (lb (y2 ||| s0) c = true ↔ gpA n a bl L P0 0 (i + 1) i (t + 1) c)) → w_X3_growPairs_111 Po K K2 x' z2 (nI i) (nI t) s0 y2 I J := by
          intro s0 hs
          unfold w_X3_growPairs_111
          intro n10 e10
          refine p_pair (by omega) (by omega) ?_
          refine ⟨fun q => ?_, fun q => ?_⟩
          · have hn := (lb_test (J 99 3) (s := 6 * i + t) (by omega)).mp q
            rw [lb_iff (hP1 _ (by omega))] at hn
            unfold w_X3_growPairs_144
            intro n13 e13 n14 e14
            rw [nI_1] at e14
            subst e14
            refine kk2 hz2 n10 n13 ⟨by rw [e10]; exact hs, fun c hc => ?_⟩
            rw [e13, lb_or, lb_0, Bool.or_false]
            exact (k5 c hc).trans (gpA_pout hn)
          · have hp : P1 (6 * i + t) := Classical.byContradiction fun hn => q ((lb_test (J 99 3) (s := 6 * i + t) (by omega)).mpr ((lb_iff (hP1 _ (by omega))).mpr hn))
            refine p_southAcross hR (by omega) (by omega) (fun r hr => ?_)
            unfold w_X3_growPairs_144
            intro n13 e13 n14 e14
            rw [nI_1] at e14
            subst e14
            refine kk2 hz2 n10 n13 ⟨by rw [e10]; exact hs, fun c hc => ?_⟩
            rw [e13, lb_or, Bool.or_eq_true, k5 c hc, hr c hc]
            exact gpA_pin hz2 hp
        refine p_pair (by omega) (by omega) ?_
        refine ⟨fun q => ?_, fun q => ?_⟩
        · have hn := (lb_test (J 99 2) (s := 6 * i + t) (by omega)).mp q
          rw [lb_iff (hP0 _ (by omega))] at hn
          refine fin 0 (fun c hc => ?_)
          rw [lb_or, lb_0, Bool.or_false]
          exact (k4 c hc).trans (gpA_pout hn)
        · have hp : P0 (6 * i + t) := Classical.byContradiction fun hn => q ((lb_test (J 99 2) (s := 6 * i + t) (by omega)).mpr ((lb_iff (hP0 _ (by omega))).mpr hn))
          refine p_eastAcross hR (by omega) (by omega) (fun r hr => fin r (fun c hc => ?_))
          rw [lb_or, Bool.or_eq_true, k4 c hc, hr c hc]
          exact gpA_pin hz2 hp
    refine ⟨fun q => ?_, fun q => ?_⟩
    · have hn := (bit_test (I 99 1) (s := i) (by omega)).mp q
      rw [lb_iff (hL i (by omega))] at hn
      refine inner x y z (fun c hc => (g1 c hc).trans ?_) (fun c hc => (g2 c hc).trans (gpA_out hn)) (fun c hc => (g3 c hc).trans (gpA_out hn))
      constructor
      · rintro ⟨x1, w1, w2⟩; exact ⟨x1, by omega, w2⟩
      · rintro ⟨x1, w1, w2, w3⟩
        by_cases e : x1 = i
        · subst e; exact absurd w2 hn
        · exact ⟨x1, by omega, w2, w3⟩
    · have hp : L i := Classical.byContradiction fun hn => q ((bit_test (I 99 1) (s := i) (by omega)).mpr ((lb_iff (hL i (by omega))).mpr hn))
      refine p_lettersIn hR (by omega) (fun r hr => ?_)
      intro n18 e18
      refine p_eastInside hR (by omega) (fun r2 hr2 => ?_)
      intro n20 e20
      refine p_southInside hR (by omega) (fun r3 hr3 => ?_)
      intro n22 e22
      refine inner n18 n20 n22 (fun c hc => ?_) (fun c hc => ?_) (fun c hc => ?_)
      · rw [e18, b_or, Bool.or_eq_true, g1 c hc, hr c hc]
        constructor
        · rintro (⟨x1, w1, w2⟩ | w)
          · exact ⟨x1, by omega, w2⟩
          · exact ⟨i, by omega, hp, w⟩
        · rintro ⟨x1, w1, w2, w3⟩
          by_cases e : x1 = i
          · subst e; exact Or.inr w3
          · exact Or.inl ⟨x1, by omega, w2, w3⟩
      · rw [e20, lb_or, Bool.or_eq_true, g2 c hc, hr2 c hc]
        exact gpA_in hp
      · rw [e22, lb_or, Bool.or_eq_true, g3 c hc, hr3 c hc]
        exact gpA_in hp
/-! the graph of letters and pairs, one for each way -/
def bsR (n a : Nat) (bl : Nat → Nat → Nat) (w u v : Nat) : Prop := (u < n ∧ ((∃ i, i < a * a ∧ bl u i = v) ∨ ∃ c, insW a bl w u c ∧ v = 6 + c)) ∨ ∃ x y c, x < n ∧ y < n ∧ u = 6 + (6 * x + y) ∧ acrW a bl w x y c ∧ v = 6 + c
/-- after k steps from l -/
def gwS (n a : Nat) (bl : Nat → Nat → Nat) (l k : Nat) (I : gI) (J : gL) : Prop := (∀ c, c < 32 → (bt (I 99 1) c = true ↔ wk (mxR n (a * a) bl) k l c)) ∧ (∀ c, c < 64 → (lb (J 99 2) c = true ↔ wk (bsR n a bl 0) k l (6 + c))) ∧ (∀ c, c < 64 → (lb (J 99 3) c = true ↔ wk (bsR n a bl 1) k l (6 + c)))
theorem bs_letter {n a : Nat} {bl : Nat → Nat → Nat} {w l : Nat} (hn : n ≤ 6) (hb : ∀ x, x < 6 → ∀ i, i < 9 → bl x i < n) (hq : a * a ≤ 9) (hl : l < n) : ∀ {k c : Nat}, c < 6 → (wk (bsR n a bl w) k l c ↔ wk (mxR n (a * a) bl) k l c)
  | 0, c, _ => Iff.rfl
  | k + 1, c, hc => by
    rw [wk_last, wk_last]
    constructor
    · rintro ⟨m, h1, ⟨hm, ⟨i, hi, e⟩ | ⟨c', _, e⟩⟩ | ⟨x, y, c', _, _, _, _, e⟩⟩
      · exact ⟨m, (bs_letter hn hb hq hl (by omega)).mp h1, hm, i, hi, e⟩
      · omega
      · omega
    · rintro ⟨m, h1, hm, i, hi, e⟩
      exact ⟨m, (bs_letter hn hb hq hl (by omega)).mpr h1, Or.inl ⟨hm, Or.inl ⟨i, hi, e⟩⟩⟩
theorem bs_step {n a : Nat} {bl : Nat → Nat → Nat} {w l : Nat} (hn : n ≤ 6) (hb : ∀ x, x < 6 → ∀ i, i < 9 → bl x i < n) (hq : a * a ≤ 9) (hl : l < n) {k c : Nat} : gpA n a bl (fun x => wk (mxR n (a * a) bl) k l x) (fun c => wk (bsR n a bl w) k l (6 + c)) w n n 0 c ↔ wk (bsR n a bl w) (k + 1) l (6 + c) := by
  rw [wk_last]
  constructor
  · rintro (⟨x, h1, h2, h3⟩ | ⟨x, y, h1, h2, h3⟩)
    · exact ⟨x, (bs_letter hn hb hq hl (by omega)).mpr h2, Or.inl ⟨h1, Or.inr ⟨c, h3, rfl⟩⟩⟩
    · exact ⟨_, h2, Or.inr ⟨x, y, c, by omega, by omega, rfl, h3, rfl⟩⟩
  · rintro ⟨m, h1, ⟨hm, ⟨i, hi, e⟩ | ⟨c', h2, e⟩⟩ | ⟨x, y, c', hx, hy, rfl, h2, e⟩⟩
    · have := hb m (by omega) i (by omega)
      omega
    · obtain rfl : c = c' := by omega
      exact Or.inl ⟨m, hm, (bs_letter hn hb hq hl (by omega)).mp h1, h2⟩
    · obtain rfl : c = c' := by omega
      exact Or.inr ⟨x, y, by omega, h1, h2⟩
theorem p_growS {n a : Nat} {bl : Nat → Nat → Nat} {I : gI} {J : gL} (hR : RelL n a bl I) {l k : Nat} (hl : l < n) (hS : gwS n a bl l k I J) {Po : gI → gL → Prop} (h : ∀ I' J', gSm [99] I I' → gJm [99] J J' → gwS n a bl l (k + 1) I' J' → Po I' J') : wp_X3_growPairs I J Po := by
  have hR0 := hR
  obtain ⟨hn1, hn6, ha2, ha3, l0, m0, l1, m1, hb⟩ := hR0
  have hq := RelL_q ha2 ha3
  have hb' : ∀ x, x < 6 → ∀ i, i < 9 → bl x i < n := fun x hx i hi => (hb x hx i hi).1
  refine p_growPairs hR hS.1 hS.2.1 hS.2.2 (fun I' J' g1 g2 g3 g4 g5 => h I' J' g1 g2 ⟨fun c hc => (g3 c hc).trans ?_, fun c hc => (g4 c hc).trans (bs_step hn6 hb' (by omega) hl), fun c hc => (g5 c hc).trans (bs_step hn6 hb' (by omega) hl)⟩)
  rw [wk_last]
  constructor
  · rintro ⟨x, h1, h2, h3⟩; exact ⟨x, h2, h1, h3⟩
  · rintro ⟨x, h2, h1, h3⟩; exact ⟨x, h1, h2, h3⟩
