/-! radius: class and model side by side -/
theorem gq7 {α β γ δ ε : Type} {N i0 : Nat} {a0 : α} {b0 : β} {c0 : γ} {d0 : δ} {e0 : ε} (B : (Int32 → α → β → γ → δ → ε → Prop) → Int32 → α → β → γ → δ → ε → Prop) (Q : Nat → α → β → γ → δ → ε → Prop) (hN : N < 2147483648) (hi : i0 ≤ N) (h0 : Q i0 a0 b0 c0 d0 e0) (st : ∀ i a b c d e, i ≤ N → Q i a b c d e → ∀ K : Int32 → α → β → γ → δ → ε → Prop, (i < N → ∀ a' b' c' d' e', Q (i + 1) a' b' c' d' e' → K (nI (i + 1)) a' b' c' d' e') → B K (nI i) a b c d e) : ∃ (Inv : Int32 → α → β → γ → δ → ε → Prop) (mu : Int32 → α → β → γ → δ → ε → Nat), Inv (nI i0) a0 b0 c0 d0 e0 ∧ ∀ v a b c d e, Inv v a b c d e → B (fun u a1 b1 c1 d1 e1 => Inv u a1 b1 c1 d1 e1 ∧ mu u a1 b1 c1 d1 e1 < mu v a b c d e) v a b c d e := by
  refine ⟨fun v a b c d e => ∃ i, i ≤ N ∧ v = nI i ∧ Q i a b c d e, fun v _ _ _ _ _ => N - v.toNatClampNeg, ⟨i0, hi, rfl, h0⟩, ?_⟩
  rintro _ a b c d e ⟨i, hi, rfl, hq⟩
  refine st i a b c d e hi hq _ (fun hlt a' b' c' d' e' hq' => ⟨⟨i + 1, by omega, rfl, hq'⟩, ?_⟩)
  show N - (nI (i + 1)).toNatClampNeg < N - (nI i).toNatClampNeg
  rw [nI_clamp (by omega), nI_clamp (by omega)]
  omega
noncomputable def smT (T w : Nat) (c : Nat → Nat → Nat) (cl : Bool) (ht : Nat) : Nat := smM (T ^ w) (okM T w c cl) (cd T 10 (fun t => c t 0) w) (cd T 10 (fun t => c t 2) w) cl ht
theorem pT4 {T w : Nat} (hT : T ≤ 8) (hw : w ≤ 4) : T ^ w ≤ 4096 := Nat.le_trans (Nat.pow_le_pow_left hT w) (pw8 w hw)
theorem smT_63 {T w : Nat} {c : Nat → Nat → Nat} {cl : Bool} {ht : Nat} (hT : T ≤ 8) (hw : w ≤ 4) (h1 : 1 ≤ ht) (h4 : ht ≤ 4) : smT T w c cl ht < 9223372036854775808 := smM_63 (pT4 hT hw) h1 h4
noncomputable def rdS (T : Nat) (c : Nat → Nat → Nat) : Nat := lf (fun j => decide (smT T (j + 1) c false (j + 1) = 0)) 4
def rmB (T p : Nat) : Nat → Nat
  | 0 => p
  | j + 1 => nxR (rmB T p j) (T ^ (j + 1))
theorem rmB_p {T p : Nat} (hp : rmP p) : ∀ j, rmP (rmB T p j)
  | 0 => hp
  | j + 1 => nxR_p (rmB_p hp j)
theorem rmB_m {T p : Nat} (hT : T ≤ 8) (hp : rmP p) {i : Nat} : ∀ {j : Nat}, i ≤ j → j ≤ 4 → rmB T p i ≤ rmB T p j
  | 0, h, _ => by rw [show i = 0 by omega]; exact Nat.le_refl _
  | j + 1, h, h4 => by
    by_cases e : i = j + 1
    · rw [e]; exact Nat.le_refl _
    · have h1 := rmB_m hT hp (i := i) (j := j) (by omega) (by omega)
      have h2 := (nxR_le (X := T ^ (j + 1)) (rmB_p (T := T) hp j) (pT4 hT (by omega))).1
      exact Nat.le_trans h1 h2
theorem wp0 {T w : Nat} {p : Nat} (hp : rmP p) (hT : T ≤ 8) (hw : w ≤ 4) : nxR p (T ^ w) ≠ 0 := by
  unfold nxR
  split
  · rename_i h; exact h.1
  · have := (rmF_b (T ^ w)).1; omega
section
variable {v1 v2 : Nat} {r cv gr : Bool} {room mc ms p T : Nat} {c : Nat → Nat → Nat} {V : gV} {I : gI} {J : gL}
theorem p_countT {w ht : Nat} {D : Nat} {dig : Nat → Nat} {q : Nat} {I1 : gI} {J1 : gL} (hw1 : 1 ≤ w) (hc9 : ∀ t, t < T → ∀ d, d < 4 → c t d ≤ 9) (hB : Bla q (T ^ w) (D ^ w) w false (okJ T w c false w) (allP T (hasN T c) w) (cd T D (fun t => dig (c t 0)) w) (cd T D (fun t => dig (c t 2)) w) (cd T 8 (fun t => t) w) I1) (hD : ∀ t, t < T → dig (c t 2) < D) (hi : ∀ t t', t < T → t' < T → dig (c t 2) = dig (c t' 2) → c t 2 = c t' 2) {Fs : Nat → Nat → Nat} (hT : Tls q Fs I1 J1) (h1 : 1 ≤ ht) (h4 : ht ≤ 4) {Po : Int64 → gI → gL → Prop} (hk : ∀ I' J', gSm tlI I1 I' → gJm tlJ J1 J' → (∃ Fs', Tls q Fs' I' J') → Po (lN (smT T w c false ht)) I' J') : wp_X5_countOpen q (nI ht) I1 J1 Po := by
  refine p_countOpen hB hT h1 h4 (fun I2 J2 s1 s2 s3 => ?_)
  have e : sN (okJ T w c false w) (fun x => wy (T ^ w) (fun x => okJ T w c false w x && allP T (hasN T c) w x) (cd T D (fun t => dig (c t 0)) w) (cd T D (fun t => dig (c t 2)) w) (fun v => if v < D ^ w then 1 else 0) (ht - 1) (cd T D (fun t => dig (c t 2)) w x)) (T ^ w) = smT T w c false ht := by
    by_cases hT : 0 < T
    · exact br_open hT hc9 hD hi ht
    · unfold smT; rw [pow0 hT hw1]; rfl
  rw [e]
  exact hk I2 J2 s1 s2 s3
theorem q_radius (hW : gWl v1 v2 r cv gr room V) (hG : RGi r room p I J) (hR : RelT T c I) (hc : rmB T p (min (rdS T c + 1) 4) - p ≤ mc) (hs : 32 * (rmB T p (min (rdS T c + 1) 4) - p) ≤ ms) {A : gV → Prop} (hA : ∀ V' r' cv' gr' room', gWl v1 v2 r' cv' gr' room' V' → A V') {Po : Int32 → Int32 → gV → gI → gL → Prop} (hok : ∀ x V' I' J', rwK v1 v2 cv gr (rmB T p (min (rdS T c + 1) 4)) I J V' I' J' → Po x x V' I' J') : wA_X9_radius mc ms v1 V I J (fun x V1 I1 J1 => A V1 ∧ wp_X10_radius I1 J1 (fun x2 I2 J2 => Po x x2 V1 I2 J2)) := by
  have hT8 := hR.1
  have hp := RGi_p hG
  have c9 := RelT_9 hR
  have hsl := lf_le (q := fun j => decide (smT T (j + 1) c false (j + 1) = 0)) 4
  obtain ⟨sp1, sp2⟩ := lf_sp (q := fun j => decide (smT T (j + 1) c false (j + 1) = 0)) 4
  have hS : rdS T c = lf (fun j => decide (smT T (j + 1) c false (j + 1) = 0)) 4 := rfl
  -- not ended before k: the end lies behind
  have far : ∀ k, k ≤ 4 → (∀ j, j < k → smT T (j + 1) c false (j + 1) ≠ 0) → k ≤ rdS T c := fun k hk h => by
    rcases Nat.lt_or_ge (rdS T c) k with z | z
    · exact absurd (of_decide_eq_true (sp2 (by omega))) (h _ z)
    · exact z
  -- the model
  have model : ∀ (V1 : gV) (I2 : gI) (J2 : gL), gWl v1 v2 true cv gr (rmB T p (min (rdS T c + 1) 4)) V1 → gSm lRG I I2 → gJm lRG J J2 → RGi true (rmB T p (min (rdS T c + 1) 4)) (rmB T p (min (rdS T c + 1) 4)) I2 J2 → ∀ x, x = (if rdS T c = 4 then -1 else nI (rdS T c + 1)) → wp_X10_radius I2 J2 (fun x2 I3 J3 => Po x x2 V1 I3 J3) := by
    intro V1 I2 J2 hW1 k1 k2 k3 x hx
    have hR2 := RelT_S hR k1 (fun k h1 h2 => by simp only [List.mem_cons, List.not_mem_nil, or_false]; omega) (by rw [k1 200 (by decide)]) (by decide)
    unfold wp_X10_radius w_X10_radius_2
    refine gl3 (N := 5) (i0 := 1) (fun K v I J => w_X10_radius_2b (fun x2 I3 J3 => Po x x2 V1 I3 J3) K v I J) (fun k I' J' => 1 ≤ k ∧ gSm [200, 202, 203, 204, 205, 207] I2 I' ∧ (∀ j, j ≠ 5 → I' 200 j = I2 200 j) ∧ gJm [206, 208, 209] J2 J' ∧ ∀ j, j < k - 1 → smT T (j + 1) c false (j + 1) ≠ 0) (by decide) (by decide) ⟨Nat.le_refl _, gSm_r _, fun _ _ => rfl, gJm_r _, fun j hj => absurd hj (by omega)⟩ ?_
    rintro k I3 J3 hk ⟨hk1, g1, g2, g3, g4⟩ K kk
    have fin := fun x => hok x V1 I3 J3 (rwK_m hW1 k1 k2 k3 g1 g2 g3)
    unfold w_X10_radius_2b
    refine pk_lt 4 k (fun hz => ?_) (fun hz => ?_) rfl rfl
    · have : rdS T c = 4 := by have := far 4 (Nat.le_refl _) (fun j hj => g4 j (by omega)); omega
      rw [if_pos this] at hx
      rw [hx]; exact fin _
    · have hR3 := RelT_S hR2 g1 (fun k h1 h2 => by simp only [List.mem_cons, List.not_mem_nil, or_false]; omega) (g2 0 (by decide)) (by decide)
      refine p_fillM (cl := false) hR3 hk1 hz hk1 hz ⟨fun _ => rfl, fun _ => rfl⟩ (fun I4 J4 s1 s2 s3 => ?_)
      have b63 : smT T k c false k < _ := smT_63 hT8 hz hk1 hz
      refine ⟨fun q => ?_, fun q => ?_⟩
      · have hne : smT T k c false k ≠ 0 := fun e => q ((lg_cmp_eq _ _).mpr (by show lN (smT T k c false k) = 0; rw [e]; rfl))
        intro n6 e6
        rw [nI_1] at e6
        subst e6
        refine kk (by omega) I4 J4 ⟨by omega, gSm_t g1 s1, fun j hj => by rw [s2 j hj, g2 j hj], gJm_t g3 s3, fun j hj => ?_⟩
        by_cases e : j = k - 1
        · rw [e, show k - 1 + 1 = k by omega]; exact hne
        · exact g4 j (by omega)
      · have h0 : smT T k c false k = 0 := (pk_lEQ (b := 0) b63 (by decide)).mp ((lg_cmp_eq _ _).mp q)
        have hst : rdS T c = k - 1 := lf_at (by omega) (decide_eq_true (by rw [show k - 1 + 1 = k by omega]; exact h0)) (fun y hy => decide_eq_false (g4 y hy))
        rw [if_neg (by omega), hst, show k - 1 + 1 = k by omega] at hx
        rw [hx]
        exact hok _ V1 I4 J4 (rwK_m hW1 k1 k2 k3 (gSm_t g1 s1) (fun j hj => by rw [s2 j hj, g2 j hj]) (gJm_t g3 s3))
  unfold wA_X9_radius wA_X9_radius_2
  refine gq7 (N := 5) (i0 := 1) (fun K v V c s I J => wA_X9_radius_2b mc ms (fun x V1 I1 J1 => A V1 ∧ wp_X10_radius I1 J1 (fun x2 I2 J2 => Po x x2 V1 I2 J2)) K v1 v V c s I J) (fun k V' c' s' I' J' => 1 ≤ k ∧ c' = rmB T p (k - 1) - p ∧ s' = 32 * (rmB T p (k - 1) - p) ∧ gSm lRG I I' ∧ gJm lRG J J' ∧ (∀ j, j < k - 1 → smT T (j + 1) c false (j + 1) ≠ 0) ∧ ∃ r' room', gWl v1 v2 r' cv gr room' V' ∧ RGi r' room' (rmB T p (k - 1)) I' J') (by decide) (by decide) ⟨Nat.le_refl _, by show 0 = p - p; omega, by show 0 = 32 * (p - p); omega, gSm_r _, gJm_r _, fun j hj => absurd hj (by omega), r, room, hW, hG⟩ ?_
  rintro k V1 _ _ I1 J1 hk ⟨hk1, rfl, rfl, g1, g2, g3, r', room', hW1, hG1⟩ K kk
  unfold wA_X9_radius_2b
  refine pk_lt 4 k (fun hz => ?_) (fun hz => ?_) rfl rfl
  · have e4 : rdS T c = 4 := by have := far 4 (Nat.le_refl _) (fun j hj => g3 j (by omega)); omega
    have ek : min (rdS T c + 1) 4 = k - 1 := by omega
    have hne : rmB T p (k - 1) ≠ 0 := by
      rw [show k - 1 = 3 + 1 by omega]
      exact wp0 (rmB_p hp 3) hT8 (by decide)
    cases r' with
    | false => exact absurd (hG1.1 rfl) hne
    | true =>
      have er : rmB T p (k - 1) = room' := (hG1.2 rfl).1
      rw [← er] at hW1 hG1
      rw [← ek] at hW1 hG1
      exact ⟨hA _ _ _ _ _ hW1, model V1 I1 J1 hW1 g1 g2 hG1 _ (by rw [if_pos e4])⟩
  · have hR1 := RelT_S hR g1 (fun k h1 h2 => by simp only [List.mem_cons, List.not_mem_nil, or_false]; omega) (by rw [g1 200 (by decide)]) (by decide)
    obtain ⟨_, w2, _, wT, _⟩ := id hW1
    have hst := far (k - 1) (by omega) g3
    have hstep : nxR (rmB T p (k - 1)) (T ^ k) = rmB T p k := by
      obtain ⟨j, rfl⟩ : ∃ j, k = j + 1 := ⟨k - 1, by omega⟩
      rfl
    have m1 := rmB_m (p := p) hT8 hp (i := 0) (j := k - 1) (by omega) (by omega)
    have m1' : p ≤ rmB T p (k - 1) := m1
    have m2 := rmB_m (p := p) hT8 hp (i := k - 1) (j := k) (by omega) (by omega)
    have m3 := rmB_m (p := p) hT8 hp (i := k) (j := min (rdS T c + 1) 4) (by omega) (by omega)
    refine ⟨_, rmB T p k - rmB T p (k - 1), 32 * (rmB T p k - rmB T p (k - 1)), wT.1, w2, wT.2, by omega, by omega, ?_⟩
    refine p_rowsOf (cl := false) hW1 hG1 hR1 hk1 hz (Or.inl rfl) ⟨fun _ => rfl, fun _ => rfl⟩ (by rw [hstep]; exact Nat.le_refl _) (by rw [hstep]; exact Nat.le_refl _) (fun V2 I2 J2 D dig hW2 y1 y2 hG2 hB hD hi hR2 => ?_)
    rw [hstep] at hW2 hG2 hB
    obtain ⟨_, _, _, Fs, hTl⟩ := hG2.2 rfl
    obtain ⟨_, _, _, xT, xTS, _, _, _, _, xr, _⟩ := id hW2
    refine ⟨_, xTS, xr rfl, rfl, p_countT hk1 c9 hB hD hi hTl hk1 hz (fun I3 J3 s1 s2 s3 => ?_)⟩
    obtain ⟨k1, k2, k3⟩ := rwK_c hW2 (gSm_t g1 y1) (gJm_t g2 y2) hG2 s1 s2 s3
    have b63 : smT T k c false k < _ := smT_63 hT8 hz hk1 hz
    refine ⟨fun q => ?_, fun q => ?_⟩
    · have hne : smT T k c false k ≠ 0 := fun e => q ((lg_cmp_eq _ _).mpr (by rw [e]; rfl))
      intro n19 e19
      rw [nI_1] at e19
      subst e19
      refine kk (by omega) V2 _ _ I3 J3 ⟨by omega, ?_, ?_, k1, k2, fun j hj => ?_, true, rmB T p k, hW2, k3⟩
      · rw [Nat.add_sub_cancel]; omega
      · rw [Nat.add_sub_cancel]; omega
      · by_cases e : j = k - 1
        · rw [e, show k - 1 + 1 = k by omega]; exact hne
        · exact g3 j (by omega)
    · have h0 : smT T k c false k = 0 := (pk_lEQ (b := 0) b63 (by decide)).mp ((lg_cmp_eq _ _).mp q)
      have hst : rdS T c = k - 1 := lf_at (by omega) (decide_eq_true (by rw [show k - 1 + 1 = k by omega]; exact h0)) (fun y hy => decide_eq_false (g3 y hy))
      have ek : min (rdS T c + 1) 4 = k := by omega
      rw [← ek] at hW2 k3
      refine ⟨hA _ _ _ _ _ hW2, ?_⟩
      refine model V2 I3 J3 hW2 k1 k2 k3 _ ?_
      rw [if_neg (by omega), hst, show k - 1 + 1 = k by omega]
end
