/-! the model: ways, told from their ends -/
section
variable {X : Nat} {ok : Nat → Bool} {N S : Nat → Nat} {I : gI} {J : gL}
theorem MR_r (h : MR X ok N S I) {r : Nat} (hr : r < cN ok X) : xr ok r < X ∧ ok (xr ok r) = true ∧ I 202 r = nI (xr ok r) ∧ I 203 r = nI (N (xr ok r)) ∧ I 204 r = nI (S (xr ok r)) ∧ N (xr ok r) < 10000 ∧ S (xr ok r) < 10000 := by
  obtain ⟨h1, h2, h3⟩ := xr_lt hr
  obtain ⟨a, b, c⟩ := h.1.2 _ h1 h2
  rw [h3] at a b c
  exact ⟨h1, h2, a, b, c, h.2.2 _ h1⟩
theorem MR_n (h : MR X ok N S I) : I 200 5 = nI (cN ok X) ∧ cN ok X ≤ X ∧ X ≤ 4096 := ⟨h.1.1, cN_le _ _, h.2.1⟩
theorem MR_k {I' : gI} (h : MR X ok N S I) (g5 : I' 200 5 = I 200 5) (g2 : I' 202 = I 202) (g3 : I' 203 = I 203) (g4 : I' 204 = I 204) : MR X ok N S I' := ⟨⟨by rw [g5]; exact h.1.1, by rw [g2, g3, g4]; exact h.1.2⟩, h.2⟩
theorem p_tellWays (h : MR X ok N S I) {ht : Nat} (h4 : ht ≤ 4) {E : Nat → Nat} {a2 : Int32} (hE1 : ∀ v, v < 10000 → a2 = -1 ∨ nI v = a2 → E v = 1) (hE0 : ∀ v, v < 10000 → ¬ a2 = -1 → ¬ nI v = a2 → E v = 0) {Po : gL → Prop} (hk : ∀ J', gJm [206] J J' → (∀ k, k ≤ ht → ∀ v, v < 10000 → J' 206 (10000 * k + v) = lN (wy X ok N S E k v)) → Po J') : wp_X10_tellWays (nI ht) a2 I J Po := by
  obtain ⟨m1, m2, m3⟩ := MR_n h
  unfold wp_X10_tellWays w_X10_tellWays_2
  refine gl2 (N := 10000) (i0 := 0) (fun K v J => w_X10_tellWays_2b Po K (nI ht) a2 v I J) (fun u J' => gJm [206] J J' ∧ ∀ v, v < u → J' 206 v = lN (E v)) (by decide) (by decide) ⟨gJm_r _, fun v hv => absurd hv (by omega)⟩ ?_
  rintro u J1 hu ⟨g1, g2⟩ K kk
  unfold w_X10_tellWays_2b
  refine pk_le 10000 u (fun hz => ?_) (fun hz => ?_) rfl rfl
  · unfold w_X10_tellWays_38
    refine gl2 (N := ht + 1) (i0 := 1) (fun K v J => w_X10_tellWays_38b Po K (nI ht) v I J) (fun k J' => 1 ≤ k ∧ gJm [206] J J' ∧ ∀ d, d < k → ∀ v, v < 10000 → J' 206 (10000 * d + v) = lN (wy X ok N S E d v)) (by omega) (by omega) ⟨Nat.le_refl _, g1, fun d hd v hv => by rw [show d = 0 by omega, Nat.mul_zero, Nat.zero_add]; exact g2 v (by omega)⟩ ?_
    rintro k J2 hk2 ⟨hk1, o1, o2⟩ K2 kk2
    unfold w_X10_tellWays_38b
    refine pk_lt ht k (fun hz2 => ?_) (fun hz2 => ?_) rfl rfl
    · exact hk J2 o1 (fun d hd v hv => o2 d (by omega) v hv)
    · unfold w_X10_tellWays_46
      refine gl2 (N := 10000) (i0 := 0) (fun K v J => w_X10_tellWays_46b Po K2 K (nI ht) (nI k) v I J) (fun u J' => gJm [206] J J' ∧ (∀ d, d < k → ∀ v, v < 10000 → J' 206 (10000 * d + v) = lN (wy X ok N S E d v)) ∧ ∀ v, v < u → J' 206 (10000 * k + v) = lN 0) (by decide) (by decide) ⟨o1, o2, fun v hv => absurd hv (by omega)⟩ ?_
      rintro u J3 hu3 ⟨p1, p2, p3⟩ K3 kk3
      unfold w_X10_tellWays_46b
      refine pk_le 10000 u (fun hz3 => ?_) (fun hz3 => ?_) rfl rfl
      · unfold w_X10_tellWays_77
        refine gl2 (N := cN ok X) (i0 := 0) (fun K v J => w_X10_tellWays_77b Po K2 K (nI ht) (nI k) v I J) (fun r J' => gJm [206] J J' ∧ (∀ d, d < k → ∀ v, v < 10000 → J' 206 (10000 * d + v) = lN (wy X ok N S E d v)) ∧ ∀ v, v < 10000 → J' 206 (10000 * k + v) = lN (sN (fun _ => true) (fun r => if N (xr ok r) = v then wy X ok N S E (k - 1) (S (xr ok r)) else 0) r)) (by omega) (by omega) ⟨p1, p2, fun v hv => p3 v (by omega)⟩ ?_
        rintro r J4 hr ⟨q1, q2, q3⟩ K4 kk4
        unfold w_X10_tellWays_77b
        refine pk_le (cN ok X) r (fun hz4 => ?_) (fun hz4 => ?_) m1 rfl
        · obtain rfl : r = cN ok X := by omega
          intro n5 e5
          rw [nI_1] at e5
          subst e5
          refine kk2 (by omega) J4 ⟨by omega, q1, fun d hd v hv => ?_⟩
          by_cases e : d = k
          · subst e
            rw [q3 v hv, sN_xr (fun x => if N x = v then wy X ok N S E (d - 1) (S x) else 0)]
            obtain ⟨m, rfl⟩ : ∃ m, d = m + 1 := ⟨d - 1, by omega⟩
            rw [Nat.add_sub_cancel]
            show lN _ = lN (sN (fun x => ok x && decide (N x = v)) (fun x => wy X ok N S E m (S x)) X)
            rw [← sN_if]
            refine congrArg lN (sN_cg (fun x _ => ⟨rfl, fun _ => ?_⟩))
            by_cases e : N x = v
            · rw [if_pos e, if_pos (decide_eq_true e)]
            · rw [if_neg e, if_neg (by rw [decide_eq_false e]; decide)]
          · exact q2 d (by omega) v hv
        · obtain ⟨x1, x2, _, x4, x5, x6, x7⟩ := MR_r h hz4
          have ws := q2 (k - 1) (by omega) _ x7
          rw [nI_clamp (n := r) (by omega), x4, x5, i_10000, i_1, pk_sub (by omega), pk_mul, pk_mul, nI_add, nI_add, nI_clamp (by omega), nI_clamp (by omega), q3 _ x6, ws, lN_add, nI_add]
          refine ⟨vp_in_nI (by omega) (by decide), vp_in_nI (by omega) (by decide), vp_in_nI (by omega) (by decide), vp_in_nI (by omega) (by decide), vp_in_nI (by omega) (by decide), ?_⟩
          intro J11 e11 n12 e12
          subst e12
          refine kk4 hz4 J11 ⟨by rw [e11]; exact gJm_u q1 (by decide), fun d hd v hv => ?_, fun v hv => ?_⟩
          · rw [e11, gup_ne (by omega)]; exact q2 d hd v hv
          · rw [sN_ts]
            by_cases e : v = N (xr ok r)
            · subst e; rw [e11, gup_at, if_pos rfl]
            · rw [e11, gup_ne (by omega), if_neg (fun z => e z.symm), Nat.add_zero]; exact q3 v hv
      · rw [i_10000, pk_mul, nI_add, nI_clamp (by omega), nI_1]
        refine ⟨vp_in_nI (by omega) (by decide), ?_⟩
        intro J14 e14 n15 e15
        subst e15
        refine kk3 hz3 J14 ⟨by rw [e14]; exact gJm_u p1 (by decide), fun d hd v hv => ?_, fun v hv => ?_⟩
        · rw [e14, gup_ne (by omega)]; exact p2 d hd v hv
        · by_cases e : v = u
          · subst e; rw [e14, gup_at]; rfl
          · rw [e14, gup_ne (by omega)]; exact p3 v (by omega)
  · have nx : ∀ z : Int64, z = lN (E u) → w_X10_tellWays_29 Po K (nI ht) a2 (nI u) z (nI u) I J1 := by
      intro z ez
      unfold w_X10_tellWays_29
      rw [nI_clamp (by omega), nI_1]
      refine ⟨vp_in_nI (by omega) (by decide), ?_⟩
      intro J18 e18 n19 e19
      subst e19
      refine kk hz J18 ⟨by rw [e18]; exact gJm_u g1 (by decide), fun v hv => ?_⟩
      by_cases e : v = u
      · subst e; rw [e18, gup_at, ez]
      · rw [e18, gup_ne e]; exact g2 v (by omega)
    refine ⟨fun q => ?_, fun q => ⟨fun q2 => ?_, fun q2 => ?_⟩⟩
    · unfold w_X10_tellWays_24
      exact nx _ (by rw [hE1 u hz (Or.inl q)]; rfl)
    · exact nx _ (by rw [hE0 u hz q q2]; rfl)
    · unfold w_X10_tellWays_24
      exact nx _ (by rw [hE1 u hz (Or.inr q2)]; rfl)
end
