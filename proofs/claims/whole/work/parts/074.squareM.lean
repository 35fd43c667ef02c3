/-! squares: the model, and side by side -/
theorem RelL_228 {n a : Nat} {bl : Nat → Nat → Nat} {I I' : gI} (hR : RelL n a bl I) (g : gSm [228] I I') : RelL n a bl I' := RelL_sm hR (g 40 (by decide)) (fun j _ => by rw [g 200 (by decide)]) (fun l hl => g _ (by simp only [List.mem_cons, List.not_mem_nil, or_false]; omega)) (g 222 (by decide))
def sqM (w : Nat) (g : Nat → Nat → Nat) (y x c : Nat) : Prop := ∃ X Y, X + 1 < w ∧ Y + 1 < w ∧ (Y < y ∨ Y = y ∧ X < x) ∧ c = sqC (g X Y) (g (X + 1) Y) (g X (Y + 1)) (g (X + 1) (Y + 1))
def sqN (I : gI) (w : Nat) (g : Nat → Nat → Nat) (y x : Nat) (v : Int32) : Prop := ∃ p : Nat → Bool, (∀ c, c < 1296 → (p c = true ↔ sqM w g y x c)) ∧ v = nI (cN p 1296) ∧ ∀ c, c < 1296 → I 228 c = if p c then 1 else 0
theorem p_squaresM {n a : Nat} {bl : Nat → Nat → Nat} {I : gI} (hR : RelL n a bl I) {l k : Nat} (hl : l < n) (hk : k ≤ 5) {Po : Int32 → gI → Prop} (h : ∀ I', gSm [228] I I' → Po (nI (cN (sqB a bl l k) 1296)) I') : w_X10_squares_22 Po (nI l) (nI k) 0 I := by
  have hR0 := hR
  obtain ⟨hn1, hn6, ha2, ha3, l0, m0, l1, m1, hb⟩ := hR0
  have hb' : ∀ x, x < 6 → ∀ i, i < 9 → bl x i < n := fun x hx i hi => (hb x hx i hi).1
  have hpk := pw_le ha3 (show k ≤ 12 by omega)
  have hp0 := pw_pos ha2 k
  unfold w_X10_squares_22
  refine gl2 (N := 1296) (i0 := 0) (fun K v I => w_X10_squares_22b Po K (nI l) (nI k) v I) (fun i I' => gSm [228] I I' ∧ ∀ c, c < i → I' 228 c = 0) (by omega) (by omega) ⟨gSm_r I, fun c hc => absurd hc (by omega)⟩ ?_
  rintro i I1 hi ⟨g1, g2⟩ K kk
  unfold w_X10_squares_22b
  refine pk_le 1296 i (fun hz => ?_) (fun hz => ?_) rfl rfl
  · obtain rfl : i = 1296 := by omega
    have hR1 := RelL_228 hR g1
    refine p_width hR1.2.2.2.2.2.2.2.1 (by omega) ?_
    unfold w_X10_squares_54
    refine gl3b (N := a ^ k) (i0 := 0) (fun K v4 v5 I => w_X10_squares_54b Po K (nI l) (nI k) (nI (a ^ k)) v4 v5 I) (fun y v I' => gSm [228] I I' ∧ sqN I' (a ^ k) (grw a bl k l) y 0 v) (by omega) (by omega) ⟨g1, fun _ => false, fun c hc => ⟨fun z => absurd z Bool.false_ne_true, fun ⟨_, _, _, _, z, _⟩ => by omega⟩, ?_, fun c hc => g2 c hc⟩ ?_
    · rw [cN_zero (fun _ _ => rfl)]; rfl
    rintro y v I2 hy ⟨g3, p, g4, rfl, g5⟩ K2 kk2
    unfold w_X10_squares_54b
    rw [nI_1]
    refine pk_le (a ^ k) (y + 1) (fun hz => ?_) (fun hz => ?_) rfl rfl
    · have e : cN p 1296 = cN (sqB a bl l k) 1296 := cN_congr fun c hc => by
        rw [Bool.eq_iff_iff, g4 c hc, sqB_t]
        constructor
        · rintro ⟨X, Y, h1, h2, _, h3⟩; exact ⟨X, Y, h1, h2, h3⟩
        · rintro ⟨X, Y, h1, h2, h3⟩; exact ⟨X, Y, h1, h2, by omega, h3⟩
      rw [e]
      exact h I2 g3
    · unfold w_X10_squares_65
      refine gl3b (N := a ^ k) (i0 := 0) (fun K3 v4 v6 I => w_X10_squares_65b Po K2 K3 (nI l) (nI k) (nI (a ^ k)) v4 (nI y) v6 I) (fun x v I' => gSm [228] I I' ∧ sqN I' (a ^ k) (grw a bl k l) y x v) (by omega) (by omega) ⟨g3, p, g4, rfl, g5⟩ ?_
      rintro x v I3 hx ⟨g6, p, g7, rfl, g8⟩ K3 kk3
      have hR3 := RelL_228 hR g6
      unfold w_X10_squares_65b
      rw [nI_1, nI_1]
      refine pk_le (a ^ k) (x + 1) (fun hz2 => ?_) (fun hz2 => ?_) rfl rfl
      · intro n9 e9
        subst e9
        refine kk2 (by omega) _ I3 ⟨g6, p, fun c hc => (g7 c hc).trans ?_, rfl, g8⟩
        constructor
        · rintro ⟨X, Y, h1, h2, h3, h4⟩; exact ⟨X, Y, h1, h2, by omega, h4⟩
        · rintro ⟨X, Y, h1, h2, h3, h4⟩; exact ⟨X, Y, h1, h2, by omega, h4⟩
      · refine p_grownM hR3 hl (by omega) (by omega) (by omega) (p_grownM hR3 hl (by omega) hz2 (by omega) (p_grownM hR3 hl (by omega) (by omega) hz (p_grownM hR3 hl (by omega) hz2 hz ?_)))
        intro n14 e14
        have l1 := grw_lt ha2 ha3 hb' hn6 k hl (show x < a ^ k by omega) (show y < a ^ k by omega)
        have l2 := grw_lt ha2 ha3 hb' hn6 k hl hz2 (show y < a ^ k by omega)
        have l3 := grw_lt ha2 ha3 hb' hn6 k hl (show x < a ^ k by omega) hz
        have l4 := grw_lt ha2 ha3 hb' hn6 k hl hz2 hz
        rw [i_6, pk_mul, nI_add, pk_mul, nI_add, pk_mul, nI_add] at e14
        generalize hc0 : sqC (grw a bl k l x y) (grw a bl k l (x + 1) y) (grw a bl k l x (y + 1)) (grw a bl k l (x + 1) (y + 1)) = c0
        have e14' : n14 = nI c0 := by rw [e14, ← hc0]; congr 1; unfold sqC; omega
        have hc0l : c0 < 1296 := by rw [← hc0]; unfold sqC; omega
        subst e14'
        rw [nI_clamp (by omega)]
        refine ⟨vp_in_nI hc0l (by decide), ?_⟩
        have ste : ∀ s0 : Int32, (p c0 = true → s0 = nI 0) → (p c0 = false → s0 = nI 1) → w_X10_squares_152 Po K2 K3 (nI l) (nI k) (nI (a ^ k)) (nI y) (nI x) (nI c0) s0 (nI (cN p 1296)) I3 := by
          intro s0 hs1 hs0
          unfold w_X10_squares_152
          intro n17 e17
          refine ⟨vp_in_nI hc0l (by decide), ?_⟩
          rw [nI_clamp (by omega)]
          intro I19 e19 n20 e20
          rw [nI_1] at e20
          subst e20
          refine kk3 (by omega) n17 I19 ⟨by rw [e19]; exact gSm_u g6 (by decide), fun i => p i || decide (i = c0), fun c hc => ?_, ?_, fun c hc => ?_⟩
          · show (p c || decide (c = c0)) = true ↔ _
            rw [Bool.or_eq_true, decide_eq_true_eq, g7 c hc]
            constructor
            · rintro (⟨X, Y, h1, h2, h3, h4⟩ | e)
              · exact ⟨X, Y, h1, h2, by omega, h4⟩
              · exact ⟨x, y, hz2, hz, by omega, by rw [hc0]; exact e⟩
            · rintro ⟨X, Y, h1, h2, h3, h4⟩
              by_cases e : Y = y ∧ X = x
              · obtain ⟨rfl, rfl⟩ := e; exact Or.inr (by rw [h4, hc0])
              · exact Or.inl ⟨X, Y, h1, h2, by omega, h4⟩
          · cases hp : p c0 with
            | true =>
              rw [e17, hs1 hp, nI_add, Nat.add_zero]
              refine congrArg nI (cN_congr (fun i hi => ?_))
              by_cases e : i = c0
              · subst e; show p i = (p i || decide (i = i)); rw [hp]; rfl
              · show p i = (p i || decide (i = c0)); rw [decide_eq_false e, Bool.or_false]
            | false =>
              rw [e17, hs0 hp, nI_add]
              refine congrArg nI (Eq.symm ?_)
              refine (cN_set (c := c0) hp ?_ ?_ hc0l)
              · show (p c0 || decide (c0 = c0)) = true
                rw [decide_eq_true rfl, Bool.or_true]
              · intro i hi
                show (p i || decide (i = c0)) = p i
                rw [decide_eq_false hi, Bool.or_false]
          · show I19 228 c = if (p c || decide (c = c0)) = true then 1 else 0
            by_cases e : c = c0
            · subst e
              rw [e19, gup_at, decide_eq_true rfl, Bool.or_true]
              rfl
            · rw [e19, gup_ne e, decide_eq_false e, Bool.or_false]
              exact g8 c hc
        refine ⟨fun q => ste 1 (fun hp => ?_) (fun _ => rfl), fun q => ste 0 (fun _ => rfl) (fun hp => ?_)⟩
        · rw [g8 c0 hc0l, hp] at q
          exact absurd q (by decide)
        · rw [g8 c0 hc0l, hp] at q
          exact absurd rfl q
  · refine ⟨vp_in_nI (by omega) (by decide), ?_⟩
    rw [nI_clamp (by omega)]
    intro I22 e22 n23 e23
    rw [nI_1] at e23
    subst e23
    refine kk hz I22 ⟨by rw [e22]; exact gSm_u g1 (by decide), fun c hc => ?_⟩
    by_cases e : c = i
    · subst e; rw [e22, gup_at]; rfl
    · rw [e22, gup_ne e]; exact g2 c (by omega)
theorem q_squares {n a : Nat} {bl : Nat → Nat → Nat} {v1 v2 : Nat} {r cv gr : Bool} {room mc ms : Nat} {V : gV} {I : gI} {J : gL} (hW : gWl v1 v2 r cv gr room V) (hR : RelL n a bl I) (hc : gr = true ∨ 3 ≤ mc ∧ 48 ≤ ms) (a1 a2 : Int32) {Po : Int32 → Int32 → gV → gI → gL → Prop} (hbad : Po (-2) (-2) V I J)
    (hok : ∀ x V' I' J', gWl v1 v2 r cv true room V' → gSm [99, 102, 103, 228] I I' → gJm [99, 102, 103] J J' → Po x x V' I' J') : wA_X9_squares mc ms v1 a1 a2 V I J (fun r1 V1 I1 J1 => wp_X10_squares a1 a2 I1 (fun r2 I2 => Po r1 r2 V1 I2 J1)) := by
  have hR0 := hR
  obtain ⟨hn1, hn6, ha2, ha3, l0, m0, l1, m1, hb⟩ := hR0
  obtain ⟨w1, w2, w3, wT, wTS, wJG, wBL, wCO, wM, wr, wr', wc, wc', wg, wg'⟩ := id hW
  have bad1 : ∀ {x : Int32}, ¬ inR x 0 (nI (n - 1)) → ∀ l, l < n → x ≠ nI l := fun hx l hl e => hx (by rw [e]; exact inR_of (lo := 0) (by omega) (by omega) (by omega))
  unfold wA_X9_squares
  refine ⟨_, _, _, wT, wBL, w2, p_isLetterC hR (fun l hl e1 => ⟨fun q => absurd q one_ne, fun _ => ?_⟩) (fun hno => ⟨fun _ => ?_, fun q => absurd rfl q⟩)⟩
  · subst e1
    refine p_isBetween (fun b4 => ⟨fun _ => ?_, fun q => absurd q one_ne⟩) (fun b4 => ⟨fun q => absurd rfl q, fun _ => ?_⟩)
    · obtain ⟨k, _, hk, rfl⟩ := inR_nI (lo := 0) (hi := 5) (by decide) (by decide) b4
      refine ⟨_, mc, ms, wT.1, w2, wT.2, by omega, by omega, ?_⟩
      refine p_growthOf (n := n) (a := a) (bl := bl) hW hl hn6 hc (fun V' I' J' hW' g1 g2 g3 g4 => ?_)
      refine ⟨hW'.2.2.2.2.2.2.1, hW'.2.2.2.2.2.2.2.2.2.2.2.2.2.1 rfl, rfl, ?_⟩
      have hR' := RelL_99 hR g1
      refine p_countSquares hR' hl hk g3 g4 (fun I2 J2 g5 g6 => ?_)
      have hR2 := RelL_99 hR' (gSm_w g5 (by decide))
      unfold wp_X10_squares
      refine p_isLetterM hR2 (fun _ _ _ => ⟨fun q => absurd q one_ne, fun _ => ?_⟩) (fun q => absurd rfl (bad1 q l hl))
      refine p_isIn (fun _ => ⟨fun _ => ?_, fun q => absurd q one_ne⟩) (fun q => absurd b4 q)
      refine p_squaresM hR2 hl hk (fun I3 g7 => ?_)
      exact hok _ V' I3 J2 hW' (gSm_t (gSm_w g1 (by decide)) (gSm_t (gSm_w g5 (by decide)) (gSm_w g7 (by decide)))) (gJm_t g2 (gJm_w g6 (by decide)))
    · show wp_X10_squares _ a2 I (fun r2 I2 => Po (-2) r2 V I2 J)
      unfold wp_X10_squares
      refine p_isLetterM hR (fun _ _ _ => ⟨fun q => absurd q one_ne, fun _ => ?_⟩) (fun q => absurd rfl (bad1 q l hl))
      exact p_isIn (fun q => absurd q b4) (fun _ => ⟨fun q => absurd rfl q, fun _ => hbad⟩)
  · show wp_X10_squares a1 a2 I (fun r2 I2 => Po (-2) r2 V I2 J)
    unfold wp_X10_squares
    exact p_isLetterM hR (fun m hm e => absurd e (bad1 hno m hm)) (fun _ => ⟨fun _ => hbad, fun q => absurd rfl q⟩)
