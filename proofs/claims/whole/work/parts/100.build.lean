/-! the class: giveDigits, addRows -/
theorem nI_shr {a s : Nat} (ha : a < 2147483648) (hs : s < 32) : nI a >>> (nI s &&& 31) = nI (a / 2 ^ s) := by
  have h1 : a / 2 ^ s < 2147483648 := Nat.lt_of_le_of_lt (Nat.div_le_self _ _) ha
  apply b_ext
  intro i hi
  rw [b_sshr s hs _ hi, btN h1, Nat.testBit_div_two_pow]
  by_cases c : s + i < 32
  · rw [if_pos c, btN ha, Nat.add_comm]
  · rw [if_neg c, btN ha, mk_tb (k := 31) ha (Nat.le_refl _), mk_tb (k := 31) ha (by omega)]
def hasN (T : Nat) (c : Nat → Nat → Nat) (t : Nat) : Bool := decide (∃ t', t' < T ∧ c t' 2 = c t 0)
def DG (T : Nat) (c : Nat → Nat → Nat) (dig : Nat → Nat) (D : Nat) (I : gI) : Prop := D ≤ T ∧ (∀ t, t < T → dig (c t 2) < D ∧ I 71 (c t 2) = nI (dig (c t 2))) ∧ (∀ a, a < 10 → (∀ t, t < T → c t 2 ≠ a) → I 71 a = -1) ∧ (∀ t t', t < T → t' < T → dig (c t 2) = dig (c t' 2) → c t 2 = c t' 2) ∧ I 70 11 = nI D
theorem p_giveDigits {room T : Nat} {c : Nat → Nat → Nat} {I : gI} (hT : RelT T c I) {Po : gI → Prop} (hk : ∀ I' dig D, gSm [70, 71] I I' → (∀ j, j ≠ 11 → I' 70 j = I 70 j) → DG T c dig D I' → Po I') : wp_X5_giveDigits room I Po := by
  obtain ⟨hT8, e10, e200, hc⟩ := hT
  unfold wp_X5_giveDigits
  refine p_fillI (by decide) (fun I1 f1 f2 _ => ?_)
  intro I2 e2
  have s2 : gSm [70, 71] I I2 := by
    rw [e2]
    exact gSm_u (fun k hk => f1 k (fun e => hk (by rw [e]; decide))) (by decide)
  unfold w_X5_giveDigits_15
  refine gl2 (N := T) (i0 := 0) (fun K v I => w_X5_giveDigits_15b room Po K v I) (fun t I' => gSm [70, 71] I I' ∧ (∀ j, j ≠ 11 → I' 70 j = I 70 j) ∧ ∃ dig D, DG t c dig D I') (by omega) (by omega) ⟨s2, fun j hj => by rw [e2, gup_ne hj, f1 70 (by decide)], fun _ => 0, 0, Nat.le_refl _, fun t ht => absurd ht (by omega), fun a ha _ => by rw [e2, gup_o (by decide)]; exact f2 a ha, fun t t' ht => absurd ht (by omega), by rw [e2, gup_at]; rfl⟩ ?_
  rintro t I3 ht ⟨g1, g2, dig, D, d1, d2, d3, d4, d5⟩ K kk
  unfold w_X5_giveDigits_15b
  refine pk_le T t (fun hz => ?_) (fun hz => ?_) (by rw [g1 10 (by decide)]; exact e10) rfl
  · obtain rfl : t = T := by omega
    exact hk I3 dig D g1 g2 ⟨d1, d2, d3, d4, d5⟩
  · obtain ⟨hc9, hc13, _⟩ := hc t hz 2 (by decide)
    have f13 : I3 13 t = nI (c t 2) := by rw [g1 13 (by decide)]; exact hc13
    rw [nI_clamp (n := t) (by omega), f13, nI_clamp (n := c t 2) (by omega)]
    have nxt : ∀ (I' : gI) (dig' : Nat → Nat) (D' : Nat), gSm [70, 71] I I' → (∀ j, j ≠ 11 → I' 70 j = I 70 j) → DG (t + 1) c dig' D' I' → w_X5_giveDigits_72 room Po K (nI t) I' := by
      intro I' dig' D' h1 h2 h3
      unfold w_X5_giveDigits_72
      intro n7 e7
      rw [nI_1] at e7
      subst e7
      exact kk hz I' ⟨h1, h2, dig', D', h3⟩
    refine ⟨vp_in_nI (by omega) (by decide), vp_in_nI (by omega) (by decide), fun q => ?_, fun q => ?_⟩
    · have hex : ∃ t0, t0 < t ∧ c t0 2 = c t 2 := by
        apply Classical.byContradiction
        intro hn
        exact q (d3 (c t 2) (by omega) (fun t0 h0 e => hn ⟨t0, h0, e⟩))
      obtain ⟨t0, h0, e0⟩ := hex
      have low : ∀ t1, t1 < t + 1 → ∃ t2, t2 < t ∧ c t2 2 = c t1 2 := fun t1 h1 => by
        by_cases e : t1 = t
        · subst e; exact ⟨t0, h0, e0⟩
        · exact ⟨t1, by omega, rfl⟩
      refine nxt I3 dig D g1 g2 ⟨by omega, fun t1 h1 => ?_, fun a ha hn => d3 a ha (fun t1 h1 => hn t1 (by omega)), fun t1 t1' h1 h1' e => ?_, d5⟩
      · obtain ⟨t2, h2, e2⟩ := low t1 h1
        rw [← e2]; exact d2 t2 h2
      · obtain ⟨t2, h2, e2⟩ := low t1 h1
        obtain ⟨t3, h3, e3⟩ := low t1' h1'
        rw [← e2, ← e3] at e ⊢
        exact d4 t2 t3 h2 h3 e
    · have hno : ∀ t0, t0 < t → c t0 2 ≠ c t 2 := fun t0 h0 e => by
        have := (d2 t0 h0).2
        rw [e, q] at this
        have hd := (d2 t0 h0).1
        rw [e] at hd
        exact nI_m1 (by omega) this.symm
      refine ⟨vp_in_nI (by omega) (by decide), vp_in_nI (by omega) (by decide), ?_⟩
      rw [d5]
      intro I10 e10' I11 e11
      have f11 : I10 70 11 = nI D := by rw [e10', gup_o (by decide)]; exact d5
      rw [f11, nI_1] at e11
      have x71 : ∀ a, a ≠ c t 2 → I11 71 a = I3 71 a := fun a ha => by rw [e11, gup_o (by decide), e10', gup_ne ha]
      refine nxt I11 (fun a => if a = c t 2 then D else dig a) (D + 1) (by rw [e11, e10']; exact gSm_u (gSm_u g1 (by decide)) (by decide)) (fun j hj => by rw [e11, gup_ne hj, e10', gup_o (by decide)]; exact g2 j hj) ⟨by omega, fun t1 h1 => ?_, fun a ha hn => ?_, fun t1 t1' h1 h1' e => ?_, by rw [e11, gup_at]⟩
      · show (if c t1 2 = c t 2 then D else dig (c t1 2)) < D + 1 ∧ I11 71 (c t1 2) = nI (if c t1 2 = c t 2 then D else dig (c t1 2))
        by_cases e : c t1 2 = c t 2
        · rw [if_pos e, e, e11, gup_o (by decide), e10', gup_at]
          exact ⟨by omega, rfl⟩
        · have h1' : t1 < t := by
            rcases Nat.lt_or_ge t1 t with z | z
            · exact z
            · exact absurd (by rw [show t1 = t by omega]) e
          rw [if_neg e, x71 _ e]
          exact ⟨by have := (d2 t1 h1').1; omega, (d2 t1 h1').2⟩
      · rw [x71 a (fun e => hn t (by omega) e.symm)]
        exact d3 a ha (fun t1 h1 => hn t1 (by omega))
      · have e : (if c t1 2 = c t 2 then D else dig (c t1 2)) = (if c t1' 2 = c t 2 then D else dig (c t1' 2)) := e
        by_cases z1 : c t1 2 = c t 2
        · by_cases z2 : c t1' 2 = c t 2
          · rw [z1, z2]
          · rw [if_pos z1, if_neg z2] at e
            have h2 : t1' < t := by
              rcases Nat.lt_or_ge t1' t with y | y
              · exact y
              · exact absurd (by rw [show t1' = t by omega]) z2
            have := (d2 t1' h2).1
            omega
        · have h1t : t1 < t := by
            rcases Nat.lt_or_ge t1 t with y | y
            · exact y
            · exact absurd (by rw [show t1 = t by omega]) z1
          by_cases z2 : c t1' 2 = c t 2
          · rw [if_neg z1, if_pos z2] at e
            have := (d2 t1 h1t).1
            omega
          · have h2 : t1' < t := by
              rcases Nat.lt_or_ge t1' t with y | y
              · exact y
              · exact absurd (by rw [show t1' = t by omega]) z2
            rw [if_neg z1, if_neg z2] at e
            exact d4 t1 t1' h1t h2 e
/-- a good beginning of a row: j TILES; cl: in rings -/
def okJ (T w : Nat) (c : Nat → Nat → Nat) (cl : Bool) (j p : Nat) : Bool := okP T (fun t => c t 1) (fun t => c t 3) j p && (!cl || (allP T (hasN T c) j p && (!decide (j = w) || decide (c (p % T) 1 = c (fdg T (w - 1) p) 3))))
theorem okJ_pre {T w : Nat} {c : Nat → Nat → Nat} {cl : Bool} {d j x : Nat} (hw : j + d = w) (h : okJ T w c cl w x = true) : okJ T w c cl j (x / T ^ d) = true := by
  unfold okJ at h ⊢
  rw [Bool.and_eq_true] at h ⊢
  subst hw
  refine ⟨okP_pre d j x h.1, ?_⟩
  have h2 := h.2
  cases cl with
  | false => rfl
  | true =>
    rw [Bool.not_true, Bool.false_or, Bool.and_eq_true] at h2 ⊢
    refine ⟨allP_pre d j x h2.1, ?_⟩
    by_cases c0 : d = 0
    · subst c0; rw [Nat.pow_zero, Nat.div_one]; exact h2.2
    · rw [decide_eq_false (by omega)]; rfl
noncomputable def nbI (T D : Nat) (c : Nat → Nat → Nat) (dig : Nat → Nat) (j p : Nat) : Int32 := if allP T (hasN T c) j p = true then nI (cd T D (fun t => dig (c t 0)) j p) else -1
/-- the rows below hi are there -/
def RWs (T w D : Nat) (c : Nat → Nat → Nat) (cl : Bool) (dig : Nat → Nat) (hi : Nat) (I : gI) : Prop := I 70 13 = nI (cN (okJ T w c cl w) hi) ∧ ∀ x, x < hi → okJ T w c cl w x = true → I 72 (cN (okJ T w c cl w) x) = nI (cd T 8 (fun t => t) w x) ∧ I 73 (cN (okJ T w c cl w) x) = nbI T D c dig w x ∧ I 74 (cN (okJ T w c cl w) x) = nI (cd T D (fun t => dig (c t 2)) w x)
theorem RWs_skip {T w D : Nat} {c : Nat → Nat → Nat} {cl : Bool} {dig : Nat → Nat} {a b : Nat} {I : gI} (h : RWs T w D c cl dig a I) (hab : a ≤ b) (hn : ∀ x, a ≤ x → x < b → okJ T w c cl w x = false) : RWs T w D c cl dig b I := by
  have e : cN (okJ T w c cl w) b = cN (okJ T w c cl w) a := by
    have := cN_add (okJ T w c cl w) a (b - a)
    rw [show a + (b - a) = b by omega] at this
    rw [this, cN_zero (p := fun i => okJ T w c cl w (a + i)) (fun i hi => hn (a + i) (by omega) (by omega)), Nat.add_zero]
  refine ⟨by rw [e]; exact h.1, fun x hx hok => ?_⟩
  rcases Nat.lt_or_ge x a with z | z
  · exact h.2 x z hok
  · rw [hn x z hx] at hok; exact absurd hok (by decide)
theorem cd_fst {T : Nat} (hT : 0 < T) (h8 : T ≤ 8) : ∀ (j p : Nat), cd T 8 (fun t => t) (j + 1) p / 8 ^ j % 8 = fdg T j p
  | 0, p => by
    show (0 * 8 + p % T) / 8 ^ 0 % 8 = p % T
    have := Nat.mod_lt p hT
    rw [Nat.pow_zero, Nat.div_one]; omega
  | j + 1, p => by
    show (cd T 8 (fun t => t) (j + 1) (p / T) * 8 + p % T) / 8 ^ (j + 1) % 8 = fdg T j (p / T)
    have := Nat.mod_lt p hT
    rw [Nat.pow_succ, Nat.mul_comm (8 ^ j) 8, ← Nat.div_div_eq_div_mul, show (cd T 8 (fun t => t) (j + 1) (p / T) * 8 + p % T) / 8 = cd T 8 (fun t => t) (j + 1) (p / T) by omega]
    exact cd_fst hT h8 j (p / T)
theorem pw8 : ∀ j, j ≤ 4 → 8 ^ j ≤ 4096 := by decide
section
variable {room T w D : Nat} {c : Nat → Nat → Nat} {cl : Bool} {dig : Nat → Nat}
theorem p_addRows (hT8 : T ≤ 8) (hw1 : 1 ≤ w) (hw4 : w ≤ 4) (hroom : T ^ w ≤ room) (hr : room < 2147483648) {I0 : gI} (hR : RelT T c I0) (hD : DG T c dig D I0) (h9 : I0 70 9 = nI w) (h10 : I0 70 10 = 0 ↔ cl = false) (h0 : I0 70 0 = nI room) : ∀ (d N j p : Nat) (I : gI) (Po : gI → Prop), j + d = w → d < N → p < T ^ j → okJ T w c cl j p = true → gSm [70, 72, 73, 74] I0 I → (∀ k, k ≠ 13 → I 70 k = I0 70 k) → RWs T w D c cl dig (p * T ^ d) I → (∀ I', gSm [70, 72, 73, 74] I0 I' → (∀ k, k ≠ 13 → I' 70 k = I0 70 k) → RWs T w D c cl dig ((p + 1) * T ^ d) I' → Po I') → wp_X5_addRows room N (nI j) (nI (cd T 8 (fun t => t) j p)) (nbI T D c dig j p) (nI (cd T D (fun t => dig (c t 2)) j p)) I Po
  | _, 0, _, _, _, _, _, h, _, _, _, _, _, _ => absurd h (by omega)
  | d, N + 1, j, p, I, Po, hjd, hdN, hp, hok, g1, g2, hRW, hk => by
    have f9 : I 70 9 = nI w := by rw [g2 9 (by decide)]; exact h9
    have hDT := hD.1
    obtain ⟨_, e10, _, hc⟩ := hR
    have hTw : T ^ w ≤ 8 ^ w := Nat.pow_le_pow_left hT8 w
    have h8w := pw8 w hw4
    show wb_X5_addRows (wp_X5_addRows room N) room (nI j) (nI (cd T 8 (fun t => t) j p)) (nbI T D c dig j p) (nI (cd T D (fun t => dig (c t 2)) j p)) I Po
    unfold wb_X5_addRows
    refine pk_lt j w (fun hz => ?_) (fun hz => ?_) rfl f9
    · obtain ⟨d, rfl⟩ : ∃ d', d = d' + 1 := ⟨d - 1, by omega⟩
      have hrange : ∀ t, (p * T + t) * T ^ d = p * T ^ (d + 1) + t * T ^ d := fun t => by
        rw [Nat.add_mul, Nat.mul_assoc, Nat.pow_succ, Nat.mul_comm T (T ^ d)]
      unfold w_X5_addRows_20
      refine gl2 (N := T) (i0 := 0) (fun K v I => w_X5_addRows_20b (wp_X5_addRows room N) room Po K (nI j) (nI (cd T 8 (fun t => t) j p)) (nbI T D c dig j p) (nI (cd T D (fun t => dig (c t 2)) j p)) v I) (fun t I' => gSm [70, 72, 73, 74] I0 I' ∧ (∀ k, k ≠ 13 → I' 70 k = I0 70 k) ∧ RWs T w D c cl dig ((p * T + t) * T ^ d) I') (by omega) (by omega) ⟨g1, g2, by rw [hrange 0, Nat.zero_mul, Nat.add_zero]; exact hRW⟩ ?_
      rintro t I1 ht ⟨u1, u2, u3⟩ K kk
      unfold w_X5_addRows_20b
      refine pk_le T t (fun hz2 => ?_) (fun hz2 => ?_) (by rw [u1 10 (by decide)]; exact e10) rfl
      · obtain rfl : t = T := by omega
        refine hk I1 u1 u2 ?_
        have : (p * t + t) * t ^ d = (p + 1) * t ^ (d + 1) := by
          rw [hrange t, Nat.add_mul, Nat.one_mul, Nat.pow_succ, Nat.mul_comm t (t ^ d)]
        rw [← this]
        exact u3
      · have hT0 : 0 < T := by omega
        have hdm : (p * T + t) / T = p ∧ (p * T + t) % T = t := by
          rw [Nat.mul_comm p T]
          exact ⟨by rw [Nat.mul_add_div hT0, Nat.div_eq_of_lt hz2, Nat.add_zero], by rw [Nat.mul_add_mod, Nat.mod_eq_of_lt hz2]⟩
        have hp' : p * T + t < T ^ (j + 1) := by
          have : (p + 1) * T ≤ T ^ j * T := Nat.mul_le_mul_right T hp
          rw [Nat.add_mul, Nat.one_mul] at this
          rw [Nat.pow_succ]; omega
        -- this tile is passed over
        have skip : okJ T w c cl (j + 1) (p * T + t) = false → ∀ n4 : Int32, n4 = nI t + 1 → K n4 I1 := by
          intro hno n4 e4
          rw [nI_1] at e4
          subst e4
          refine kk hz2 I1 ⟨u1, u2, RWs_skip u3 (Nat.mul_le_mul_right _ (by omega)) (fun x hx1 hx2 => ?_)⟩
          cases e : okJ T w c cl w x with
          | false => rfl
          | true =>
            have := okJ_pre (d := d) (j := j + 1) (by omega) e
            have hq : x / T ^ d = p * T + t := by
              have hpos : 0 < T ^ d := Nat.pow_pos hT0
              have a1 : p * T + t ≤ x / T ^ d := (Nat.le_div_iff_mul_le hpos).mpr hx1
              have a2 : x / T ^ d < p * T + (t + 1) := (Nat.div_lt_iff_lt_mul hpos).mpr hx2
              omega
            rw [hq, hno] at this
            exact absurd this (by decide)
        have cd8 : cd T 8 (fun t => t) j p < 8 ^ j := cd_lt hT0 (fun t ht => by omega) j p
        have h8j := pw8 j (by omega)
        have cdS : cd T D (fun t => dig (c t 2)) j p < D ^ j := cd_lt hT0 (fun t ht => (hD.2.1 t ht).1) j p
        have hDj : D ^ j ≤ 8 ^ j := Nat.pow_le_pow_left (by omega) j
        obtain ⟨n9, n11, _⟩ := hc t hz2 0 (by decide)
        obtain ⟨s9, s13, _⟩ := hc t hz2 2 (by decide)
        have f11 : I1 11 t = nI (c t 0) := by rw [u1 11 (by decide)]; exact n11
        have f12 : ∀ t', t' < T → I1 12 t' = nI (c t' 1) := fun t' h' => by rw [u1 12 (by decide)]; exact (hc t' h' 1 (by decide)).2.1
        have f13 : I1 13 t = nI (c t 2) := by rw [u1 13 (by decide)]; exact s13
        have f14 : ∀ t', t' < T → I1 14 t' = nI (c t' 3) := fun t' h' => by rw [u1 14 (by decide)]; exact (hc t' h' 3 (by decide)).2.1
        have e71 : I1 71 = I0 71 := u1 71 (by decide)
        have k10 : I1 70 10 = 0 ↔ cl = false := by rw [u2 10 (by decide)]; exact h10
        have k9 : I1 70 9 = nI w := by rw [u2 9 (by decide)]; exact h9
        have k11 : I1 70 11 = nI D := by rw [u2 11 (by decide)]; exact hD.2.2.2.2
        -- its north digit
        have hn4 : I1 71 (c t 0) = if hasN T c t = true then nI (dig (c t 0)) else -1 := by
          rw [e71]
          by_cases hh : hasN T c t = true
          · rw [if_pos hh]
            obtain ⟨t', h1, h2⟩ := of_decide_eq_true hh
            have := (hD.2.1 t' h1).2
            rw [h2] at this
            exact this
          · rw [if_neg hh]
            refine hD.2.2.1 (c t 0) (by omega) (fun t' h1 h2 => hh (decide_eq_true ⟨t', h1, h2⟩))
        have hdN0 : hasN T c t = true → dig (c t 0) < D := fun hh => by
          obtain ⟨t', h1, h2⟩ := of_decide_eq_true hh
          have := (hD.2.1 t' h1).1
          rw [h2] at this
          exact this
        have allS : allP T (hasN T c) (j + 1) (p * T + t) = (allP T (hasN T c) j p && hasN T c t) := by
          show (allP T (hasN T c) j ((p * T + t) / T) && hasN T c ((p * T + t) % T)) = _
          rw [hdm.1, hdm.2]
        have okS : okP T (fun t => c t 1) (fun t => c t 3) (j + 1) (p * T + t) = (okP T (fun t => c t 1) (fun t => c t 3) j p && (decide (j = 0) || decide (c (p % T) 1 = c t 3))) := by
          show (okP T (fun t => c t 1) (fun t => c t 3) j ((p * T + t) / T) && (decide (j = 0) || decide (c ((p * T + t) / T % T) 1 = c ((p * T + t) % T) 3))) = _
          rw [hdm.1, hdm.2]
        have okp : okP T (fun t => c t 1) (fun t => c t 3) j p = true := by
          unfold okJ at hok
          rw [Bool.and_eq_true] at hok
          exact hok.1
        unfold wp_X5_addRowsWith
        have esh : ((nI (cd T 8 (fun t => t) j p) <<< ((3 : Int32) &&& 31)) ||| nI t) = nI (cd T 8 (fun t => t) (j + 1) (p * T + t)) := by
          show _ = nI (cd T 8 (fun t => t) j ((p * T + t) / T) * 8 + (p * T + t) % T)
          rw [hdm.1, hdm.2, pk_shlN _ 3 (by decide) (by omega), show (2 : Nat) ^ 3 = 8 from rfl, nI_or (by omega) (by omega), lorAdd 3 8 rfl (by omega)]
        rw [esh]
        intro n1 e1
        subst e1
        rw [nI_clamp (n := t) (by omega), f11, nI_clamp (n := c t 0) (by omega), hn4]
        refine ⟨vp_in_nI (by omega) (by decide), vp_in_nI (by omega) (by decide), ?_⟩
        intro n4 e4
        -- the call below, with north digit, once the tile is known to fit
        have below : okJ T w c cl (j + 1) (p * T + t) = true → ∀ s8 : Int32, (s8 = 0 ↔ allP T (hasN T c) (j + 1) (p * T + t) = true) → w_X5_addRowsWith_66 (wp_X5_addRows room N) room (fun I3 => ∀ n4 : Int32, n4 = nI t + 1 → K n4 I3) (nI t) (nI j) (nbI T D c dig j p) (nI (cd T D (fun t => dig (c t 2)) j p)) (nI (cd T 8 (fun t => t) (j + 1) (p * T + t))) n4 s8 I1 := by
          intro hok' s8 hs8
          have go : ∀ s0 : Int32, s0 = nbI T D c dig (j + 1) (p * T + t) → w_X5_addRowsWith_85 (wp_X5_addRows room N) room (fun I3 => ∀ n4 : Int32, n4 = nI t + 1 → K n4 I3) (nI t) (nI j) (nI (cd T D (fun t => dig (c t 2)) j p)) (nI (cd T 8 (fun t => t) (j + 1) (p * T + t))) s0 I1 := by
            intro s0 hs0
            unfold w_X5_addRowsWith_85
            rw [nI_clamp (n := t) (by omega), f13, nI_clamp (n := c t 2) (by omega), e71, (hD.2.1 t hz2).2, k11, pk_mul, nI_add, nI_1]
            refine ⟨vp_in_nI (by omega) (by decide), vp_in_nI (by omega) (by decide), ?_⟩
            intro n12 e12
            have e12 : n12 = nI (cd T D (fun t => dig (c t 2)) (j + 1) (p * T + t)) := by
              rw [e12]
              show _ = nI (cd T D (fun t => dig (c t 2)) j ((p * T + t) / T) * D + dig (c ((p * T + t) % T) 2))
              rw [hdm.1, hdm.2]
            subst e12 hs0
            refine p_addRows hT8 hw1 hw4 hroom hr ⟨hT8, e10, by assumption, hc⟩ hD h9 h10 h0 d N (j + 1) (p * T + t) I1 _ (by omega) (by omega) hp' hok' u1 u2 u3 (fun I' y1 y2 y3 => ?_)
            intro n4' e4'
            rw [nI_1] at e4'
            subst e4'
            exact kk hz2 I' ⟨y1, y2, y3⟩
          unfold w_X5_addRowsWith_66
          refine ⟨fun q => go _ ?_, fun q => go _ ?_⟩
          · have hall := hs8.mp q
            have hall2 := hall
            rw [allS, Bool.and_eq_true] at hall2
            unfold nbI
            rw [if_pos hall, if_pos hall2.1, k11, pk_mul, e4, if_pos hall2.2, nI_add]
            show _ = nI (cd T D (fun t => dig (c t 0)) j ((p * T + t) / T) * D + dig (c ((p * T + t) % T) 0))
            rw [hdm.1, hdm.2]
          · unfold nbI
            rw [if_neg (fun z => q (hs8.mpr z))]
        -- does it fit
        have at40 : ∀ s8 : Int32, (s8 = 0 ↔ allP T (hasN T c) (j + 1) (p * T + t) = true) → w_X5_addRowsWith_40 (wp_X5_addRows room N) room (fun I3 => ∀ n4 : Int32, n4 = nI t + 1 → K n4 I3) (nI t) (nI j) (nI (cd T 8 (fun t => t) j p)) (nbI T D c dig j p) (nI (cd T D (fun t => dig (c t 2)) j p)) (nI (cd T 8 (fun t => t) (j + 1) (p * T + t))) n4 s8 I1 := by
          intro s8 hs8
          unfold w_X5_addRowsWith_40
          -- what fitsInRow tells: fits, then the rest
          have tail : ∀ b : Bool, (b = true ↔ okP T (fun t => c t 1) (fun t => c t 3) (j + 1) (p * T + t) = true ∧ (cl = true → j + 1 = w → c t 1 = c (fdg T (w - 1) (p * T + t)) 3)) → ((if b then (1 : Int32) else 0) = 0 → ∀ n4 : Int32, n4 = nI t + 1 → K n4 I1) ∧ (¬ (if b then (1 : Int32) else 0) = 0 → ((I1 70 10) = 0 → w_X5_addRowsWith_66 (wp_X5_addRows room N) room (fun I3 => ∀ n4 : Int32, n4 = nI t + 1 → K n4 I3) (nI t) (nI j) (nbI T D c dig j p) (nI (cd T D (fun t => dig (c t 2)) j p)) (nI (cd T 8 (fun t => t) (j + 1) (p * T + t))) n4 s8 I1) ∧ (¬ (I1 70 10) = 0 → (¬ s8 = 0 → ∀ n4 : Int32, n4 = nI t + 1 → K n4 I1) ∧ (s8 = 0 → w_X5_addRowsWith_66 (wp_X5_addRows room N) room (fun I3 => ∀ n4 : Int32, n4 = nI t + 1 → K n4 I3) (nI t) (nI j) (nbI T D c dig j p) (nI (cd T D (fun t => dig (c t 2)) j p)) (nI (cd T 8 (fun t => t) (j + 1) (p * T + t))) n4 s8 I1))) := by
            intro b hb
            have okiff : okJ T w c cl (j + 1) (p * T + t) = true ↔ b = true ∧ (cl = true → allP T (hasN T c) (j + 1) (p * T + t) = true) := by
              unfold okJ
              rw [Bool.and_eq_true, hb, hdm.2]
              cases cl with
              | false => simp
              | true =>
                rw [Bool.not_true, Bool.false_or, Bool.and_eq_true, Bool.or_eq_true, Bool.not_eq_true', decide_eq_false_iff_not, decide_eq_true_eq]
                constructor
                · rintro ⟨y1, y2, y3⟩
                  exact ⟨⟨y1, fun _ e => y3.resolve_left (fun z => z e)⟩, fun _ => y2⟩
                · rintro ⟨⟨y1, y2⟩, y3⟩
                  refine ⟨y1, y3 rfl, ?_⟩
                  by_cases e : j + 1 = w
                  · exact Or.inr (y2 rfl e)
                  · exact Or.inl e
            have no : ¬ okJ T w c cl (j + 1) (p * T + t) = true → okJ T w c cl (j + 1) (p * T + t) = false := fun z => by
              cases e : okJ T w c cl (j + 1) (p * T + t) with
              | false => rfl
              | true => exact absurd e z
            cases hbb : b with
            | false =>
              refine ⟨fun _ => skip (no (fun z => ?_)), fun z => absurd rfl z⟩
              have := (okiff.mp z).1
              rw [hbb] at this
              exact absurd this (by decide)
            | true =>
              refine ⟨fun z => absurd z one_ne, fun _ => ⟨fun q => ?_, fun q => ⟨fun q2 => skip (no (fun z => ?_)), fun q2 => ?_⟩⟩⟩
              · exact below (okiff.mpr ⟨hbb, fun z => by rw [k10.mp q] at z; exact absurd z (by decide)⟩) s8 hs8
              · have hcl : cl = true := by
                  cases e : cl with
                  | true => rfl
                  | false => exact absurd (k10.mpr e) q
                exact q2 (hs8.mpr ((okiff.mp z).2 hcl))
              · exact below (okiff.mpr ⟨hbb, fun _ => hs8.mp q2⟩) s8 hs8
          -- the ring's end
          have at30 : (j = 0 ∨ c (p % T) 1 = c t 3) → w_X5_fitsInRow_30 room (fun r6 => (r6 = 0 → ∀ n4 : Int32, n4 = nI t + 1 → K n4 I1) ∧ (¬ r6 = 0 → ((I1 70 10) = 0 → w_X5_addRowsWith_66 (wp_X5_addRows room N) room (fun I3 => ∀ n4 : Int32, n4 = nI t + 1 → K n4 I3) (nI t) (nI j) (nbI T D c dig j p) (nI (cd T D (fun t => dig (c t 2)) j p)) (nI (cd T 8 (fun t => t) (j + 1) (p * T + t))) n4 s8 I1) ∧ (¬ (I1 70 10) = 0 → (¬ s8 = 0 → ∀ n4 : Int32, n4 = nI t + 1 → K n4 I1) ∧ (s8 = 0 → w_X5_addRowsWith_66 (wp_X5_addRows room N) room (fun I3 => ∀ n4 : Int32, n4 = nI t + 1 → K n4 I3) (nI t) (nI j) (nbI T D c dig j p) (nI (cd T D (fun t => dig (c t 2)) j p)) (nI (cd T 8 (fun t => t) (j + 1) (p * T + t))) n4 s8 I1)))) (nI t) (nI j) (nI (cd T 8 (fun t => t) (j + 1) (p * T + t))) I1 := by
            intro hadj
            have ok1 : okP T (fun t => c t 1) (fun t => c t 3) (j + 1) (p * T + t) = true := by
              rw [okS, okp, Bool.true_and, Bool.or_eq_true, decide_eq_true_eq, decide_eq_true_eq]
              exact hadj
            unfold w_X5_fitsInRow_30
            rw [k9]
            refine ⟨fun q => ?_, fun q => ?_⟩
            · have := tail true ⟨fun _ => ⟨ok1, fun z => by rw [k10.mp q] at z; exact absurd z (by decide)⟩, fun _ => rfl⟩
              exact this
            · refine pk_le w (j + 1) (fun hz3 => ?_) (fun hz3 => ?_) rfl (nI_1 j)
              · have hjw : j + 1 = w := by omega
                have cdw : cd T 8 (fun t => t) (j + 1) (p * T + t) < 8 ^ (j + 1) := cd_lt hT0 (fun t ht => by omega) (j + 1) (p * T + t)
                have h8j1 := pw8 (j + 1) (by omega)
                have efd : nI (cd T 8 (fun t => t) (j + 1) (p * T + t)) >>> (((3 : Int32) * (nI w - (1 : Int32))) &&& 31) &&& (7 : Int32) = nI (fdg T (w - 1) (p * T + t)) := by
                  rw [i_1, pk_sub hw1, i_3, pk_mul, nI_shr (by omega) (by omega), show (7 : Int32) = nI 7 from rfl, nI_and (by have := Nat.div_le_self (cd T 8 (fun t => t) (j + 1) (p * T + t)) (2 ^ (3 * (w - 1))); omega) (by decide), show (7 : Nat) = 2 ^ 3 - 1 from rfl, Nat.and_two_pow_sub_one_eq_mod, Nat.pow_mul, show (2 : Nat) ^ 3 = 8 from rfl, ← hjw, Nat.add_sub_cancel, cd_fst hT0 hT8 j (p * T + t)]
                have hfl : fdg T (w - 1) (p * T + t) < T := by
                  have gen : ∀ a b, fdg T a b < T := fun a => by
                    induction a with
                    | zero => intro b; exact Nat.mod_lt _ hT0
                    | succ a ih => intro b; exact ih _
                  exact gen _ _
                rw [efd]
                intro n4' e4'
                subst e4'
                rw [nI_clamp (n := t) (by omega), nI_clamp (n := fdg T (w - 1) (p * T + t)) (by omega), f12 t hz2, f14 _ hfl]
                have b1 := (hc t hz2 1 (by decide)).1
                have b2 := (hc _ hfl 3 (by decide)).1
                refine ⟨vp_in_nI (by omega) (by decide), vp_in_nI (by omega) (by decide), fun q2 => ?_, fun q2 => ?_⟩
                · have hcl : cl = true := by
                    cases e : cl with
                    | true => rfl
                    | false => exact absurd (k10.mpr e) q
                  have := tail false ⟨fun z => absurd z (by decide), fun z => absurd (by rw [z.2 hcl hjw]) q2⟩
                  exact this
                · have := tail true ⟨fun _ => ⟨ok1, fun _ _ => (nI_eq (by omega) (by omega)).mp q2⟩, fun _ => rfl⟩
                  exact this
              · have := tail true ⟨fun _ => ⟨ok1, fun _ e => by omega⟩, fun _ => rfl⟩
                exact this
          unfold wp_X5_fitsInRow
          refine pk_le j 0 (fun hz3 => at30 (Or.inl (by omega))) (fun hz3 => ?_) rfl rfl
          have hlast : cd T 8 (fun t => t) j p % 8 = p % T := by
            obtain ⟨j', rfl⟩ : ∃ j', j = j' + 1 := ⟨j - 1, by omega⟩
            show (cd T 8 (fun t => t) j' (p / T) * 8 + p % T) % 8 = p % T
            have := Nat.mod_lt p hT0
            omega
          have hpT := Nat.mod_lt p hT0
          rw [show (7 : Int32) = nI 7 from rfl, nI_and (by omega) (by decide), show (7 : Nat) = 2 ^ 3 - 1 from rfl, Nat.and_two_pow_sub_one_eq_mod, show (2 : Nat) ^ 3 = 8 from rfl, hlast, nI_clamp (n := p % T) (by omega), nI_clamp (n := t) (by omega), f12 _ hpT, f14 t hz2]
          have b1 := (hc _ hpT 1 (by decide)).1
          have b2 := (hc t hz2 3 (by decide)).1
          refine ⟨vp_in_nI (by omega) (by decide), vp_in_nI (by omega) (by decide), fun q => at30 (Or.inr ((nI_eq (by omega) (by omega)).mp q)), fun q => ?_⟩
          have := tail false ⟨fun z => absurd z (by decide), fun z => by
            have y := z.1
            rw [okS, Bool.and_eq_true, Bool.or_eq_true, decide_eq_true_eq, decide_eq_true_eq] at y
            rcases y.2 with y | y
            · omega
            · exact absurd (by rw [y]) q⟩
          exact this
        -- underNothing
        have nbm : nbI T D c dig j p = -1 ↔ ¬ allP T (hasN T c) j p = true := by
          unfold nbI
          constructor
          · intro e z
            rw [if_pos z] at e
            have hlt : cd T D (fun t => dig (c t 0)) j p < 4097 ∨ True := Or.inr trivial
            have hle : cd T D (fun t => dig (c t 0)) j p < 2147483648 := by
              have : ∀ (i q : Nat), allP T (hasN T c) i q = true → cd T D (fun t => dig (c t 0)) i q < D ^ i := by
                intro i
                induction i with
                | zero => intro q _; exact Nat.one_pos
                | succ i ih =>
                  intro q hq
                  have hq : (allP T (hasN T c) i (q / T) && hasN T c (q % T)) = true := hq
                  rw [Bool.and_eq_true] at hq
                  have i1 := ih (q / T) hq.1
                  have i2 : dig (c (q % T) 0) < D := by
                    obtain ⟨t', h1, h2⟩ := of_decide_eq_true hq.2
                    have := (hD.2.1 t' h1).1
                    rw [h2] at this
                    exact this
                  show cd T D (fun t => dig (c t 0)) i (q / T) * D + dig (c (q % T) 0) < D ^ (i + 1)
                  have i3 : (cd T D (fun t => dig (c t 0)) i (q / T) + 1) * D ≤ D ^ i * D := Nat.mul_le_mul_right D i1
                  rw [Nat.add_mul, Nat.one_mul] at i3
                  rw [Nat.pow_succ]; omega
              have := this j p z
              omega
            exact nI_m1 hle e
          · intro z; rw [if_neg z]
        have n4m : n4 = -1 ↔ ¬ hasN T c t = true := by
          rw [e4]
          constructor
          · intro e z
            rw [if_pos z] at e
            have := hdN0 z
            exact nI_m1 (by omega) e
          · intro z; rw [if_neg z]
        refine ⟨fun q => ?_, fun q => ⟨fun q2 => ?_, fun q2 => ?_⟩⟩
        · unfold w_X5_addRowsWith_35
          refine at40 1 ⟨fun z => absurd z one_ne, fun z => ?_⟩
          rw [allS, Bool.and_eq_true] at z
          exact absurd z.1 (nbm.mp q)
        · refine at40 0 ⟨fun _ => ?_, fun _ => rfl⟩
          rw [allS, Bool.and_eq_true]
          exact ⟨Classical.byContradiction fun z => q (nbm.mpr z), Classical.byContradiction fun z => q2 (n4m.mpr z)⟩
        · unfold w_X5_addRowsWith_35
          refine at40 1 ⟨fun z => absurd z one_ne, fun z => ?_⟩
          rw [allS, Bool.and_eq_true] at z
          exact absurd z.2 (n4m.mp q2)
    · obtain rfl : d = 0 := by omega
      obtain rfl : j = w := by omega
      rw [Nat.pow_zero, Nat.mul_one] at hRW hk
      obtain ⟨r1, r2⟩ := hRW
      have hcp := cN_le (okJ T j c cl j) p
      have hTr : p < room := Nat.lt_of_lt_of_le hp hroom
      unfold wp_X5_keepRow
      rw [r1]
      refine pk_le room (cN (okJ T j c cl j) p) (fun z => by omega) (fun _ => ?_) (by rw [g2 0 (by decide)]; exact h0) rfl
      refine ⟨vp_in_nI (by omega) hr, ?_⟩
      rw [nI_clamp (by omega)]
      intro I3 e3
      have x3 : I3 70 13 = nI (cN (okJ T j c cl j) p) := by rw [e3, gup_o (by decide)]; exact r1
      rw [x3, nI_clamp (by omega)]
      refine ⟨vp_in_nI (by omega) hr, ?_⟩
      intro I5 e5
      have x5 : I5 70 13 = nI (cN (okJ T j c cl j) p) := by rw [e5, gup_o (by decide)]; exact x3
      rw [x5, nI_clamp (by omega)]
      refine ⟨vp_in_nI (by omega) hr, ?_⟩
      intro I7 e7
      have x7 : I7 70 13 = nI (cN (okJ T j c cl j) p) := by rw [e7, gup_o (by decide)]; exact x5
      rw [x7, nI_1]
      intro I8 e8
      have ec : cN (okJ T j c cl j) (p + 1) = cN (okJ T j c cl j) p + 1 := by
        show cN (okJ T j c cl j) p + (if okJ T j c cl j p = true then 1 else 0) = _
        rw [if_pos hok]
      refine hk I8 (by rw [e8, e7, e5, e3]; exact gSm_u (gSm_u (gSm_u (gSm_u g1 (by decide)) (by decide)) (by decide)) (by decide)) (fun k hk => by rw [e8, gup_ne hk, e7, gup_o (by decide), e5, gup_o (by decide), e3, gup_o (by decide)]; exact g2 k hk) ⟨by rw [e8, gup_at, ec], fun x hx hox => ?_⟩
      have y72 : I8 72 = gup I 72 (cN (okJ T j c cl j) p) (nI (cd T 8 (fun t => t) j p)) 72 := by rw [e8, gup_o (by decide), e7, gup_o (by decide), e5, gup_o (by decide), e3]
      have y73 : I8 73 = gup I3 73 (cN (okJ T j c cl j) p) (nbI T D c dig j p) 73 := by rw [e8, gup_o (by decide), e7, gup_o (by decide), e5]
      have y74 : I8 74 = gup I5 74 (cN (okJ T j c cl j) p) (nI (cd T D (fun t => dig (c t 2)) j p)) 74 := by rw [e8, gup_o (by decide), e7]
      rw [y72, y73, y74]
      by_cases e : x = p
      · subst e
        rw [gup_at, gup_at, gup_at]
        exact ⟨rfl, rfl, rfl⟩
      · have hne : cN (okJ T j c cl j) x ≠ cN (okJ T j c cl j) p := fun z => e (cN_inj hox hok z)
        have i3 : I3 73 = I 73 := by rw [e3, gup_o (by decide)]
        have i5 : I5 74 = I 74 := by rw [e5, gup_o (by decide), e3, gup_o (by decide)]
        rw [gup_ne hne, gup_ne hne, gup_ne hne, i3, i5]
        exact r2 x (by omega) hox
end
