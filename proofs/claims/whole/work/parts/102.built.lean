/-! the class: build; shelves told by the rows' numbers -/
noncomputable def xr (ok : Nat → Bool) (r : Nat) : Nat := @dite Nat (∃ x, ok x = true ∧ cN ok x = r) (Classical.propDecidable _) (fun h => Classical.choose h) (fun _ => 0)
theorem xr_at {ok : Nat → Bool} {x : Nat} (h : ok x = true) : xr ok (cN ok x) = x := by
  have hex : ∃ y, ok y = true ∧ cN ok y = cN ok x := ⟨x, h, rfl⟩
  unfold xr
  rw [dif_pos hex]
  have := Classical.choose_spec hex
  exact cN_inj this.1 h this.2
theorem cN_xr {ok : Nat → Bool} (Q : Nat → Bool) : ∀ x, cN (fun r => Q (xr ok r)) (cN ok x) = cN (fun y => ok y && Q y) x
  | 0 => rfl
  | x + 1 => by
    show cN (fun r => Q (xr ok r)) (cN ok x + (if ok x = true then 1 else 0)) = cN (fun y => ok y && Q y) x + (if (ok x && Q x) = true then 1 else 0)
    cases h : ok x with
    | false => simp; exact cN_xr Q x
    | true =>
      show cN (fun r => Q (xr ok r)) (cN ok x) + (if Q (xr ok (cN ok x)) = true then 1 else 0) = _
      rw [xr_at h, cN_xr Q x]
      simp
/-- shelf b, by the rows' numbers: ok rows with cd, their code -/
def pX (ok cnd : Nat → Bool) (cf : Nat → Nat) (c x : Nat) : Bool := ok x && (cnd x && decide (cf x = c))
def bX (X : Nat) (ok cnd : Nat → Bool) (cf : Nat → Nat) (c : Nat) : Nat := cN (fun x => ok x && (cnd x && decide (cf x < c))) X
def Shx (b X : Nat) (ok cnd : Nat → Bool) (cf : Nat → Nat) (C : Nat) (I : gI) : Prop := (∀ c, c ≤ C → I (76 + 3 * b) c = nI (bX X ok cnd cf c)) ∧ ∀ x, x < X → ok x = true → cnd x = true → I (77 + 3 * b) (bX X ok cnd cf (cf x) + cN (pX ok cnd cf (cf x)) x) = nI (cN ok x)
theorem Shx_of {b X : Nat} {ok cnd : Nat → Bool} {cf : Nat → Nat} {C : Nat} {I : gI} (h : Shl b (fun r => cnd (xr ok r)) (fun r => cf (xr ok r)) (cN ok X) C I) : Shx b X ok cnd cf C I := by
  obtain ⟨h1, h2⟩ := h
  have eb : ∀ c, bsd (fun r => cnd (xr ok r)) (fun r => cf (xr ok r)) (cN ok X) c = bX X ok cnd cf c := fun c => cN_xr (fun y => cnd y && decide (cf y < c)) X
  refine ⟨fun c hc => by rw [h1 c hc, eb], fun x hx hok hcn => ?_⟩
  have e := h2 (cN ok x) (cN_ms hx hok) (by show cnd (xr ok (cN ok x)) = true; rw [xr_at hok]; exact hcn)
  have ec : (fun r => cf (xr ok r)) (cN ok x) = cf x := by show cf (xr ok (cN ok x)) = cf x; rw [xr_at hok]
  unfold psd at e
  rw [eb, ec] at e
  have e2 : cN (pcd (fun r => cnd (xr ok r)) (fun r => cf (xr ok r)) (cf x)) (cN ok x) = cN (pX ok cnd cf (cf x)) x := cN_xr (fun y => cnd y && decide (cf y = cf x)) x
  rw [e2] at e
  exact e
theorem bX_0 {X : Nat} {ok cnd : Nat → Bool} {cf : Nat → Nat} : bX X ok cnd cf 0 = 0 := cN_zero (fun r _ => by rw [decide_eq_false (Nat.not_lt_zero _), Bool.and_false, Bool.and_false])
theorem bX_s {X : Nat} {ok cnd : Nat → Bool} {cf : Nat → Nat} {c : Nat} : bX X ok cnd cf (c + 1) = bX X ok cnd cf c + cN (pX ok cnd cf c) X := by
  refine cN_split (fun r _ => ?_) (fun r _ => ?_)
  · unfold pX
    cases ok r <;> cases cnd r <;> simp only [Bool.false_and, Bool.true_and, Bool.or_self]
    rw [Bool.eq_iff_iff, Bool.or_eq_true, decide_eq_true_eq, decide_eq_true_eq, decide_eq_true_eq]
    omega
  · unfold pX
    cases ok r <;> cases cnd r <;> simp only [Bool.false_and, Bool.true_and, Bool.and_false]
    by_cases e : cf r = c
    · rw [decide_eq_false (show ¬ cf r < c by omega), Bool.false_and]
    · rw [decide_eq_false e, Bool.and_false]
theorem bX_le {X : Nat} {ok cnd : Nat → Bool} {cf : Nat → Nat} {c : Nat} : bX X ok cnd cf c ≤ cN ok X := cN_mono (fun r _ hr => by
  rw [Bool.and_eq_true] at hr; exact hr.1)
theorem pX_t {ok cnd : Nat → Bool} {cf : Nat → Nat} {c x : Nat} : pX ok cnd cf c x = true ↔ ok x = true ∧ cnd x = true ∧ cf x = c := by
  unfold pX; rw [Bool.and_eq_true, Bool.and_eq_true, decide_eq_true_eq]
/-- the step along a shelf: place bX c + cN (pX c) b holds the next row -/
theorem Shx_nx {b X : Nat} {ok cnd : Nat → Bool} {cf : Nat → Nat} {C c : Nat} {I : gI} (h : Shx b X ok cnd cf C I) {y : Nat} (hlt : cN (pX ok cnd cf c) y < cN (pX ok cnd cf c) X) : ∃ x, y ≤ x ∧ x < X ∧ pX ok cnd cf c x = true ∧ cN (pX ok cnd cf c) x = cN (pX ok cnd cf c) y ∧ I (77 + 3 * b) (bX X ok cnd cf c + cN (pX ok cnd cf c) y) = nI (cN ok x) ∧ cN ok x < cN ok X := by
  obtain ⟨x, h1, h2, h3⟩ := cN_nth hlt
  obtain ⟨q1, q2, q3⟩ := pX_t.mp h2
  refine ⟨x, ?_, h1, h2, h3, ?_, cN_ms h1 q1⟩
  · rcases Nat.lt_or_ge x y with z | z
    · have := cN_ms z h2; omega
    · exact z
  · have := h.2 x h1 q1 q2
    rw [q3, h3] at this
    exact this
theorem cN_su {p : Nat → Bool} {x : Nat} (h : p x = true) : cN p (x + 1) = cN p x + 1 := by
  show cN p x + (if p x = true then 1 else 0) = _
  rw [if_pos h]
theorem sN_su {p : Nat → Bool} {f : Nat → Nat} {x : Nat} (h : p x = true) : sN p f (x + 1) = sN p f x + f x := by
  show sN p f x + (if p x then f x else 0) = _
  rw [if_pos h]
section
variable {room T w D : Nat} {c : Nat → Nat → Nat} {cl : Bool} {dig : Nat → Nat}
theorem cdN_lt (hT0 : 0 < T) (hD : ∀ t, t < T → dig (c t 2) < D) : ∀ (i q : Nat), allP T (hasN T c) i q = true → cd T D (fun t => dig (c t 0)) i q < D ^ i
  | 0, _, _ => Nat.one_pos
  | i + 1, q, hq => by
    have hq : (allP T (hasN T c) i (q / T) && hasN T c (q % T)) = true := hq
    rw [Bool.and_eq_true] at hq
    have i1 := cdN_lt hT0 hD i (q / T) hq.1
    have i2 : dig (c (q % T) 0) < D := by
      obtain ⟨t', h1, h2⟩ := of_decide_eq_true hq.2
      have := hD t' h1
      rw [h2] at this
      exact this
    show cd T D (fun t => dig (c t 0)) i (q / T) * D + dig (c (q % T) 0) < D ^ (i + 1)
    have i3 : (cd T D (fun t => dig (c t 0)) i (q / T) + 1) * D ≤ D ^ i * D := Nat.mul_le_mul_right D i1
    rw [Nat.add_mul, Nat.one_mul] at i3
    rw [Nat.pow_succ]; omega
/-- what stands in the RowGraph after build -/
def Bld (room T w D : Nat) (c : Nat → Nat → Nat) (cl : Bool) (dig : Nat → Nat) (I : gI) : Prop := (D ≤ T ∧ (∀ t, t < T → dig (c t 2) < D) ∧ ∀ t t', t < T → t' < T → dig (c t 2) = dig (c t' 2) → c t 2 = c t' 2) ∧ RWs T w D c cl dig (T ^ w) I ∧ I 70 0 = nI room ∧ I 70 9 = nI w ∧ (I 70 10 = 0 ↔ cl = false) ∧ I 70 12 = nI (D ^ w) ∧ Shx 0 (T ^ w) (okJ T w c cl w) (allP T (hasN T c) w) (cd T D (fun t => dig (c t 0)) w) (D ^ w) I ∧ Shx 1 (T ^ w) (okJ T w c cl w) (fun _ => true) (cd T D (fun t => dig (c t 2)) w) (D ^ w) I
theorem p_build (hT8 : T ≤ 8) (hw1 : 1 ≤ w) (hw4 : w ≤ 4) (hroom : T ^ w ≤ room) (hr : room < 2147483647) {I : gI} (hR : RelT T c I) (h0 : I 70 0 = nI room) {a2 : Int32} (ha : a2 = 0 ∨ a2 = 1) (hcl : a2 = 0 ↔ cl = false) {Po : gI → Prop} (hk : ∀ I' dig D, gSm [70, 71, 72, 73, 74, 76, 77, 79, 80] I I' → Bld room T w D c cl dig I' → Po I') : wp_X5_build room (nI w) a2 I Po := by
  have hTw : T ^ w ≤ 8 ^ w := Nat.pow_le_pow_left hT8 w
  have h8w := pw8 w hw4
  unfold wp_X5_build
  intro I1 e1
  refine ⟨ha, ?_⟩
  intro I3 e3
  have s3 : gSm [70] I I3 := by rw [e3, e1]; exact gSm_u (gSm_u (gSm_r I) (by decide)) (by decide)
  have rT : ∀ I' : gI, gSm [70, 71, 72, 73, 74, 76, 77, 79, 80] I I' → RelT T c I' := fun I' g => by
    obtain ⟨q1, q2, q3, q4⟩ := hR
    refine ⟨q1, by rw [g 10 (by decide)]; exact q2, by rw [g 200 (by decide)]; exact q3, fun j hj d hd => ?_⟩
    rw [g 201 (by decide), g (11 + d) (by simp only [List.mem_cons, List.not_mem_nil, or_false]; omega)]
    exact q4 j hj d hd
  refine p_giveDigits (rT I3 (gSm_w s3 (by decide))) (fun I4 dig D g1 g2 hD => ?_)
  have k9 : I4 70 9 = nI w := by rw [g2 9 (by decide), e3, gup_ne (by decide), e1, gup_at]
  have k10 : I4 70 10 = a2 := by rw [g2 10 (by decide), e3, gup_at]
  have k0 : I4 70 0 = nI room := by rw [g2 0 (by decide), e3, gup_ne (by decide), e1, gup_ne (by decide)]; exact h0
  rw [hD.2.2.2.2, k9]
  refine p_power (by omega) ?_
  intro I6 e6 I7 e7
  have o7 : ∀ j, j ≠ 12 → j ≠ 13 → I7 70 j = I4 70 j := fun j h12 h13 => by rw [e7, gup_ne h13, e6, gup_ne h12]
  have s7 : gSm [70, 71] I3 I7 := by rw [e7, e6]; exact gSm_u (gSm_u g1 (by decide)) (by decide)
  have s7I : gSm [70, 71, 72, 73, 74, 76, 77, 79, 80] I I7 := gSm_t (gSm_w s3 (by decide)) (gSm_w s7 (by decide))
  have x71 : I7 71 = I4 71 := by rw [e7, gup_o (by decide), e6, gup_o (by decide)]
  have hD7 : DG T c dig D I7 := ⟨hD.1, fun t ht => by rw [x71]; exact hD.2.1 t ht, fun a h1 h2 => by rw [x71]; exact hD.2.2.1 a h1 h2, hD.2.2.2.1, by rw [o7 11 (by decide) (by decide)]; exact hD.2.2.2.2⟩
  have hDT := hD.1
  have hDw : D ^ w ≤ T ^ w := Nat.pow_le_pow_left hD.1 w
  refine p_addRows (cl := cl) (dig := dig) hT8 hw1 hw4 hroom (by omega) (rT I7 s7I) hD7 (by rw [o7 9 (by decide) (by decide)]; exact k9) (by rw [o7 10 (by decide) (by decide), k10]; exact hcl) (by rw [o7 0 (by decide) (by decide)]; exact k0) w 6 0 0 I7 _ (by omega) (by omega) (by rw [Nat.pow_zero]; exact Nat.one_pos) ?_ (gSm_r I7) (fun _ _ => rfl) ⟨by rw [Nat.zero_mul, e7, gup_at]; rfl, fun x hx => by rw [Nat.zero_mul] at hx; omega⟩ (fun I8 y1 y2 y3 => ?_)
  · unfold okJ
    show (true && (!cl || (true && (!decide (0 = w) || _)))) = true
    rw [decide_eq_false (by omega)]
    simp
  rw [Nat.zero_add, Nat.one_mul] at y3
  have s8I : gSm [70, 71, 72, 73, 74, 76, 77, 79, 80] I I8 := gSm_t s7I (gSm_w y1 (by decide))
  have c12 : I8 70 12 = nI (D ^ w) := by rw [y2 12 (by decide), e7, gup_ne (by decide), e6, gup_at]
  have hm := cN_le (okJ T w c cl w) (T ^ w)
  have rowx : ∀ r, r < cN (okJ T w c cl w) (T ^ w) → ∃ x, x < T ^ w ∧ okJ T w c cl w x = true ∧ cN (okJ T w c cl w) x = r ∧ xr (okJ T w c cl w) r = x := fun r hr => by
    obtain ⟨x, h1, h2, h3⟩ := cN_nth hr
    exact ⟨x, h1, h2, h3, by rw [← h3]; exact xr_at h2⟩
  have hT0 : ∀ x, x < T ^ w → 0 < T := fun x hx => by
    rcases Nat.eq_zero_or_pos T with z | z
    · subst z; rw [Nat.zero_pow (by omega)] at hx; omega
    · exact z
  rw [y3.1, c12]
  refine p_sort (has := fun r => allP T (hasN T c) w (xr (okJ T w c cl w) r)) (cf := fun r => cd T D (fun t => dig (c t 0)) w (xr (okJ T w c cl w) r)) (by decide) (by omega) (by omega) (by omega) (fun r hr => ?_) (fun I9 z1 z2 => ?_)
  · obtain ⟨x, x1, x2, x3, x4⟩ := rowx r hr
    have f := (y3.2 x x1 x2).2.1
    rw [x3] at f
    show (allP T (hasN T c) w (xr (okJ T w c cl w) r) = true → I8 73 r = _ ∧ _) ∧ (allP T (hasN T c) w (xr (okJ T w c cl w) r) = false → I8 73 r = -1)
    rw [x4, f]
    unfold nbI
    refine ⟨fun q => ⟨by rw [if_pos q], ?_⟩, fun q => by rw [if_neg (by rw [q]; decide)]⟩
    exact cdN_lt (hT0 x x1) (fun t ht => (hD.2.1 t ht).1) w x q
  have q9 : ∀ k, k ≠ 76 → k ≠ 77 → I9 k = I8 k := fun k h1 h2 => z1 k (by simp only [List.mem_cons, List.not_mem_nil, or_false]; omega)
  rw [q9 70 (by decide) (by decide), y3.1, c12]
  refine p_sort (has := fun _ => true) (cf := fun r => cd T D (fun t => dig (c t 2)) w (xr (okJ T w c cl w) r)) (by decide) (by omega) (by omega) (by omega) (fun r hr => ?_) (fun I10 z3 z4 => ?_)
  · obtain ⟨x, x1, x2, x3, x4⟩ := rowx r hr
    have f := (y3.2 x x1 x2).2.2
    rw [x3] at f
    show (true = true → I9 74 r = nI (cd T D (fun t => dig (c t 2)) w (xr (okJ T w c cl w) r)) ∧ cd T D (fun t => dig (c t 2)) w (xr (okJ T w c cl w) r) < D ^ w) ∧ _
    rw [q9 74 (by decide) (by decide), x4, f]
    exact ⟨fun _ => ⟨rfl, cd_lt (hT0 x x1) (fun t ht => (hD.2.1 t ht).1) w x⟩, fun z => absurd z (by decide)⟩
  have q10 : ∀ k, k ≠ 79 → k ≠ 80 → I10 k = I9 k := fun k h1 h2 => z3 k (by simp only [List.mem_cons, List.not_mem_nil, or_false]; omega)
  have e70 : I10 70 = I8 70 := by rw [q10 70 (by decide) (by decide), q9 70 (by decide) (by decide)]
  refine hk I10 dig D (fun k hk => ?_) ⟨⟨hD.1, fun t ht => (hD.2.1 t ht).1, hD.2.2.2.1⟩, ⟨by rw [e70]; exact y3.1, fun x hx hox => ?_⟩, by rw [e70, y2 0 (by decide), o7 0 (by decide) (by decide)]; exact k0, by rw [e70, y2 9 (by decide), o7 9 (by decide) (by decide)]; exact k9, by rw [e70, y2 10 (by decide), o7 10 (by decide) (by decide), k10]; exact hcl, by rw [e70]; exact c12, ?_, Shx_of z4⟩
  · have h1 : k ≠ 76 := fun e => hk (by rw [e]; decide)
    have h2 : k ≠ 77 := fun e => hk (by rw [e]; decide)
    have h3 : k ≠ 79 := fun e => hk (by rw [e]; decide)
    have h4 : k ≠ 80 := fun e => hk (by rw [e]; decide)
    rw [q10 k h3 h4, q9 k h1 h2]
    exact s8I k hk
  · rw [q10 72 (by decide) (by decide), q9 72 (by decide) (by decide), q10 73 (by decide) (by decide), q9 73 (by decide) (by decide), q10 74 (by decide) (by decide), q9 74 (by decide) (by decide)]
    exact y3.2 x hx hox
  · have := Shx_of z2
    refine ⟨fun c' hc' => by rw [q10 76 (by decide) (by decide)]; exact this.1 c' hc', fun x h1 h2 h3 => by rw [q10 77 (by decide) (by decide)]; exact this.2 x h1 h2 h3⟩
end
