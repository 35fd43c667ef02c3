/-! masks as natural numbers; areas; prepare -/
theorem btN {a : Nat} (h : a < 2147483648) (i : Nat) : bt (nI a) i = a.testBit i := by rw [← bt_u32, u_nI h]
theorem nI_or {a b : Nat} (ha : a < 2 ^ 31) (hb : b < 2 ^ 31) : nI a ||| nI b = nI (a ||| b) := by
  have hab := or_lt ha hb
  exact b_ext (fun i _ => by rw [b_or, btN ha, btN hb, btN hab, Nat.testBit_or])
theorem nI_and {a b : Nat} (ha : a < 2 ^ 31) (hb : b < 2 ^ 31) : nI a &&& nI b = nI (a &&& b) := by
  have hab : a &&& b < 2 ^ 31 := Nat.and_lt_two_pow a hb
  exact b_ext (fun i _ => by rw [b_and, btN ha, btN hb, btN hab, Nat.testBit_and])
theorem nI_and0 {a b : Nat} (ha : a < 2 ^ 31) (hb : b < 2 ^ 31) : nI a &&& nI b = 0 ↔ a &&& b = 0 := by
  have hab : a &&& b < 2 ^ 31 := Nat.and_lt_two_pow a hb
  rw [nI_and ha hb]
  exact nI_eq (b := 0) hab (by decide)
theorem nI_pow : ∀ p, p < 31 → ((1 : Int32) <<< (nI p &&& 31)) = nI (2 ^ p) := by decide +kernel
theorem b_notN {m : Nat} (h : m < 2147483648) {i : Nat} (hi : i < 32) : bt (nI m ^^^ (-1)) i = !m.testBit i := by
  rw [b_xor, btN h, b_m1 i hi, Bool.xor_true]
theorem nI_bit {u p : Nat} (hu : u < 2147483648) (hp : p < 32) : ((nI u >>> (nI p &&& 31)) &&& 1 = 0) ↔ u.testBit p = false := by rw [bit_test _ hp, btN hu]
theorem nI_bit1 {u p : Nat} (hu : u < 2147483648) (hp : p < 32) : ((nI u >>> (nI p &&& 31)) &&& 1 = 1) ↔ u.testBit p = true := by rw [bit_test1 _ hp, btN hu]
/-- how many: through a map that takes no two to one -/
theorem cN_map {p q : Nat → Bool} {f : Nat → Nat} {m : Nat} : ∀ {n : Nat}, (∀ k, k < n → p k = true → f k < m) → (∀ k k', k < n → k' < n → p k = true → p k' = true → f k = f k' → k = k') → (∀ i, i < m → (q i = true ↔ ∃ k, k < n ∧ p k = true ∧ i = f k)) → cN q m = cN p n
  | 0, _, _, h => cN_zero (fun i hi => by
      cases e : q i with
      | false => rfl
      | true => obtain ⟨k, hk, _⟩ := (h i hi).mp e; omega)
  | n + 1, h1, h2, h3 => by
    show cN q m = cN p n + (if p n = true then 1 else 0)
    by_cases c : p n = true
    · have ih := cN_map (p := p) (q := fun i => q i && !decide (i = f n)) (f := f) (m := m) (n := n) (fun k hk => h1 k (by omega)) (fun k k' hk hk' => h2 k k' (by omega) (by omega)) (fun i hi => by
        rw [Bool.and_eq_true, h3 i hi, Bool.not_eq_true', decide_eq_false_iff_not]
        constructor
        · rintro ⟨⟨k, hk, hp, e⟩, hne⟩
          refine ⟨k, ?_, hp, e⟩
          rcases Nat.lt_or_ge k n with z | z
          · exact z
          · exact absurd (by rw [e, show k = n by omega]) hne
        · rintro ⟨k, hk, hp, e⟩
          refine ⟨⟨k, by omega, hp, e⟩, fun e2 => ?_⟩
          have := h2 k n (by omega) (by omega) hp c (by rw [← e, e2])
          omega)
      have hs := cN_set (p := fun i => q i && !decide (i = f n)) (q := q) (c := f n) (by show (q (f n) && !decide (f n = f n)) = false; rw [decide_eq_true rfl]; simp) ((h3 _ (h1 n (by omega) c)).mpr ⟨n, by omega, c, rfl⟩) (fun i hi => by show q i = (q i && !decide (i = f n)); rw [decide_eq_false hi]; simp) (h1 n (by omega) c)
      rw [hs, ih, if_pos c]
    · rw [if_neg c, Nat.add_zero]
      refine cN_map (fun k hk => h1 k (by omega)) (fun k k' hk hk' => h2 k k' (by omega) (by omega)) (fun i hi => (h3 i hi).trans ?_)
      constructor
      · rintro ⟨k, hk, hp, e⟩
        refine ⟨k, ?_, hp, e⟩
        rcases Nat.lt_or_ge k n with z | z
        · exact z
        · rw [show k = n by omega] at hp; exact absurd hp c
      · rintro ⟨k, hk, hp, e⟩; exact ⟨k, by omega, hp, e⟩
theorem oXY_inj : ∀ mi : Bool, ∀ q, q < 4 → ∀ k, k < 25 → ∀ k', k' < 25 → oX mi q k = oX mi q k' → oY mi q k = oY mi q k' → k = k' := by decide +kernel
def szP (pc : Nat → Nat) (p : Nat) : Nat := cN (bt (nI (pc p))) 25
section
variable {n : Nat} {pc : Nat → Nat} {w h hs : Nat} {tu mr : Int32} {ver lv : Nat}
theorem plc_sz {c M : Nat} (hw : 1 ≤ w) (hwh : w * h ≤ 20) (h0 : plc w h hs tu mr c M) : M < 2 ^ (w * h) ∧ cN M.testBit (w * h) = cN (bt (nI c)) 25 := by
  obtain ⟨mi, q, hq, _, _, dx, dy, _, _, h3, h4, _, h6⟩ := h0
  have hb : ∀ i, bt (nI M) i = M.testBit i := btN (by omega)
  have hlt : M < 2 ^ (w * h) := Nat.lt_pow_two_of_testBit _ (fun i hi => by
    rcases Nat.lt_or_ge i 32 with z | z
    · cases e : M.testBit i with
      | false => rfl
      | true =>
        rw [← hb] at e
        obtain ⟨k, hk, hbk, ek⟩ := (h4 i z).mp e
        have := plB_lt h3 hk hbk
        omega
    · exact mk_tb (k := 20) h6 (by omega))
  refine ⟨hlt, cN_map (f := plB w mi q dx dy) (fun k hk hp => plB_lt h3 hk hp) (fun k k' hk hk' hp hp' e => ?_) (fun i hi => by rw [← hb]; exact h4 i (by omega))⟩
  obtain ⟨a1, a2, a3, a4⟩ := h3 k hk hp
  obtain ⟨b1, b2, b3, b4⟩ := h3 k' hk' hp'
  unfold plB at e
  have d1 : (w * (oY mi q k + dy - 4) + (oX mi q k + dx - 4)) / w = oY mi q k + dy - 4 := by rw [Nat.mul_add_div (by omega), Nat.div_eq_of_lt a2, Nat.add_zero]
  have d2 : (w * (oY mi q k' + dy - 4) + (oX mi q k' + dx - 4)) / w = oY mi q k' + dy - 4 := by rw [Nat.mul_add_div (by omega), Nat.div_eq_of_lt b2, Nat.add_zero]
  rw [e, d2] at d1
  have ey : oY mi q k = oY mi q k' := by omega
  rw [ey] at e
  have ex : oX mi q k = oX mi q k' := by omega
  exact oXY_inj mi q hq k hk k' hk' ex ey
theorem Lst_lOk {I I0 : gI} (hR : RelP n pc w h hs tu mr ver lv I) {L : Nat → Nat → List Nat} (hL : Lst n pc w h hs tu mr L I0) : lOk (w * h) n (szP pc) L := by
  have hwh := RelP_wh hR
  have hw := hR.1.2.1
  intro p s hp hs
  obtain ⟨q1, q2⟩ := hL p hp
  refine ⟨(q1 s (by omega)).1, (q2 s (by omega)).1, fun M hM => ?_⟩
  obtain ⟨m1, m2⟩ := ((q2 s (by omega)).2 M).mp hM
  obtain ⟨z1, z2⟩ := plc_sz hw hwh.1 m1
  have hM31 : M < 2147483648 := by have := hwh.2.2; omega
  unfold lowC at m2
  rw [btN hM31] at m2
  exact ⟨z1, m2.1, fun j hj => by rw [← btN hM31]; exact m2.2 j hj, z2⟩
/-- what prepare makes -/
def aWi (sz : Nat → Nat) (n t j : Nat) : Prop := ∃ t', t' < 2 ^ n ∧ (∀ p, p < n → t'.testBit p = true → t.testBit p = true) ∧ aSum sz t' n = j
def ScX (n : Nat) (sz : Nat → Nat) (k mode : Nat) (I : gI) : Prop := I 94 5 = nI mode ∧ I 94 6 = nI (2 ^ k - 1) ∧ I 94 7 = nI (2 ^ n - 1) ∧ ∀ t, t < 2 ^ n → I 97 t = nI (aSum sz t n) ∧ ∀ j, j < 32 → (bt (I 98 t) j = true ↔ aWi sz n t j)
def lw6 (t : Nat) : Nat := if t % 2 = 1 then 0 else if t / 2 % 2 = 1 then 1 else if t / 4 % 2 = 1 then 2 else if t / 8 % 2 = 1 then 3 else if t / 16 % 2 = 1 then 4 else 5
theorem low64' : ∀ t, t < 64 → 1 ≤ t → lw6 t < 6 ∧ bt (nI t) (lw6 t) = true ∧ (∀ j, j < lw6 t → bt (nI t) j = false) ∧ (t &&& (t - 1)) < t ∧ nI t &&& (nI t - 1) = nI (t &&& (t - 1)) ∧ (t &&& (t - 1)).testBit (lw6 t) = false ∧ (∀ q, q < 6 → q ≠ lw6 t → t.testBit q = (t &&& (t - 1)).testBit q) ∧ t.testBit (lw6 t) = true := by decide +kernel
theorem low64 (t : Nat) (h1 : t < 64) (h2 : 1 ≤ t) : ∃ p, p < 6 ∧ bt (nI t) p = true ∧ (∀ j, j < p → bt (nI t) j = false) ∧ ∃ r, r < t ∧ nI t &&& (nI t - 1) = nI r ∧ r.testBit p = false ∧ (∀ q, q < 6 → q ≠ p → t.testBit q = r.testBit q) ∧ t.testBit p = true := by
  obtain ⟨a, b, c, d⟩ := low64' t h1 h2
  exact ⟨_, a, b, c, _, d⟩
theorem aSum_le {sz : Nat → Nat} {t : Nat} : ∀ {n : Nat}, (∀ p, p < n → sz p ≤ 5) → aSum sz t n ≤ 5 * n
  | 0, _ => Nat.le_refl _
  | n + 1, h => by
    show aSum sz t n + (if t.testBit n then sz n else 0) ≤ _
    have h1 := aSum_le (sz := sz) (t := t) (n := n) (fun p hp => h p (by omega))
    have h2 := h n (by omega)
    split <;> omega
theorem aSum_0 {sz : Nat → Nat} : ∀ n, aSum sz 0 n = 0
  | 0 => rfl
  | n + 1 => by
    show aSum sz 0 n + (if (0 : Nat).testBit n then sz n else 0) = 0
    rw [aSum_0 n, Nat.zero_testBit]; rfl
theorem p_addUp {I : gI} (hR : RelP n pc w h hs tu mr ver lv I) (e7 : I 94 7 = nI (2 ^ n - 1)) {Po : gI → Prop} (hk : ∀ I', gSm [97, 98] I I' → (∀ t, t < 2 ^ n → I' 97 t = nI (aSum (szP pc) t n) ∧ ∀ j, j < 32 → (bt (I' 98 t) j = true ↔ aWi (szP pc) n t j)) → Po I') : wp_X2_addUpAreas I Po := by
  have hn := hR.1.1
  have h64 : 2 ^ n ≤ 2 ^ 6 := Nat.pow_le_pow_right (by decide) hn
  have hp0 : 0 < 2 ^ n := Nat.pow_pos (by decide)
  have hd := hR.2.2.2
  have hsz : ∀ p, p < n → szP pc p ≤ 5 := fun p hp => (hd p hp).1.2.2
  have h0 : ∀ t' : Nat, (∀ p, p < n → t'.testBit p = true → (0 : Nat).testBit p = true) → aSum (szP pc) t' n = 0 := fun t' ht => by
    rw [← aSum_0 (sz := szP pc) n]
    exact aSum_cg (fun p hp => by
      rw [Nat.zero_testBit]
      cases e : t'.testBit p with
      | false => rfl
      | true => have := ht p hp e; rw [Nat.zero_testBit] at this; exact absurd this (by decide))
  unfold wp_X2_addUpAreas
  refine ⟨vp_in_nI (n := 0) (by decide) (by decide), ?_⟩
  rw [show ((0 : Int32)).toNatClampNeg = 0 from rfl]
  intro I2 e2
  refine ⟨vp_in_nI (n := 0) (by decide) (by decide), ?_⟩
  intro I4 e4
  unfold w_X2_addUpAreas_16
  refine gl2 (N := 2 ^ n) (i0 := 1) (fun K v I => w_X2_addUpAreas_16b Po K v I) (fun t I' => 1 ≤ t ∧ gSm [97, 98] I I' ∧ ∀ t', t' < t → I' 97 t' = nI (aSum (szP pc) t' n) ∧ ∀ j, j < 32 → (bt (I' 98 t') j = true ↔ aWi (szP pc) n t' j)) (by omega) (by omega) ⟨Nat.le_refl _, by rw [e4, e2]; exact gSm_u (gSm_u (gSm_r I) (by decide)) (by decide), fun t' ht' => ?_⟩ ?_
  · obtain rfl : t' = 0 := by omega
    rw [e4, gup_o (by decide), e2, gup_at, gup_at, aSum_0]
    refine ⟨rfl, fun j hj => ?_⟩
    rw [b_1, decide_eq_true_eq]
    constructor
    · intro z; exact ⟨0, hp0, fun p _ q => q, by rw [aSum_0, z]⟩
    · rintro ⟨t', _, t2, t3⟩
      rw [← t3, h0 t' t2]
  rintro t I5 ht ⟨t1, g1, g2⟩ K kk
  unfold w_X2_addUpAreas_16b
  refine pk_lt (2 ^ n - 1) t (fun hz => ?_) (fun hz => ?_) (by rw [g1 94 (by decide)]; exact e7) rfl
  · exact hk I5 g1 (fun t' ht' => g2 t' (by omega))
  · obtain ⟨p, hp6, hb1, hb0, r, hr, er, rp, ro, tp⟩ := low64 t (by omega) t1
    have hpn : p < n := by
      rcases Nat.lt_or_ge p n with z | z
      · exact z
      · rw [mk_tb (k := n) (by omega) z] at tp; exact absurd tp (by decide)
    rw [er]
    intro n6 e6
    subst e6
    refine p_ntz (by omega) hb1 hb0 ?_
    unfold wp_X4_pieceSize
    refine ⟨vp_in_nI hp6 (by decide), ?_⟩
    rw [nI_clamp (n := p) (by omega), show I5 21 = I 21 from g1 21 (by decide), (hd p hpn).2.1]
    refine p_bitCount _ ?_
    rw [cN_25 (hd p hpn).1.2.1]
    show vp_in (nI r) 64 ∧ vp_in (nI t) 64 ∧ _
    refine ⟨vp_in_nI (by omega) (by decide), vp_in_nI (by omega) (by decide), ?_⟩
    rw [nI_clamp (n := r) (by omega), nI_clamp (n := t) (by omega), (g2 r hr).1, nI_add]
    intro I11 e11
    refine ⟨vp_in_nI (by omega) (by decide), vp_in_nI (by omega) (by decide), vp_in_nI (by omega) (by decide), ?_⟩
    intro I15 e15 n16 e16
    rw [nI_1] at e16
    subst e16
    have hadd : aSum (szP pc) t n = aSum (szP pc) r n + szP pc p := aSum_add hpn rp tp (fun q hq hne => ro q (by omega) hne)
    refine kk (by omega) I15 ⟨by omega, by rw [e15, e11]; exact gSm_u (gSm_u g1 (by decide)) (by decide), fun t' ht' => ?_⟩
    by_cases c : t' = t
    · subst c
      have x97 : I15 97 t' = nI (aSum (szP pc) r n + cN (bt (nI (pc p))) 25) := by rw [e15, gup_o (by decide), e11, gup_at]
      have x98 : I15 98 t' = (I5 98 r ||| I5 98 r <<< (nI (cN (bt (nI (pc p))) 25) &&& 31)) := by rw [e15, gup_at, e11, gup_o (by decide)]
      rw [x97, x98]
      refine ⟨by rw [hadd]; rfl, fun j hj => ?_⟩
      have h5 := hsz p hpn
      rw [b_or, show cN (bt (nI (pc p))) 25 = szP pc p from rfl, b_shl _ (by omega) _ hj, Bool.or_eq_true, Bool.and_eq_true, decide_eq_true_eq, (g2 r hr).2 j hj, (g2 r hr).2 (j - szP pc p) (by omega)]
      constructor
      · rintro (⟨t2, z1, z2, z3⟩ | ⟨z0, t2, z1, z2, z3⟩)
        · refine ⟨t2, z1, fun q hq hq2 => ?_, z3⟩
          have := z2 q hq hq2
          by_cases e : q = p
          · rw [e]; exact tp
          · rw [ro q (by omega) e]; exact this
        · have t2p : t2.testBit p = false := by
            cases e : t2.testBit p with
            | false => rfl
            | true => have := z2 p hpn e; rw [rp] at this; exact absurd this (by decide)
          refine ⟨t2 ||| 2 ^ p, or_lt z1 (Nat.pow_lt_pow_right (by decide) hpn), fun q hq hq2 => ?_, ?_⟩
          · rw [Nat.testBit_or, Bool.or_eq_true, Nat.testBit_two_pow, decide_eq_true_eq] at hq2
            by_cases e : q = p
            · rw [e]; exact tp
            · rcases hq2 with y | y
              · rw [ro q (by omega) e]; exact z2 q hq y
              · exact absurd y.symm e
          · rw [aSum_add (t := t2) (p := p) hpn t2p (by rw [Nat.testBit_or, Nat.testBit_two_pow, decide_eq_true rfl, Bool.or_true]) (fun q _ hne => by rw [Nat.testBit_or, Nat.testBit_two_pow, decide_eq_false (fun e => hne e.symm), Bool.or_false])]
            omega
      · rintro ⟨t2, z1, z2, z3⟩
        cases e : t2.testBit p with
        | false =>
          refine Or.inl ⟨t2, z1, fun q hq hq2 => ?_, z3⟩
          have hne : q ≠ p := fun e2 => by rw [e2, e] at hq2; exact absurd hq2 (by decide)
          rw [← ro q (by omega) hne]; exact z2 q hq hq2
        | true =>
          have hsm := aSum_add (sz := szP pc) (t := t2 ^^^ 2 ^ p) (t' := t2) (p := p) (n := n) hpn (by rw [Nat.testBit_xor, e, Nat.testBit_two_pow, decide_eq_true rfl]; rfl) e (fun q _ hne => by rw [Nat.testBit_xor, Nat.testBit_two_pow, decide_eq_false (fun e => hne e.symm), Bool.xor_false])
          refine Or.inr ⟨by omega, t2 ^^^ 2 ^ p, Nat.xor_lt_two_pow z1 (Nat.pow_lt_pow_right (by decide) hpn), fun q hq hq2 => ?_, by omega⟩
          rw [Nat.testBit_xor, Nat.testBit_two_pow] at hq2
          have hne : q ≠ p := fun e2 => by rw [e2, e, decide_eq_true rfl] at hq2; exact absurd hq2 (by decide)
          rw [decide_eq_false (fun e => hne e.symm), Bool.xor_false] at hq2
          rw [← ro q (by omega) hne]; exact z2 q hq hq2
    · have x97 : I15 97 t' = I5 97 t' := by rw [e15, gup_o (by decide), e11, gup_ne c]
      have x98 : I15 98 t' = I5 98 t' := by rw [e15, gup_ne c, e11, gup_o (by decide)]
      rw [x97, x98]
      exact g2 t' (by omega)
theorem p_prepare {I : gI} (hR : RelP n pc w h hs tu mr ver lv I) (hver : ver < 1073741824) {L : Nat → Nat → List Nat} (hL : lv = ver → Lst n pc w h hs tu mr L I) {mode : Nat} (hmo : mode < 3) {Po : gI → Prop} (hk : ∀ I' L', gSm (lsC ++ [94, 97, 98]) I I' → RelP n pc w h hs tu mr ver ver I' → Lst n pc w h hs tu mr L' I' → ScX n (szP pc) (w * h) mode I' → (lv = ver → L' = L) → Po I') : wp_X2_prepare (nI mode) I Po := by
  have hn := hR.1.1
  have hwh := RelP_wh hR
  unfold wp_X2_prepare
  refine p_listP hR hver hL (fun I1 L1 g1 hR1 hL1 hLe => ?_)
  intro I2 e2 I3 e3 I4 e4
  have f1 : I2 20 1 = nI w := by rw [e2, gup_o (by decide)]; exact hR1.2.1.2.1
  have f2 : I2 20 2 = nI h := by rw [e2, gup_o (by decide)]; exact hR1.2.1.2.2.1
  rw [f1, f2, pk_mul, mk_pow _ (by omega)] at e3
  have f0 : I3 20 0 = nI n := by rw [e3, gup_o (by decide), e2, gup_o (by decide)]; exact hR1.2.1.1
  rw [f0, mk_pow _ (by omega)] at e4
  have sm : gSm [94] I1 I4 := by rw [e4, e3, e2]; exact gSm_u (gSm_u (gSm_u (gSm_r I1) (by decide)) (by decide)) (by decide)
  have hR4 : RelP n pc w h hs tu mr ver ver I4 := RelP_k hR1 (fun j _ => by rw [sm 20 (by decide)]) (sm 21 (by decide)) (fun j _ => by rw [sm 200 (by decide)]) (sm 210 (by decide))
  refine p_addUp hR4 (by rw [e4, gup_at]) (fun I5 k1 k2 => ?_)
  have sm5 : gSm [94, 97, 98] I1 I5 := gSm_t (gSm_w sm (by decide)) (gSm_w k1 (by decide))
  refine hk I5 L1 (gSm_t (gSm_w g1 (fun k hk => List.mem_append_left _ hk)) (gSm_w sm5 (fun k hk => List.mem_append_right _ hk))) (RelP_k hR1 (fun j _ => by rw [sm5 20 (by decide)]) (sm5 21 (by decide)) (fun j _ => by rw [sm5 200 (by decide)]) (sm5 210 (by decide))) (Lst_k hL1 hn sm5 (fun k h1 h2 => by simp only [List.mem_cons, List.not_mem_nil, or_false]; omega)) ⟨?_, ?_, ?_, k2⟩ hLe
  · rw [k1 94 (by decide), e4, gup_ne (by decide), e3, gup_ne (by decide), e2, gup_at]
  · rw [k1 94 (by decide), e4, gup_ne (by decide), e3, gup_at]
  · rw [k1 94 (by decide), e4, gup_at]
end
