/-! the model: lay, insert -/
theorem i32_sub4 {a b : Nat} (ha : a < 1000) (hb : b < 1000) : inR (nI a - nI 4) 0 (nI b) ↔ 4 ≤ a ∧ a - 4 ≤ b := by
  unfold inR
  rw [Int32.le_iff_toInt_le, Int32.le_iff_toInt_le, pk_sub_toInt (by omega) (by decide), nI_toInt (by omega)]
  have e0 : (0 : Int32).toInt = 0 := rfl
  rw [e0]
  omega
theorem i32_add4 (a b : Nat) : nI a + (nI b - nI 4) = nI (a + b) - nI 4 := by
  rw [Int32.add_comm, i32_sac, nI_add, Nat.add_comm]
def noH (w hs c : Nat) (mi : Bool) (q dx dy : Nat) : Prop := ∀ k, k < 25 → bt (nI c) k = true → bt (nI hs) (plB w mi q dx dy k) = false
theorem noH_iff {w h hs c : Nat} {mi : Bool} {q dx dy M : Nat} (hwh : w * h ≤ 20) (hb : inB w h c mi q dx dy) (hm : isM w c mi q dx dy (nI M)) : nI M &&& nI hs = 0 ↔ noH w hs c mi q dx dy := by
  constructor
  · intro e k hk hbk
    have hlt := plB_lt hb hk hbk
    have h1 : bt (nI M &&& nI hs) (plB w mi q dx dy k) = false := by rw [e, b_0]
    rw [b_and, (hm _ (by omega)).mpr ⟨k, hk, hbk, rfl⟩, Bool.true_and] at h1
    exact h1
  · intro hn
    apply b_ext
    intro i hi
    rw [b_0, b_and]
    cases e : bt (nI M) i with
    | false => rfl
    | true =>
      obtain ⟨k, hk, hbk, rfl⟩ := (hm i hi).mp e
      rw [hn k hk hbk]
      rfl
theorem p_lay {w h hs c : Nat} (hw1 : 1 ≤ w) (hw5 : w ≤ 5) (hh1 : 1 ≤ h) (hh4 : h ≤ 4) {I : gI} (e13 : I 200 13 = nI w) (e14 : I 200 14 = nI h) (e15 : I 200 15 = nI hs) {mi : Bool} {q dx dy : Nat} (hq : q ≤ 3) (hdx : dx ≤ 8) (hdy : dy ≤ 8) {a3 : Int32} (ha : a3 = 0 ↔ mi = false) {Po : Int32 → Prop} (hg : ∀ r, inB w h c mi q dx dy → noH w hs c mi q dx dy → isM w c mi q dx dy r → Po r) (hbd : ¬ (inB w h c mi q dx dy ∧ noH w hs c mi q dx dy) → Po (-1)) : wp_X10_lay (nI c) (nI q) a3 (nI dx - nI 4) (nI dy - nI 4) I Po := by
  have hwh : w * h ≤ 5 * 4 := Nat.mul_le_mul hw5 hh4
  unfold wp_X10_lay w_X10_lay_6
  refine gl2b (N := 25) (i0 := 0) (fun K r v => w_X10_lay_6b Po K (nI c) (nI q) a3 (nI dx - nI 4) (nI dy - nI 4) r v I) (fun k r => (∀ k', k' < k → bt (nI c) k' = true → (4 ≤ oX mi q k' + dx ∧ oX mi q k' + dx - 4 < w ∧ 4 ≤ oY mi q k' + dy ∧ oY mi q k' + dy - 4 < h) ∧ bt (nI hs) (plB w mi q dx dy k') = false) ∧ ∀ i, i < 32 → (bt r i = true ↔ ∃ k', k' < k ∧ bt (nI c) k' = true ∧ i = plB w mi q dx dy k')) (by omega) (by omega) ⟨fun k' hk' => absurd hk' (by omega), fun i hi => by rw [b_0]; exact ⟨fun z => absurd z (by decide), fun ⟨_, z, _⟩ => absurd z (by omega)⟩⟩ ?_
  rintro k r hk ⟨g1, g2⟩ K kk
  unfold w_X10_lay_6b
  refine pk_le 25 k (fun hz => ?_) (fun hz => ?_) rfl rfl
  · obtain rfl : k = 25 := by omega
    exact hg r (fun k' h1 h2 => (g1 k' h1 h2).1) (fun k' h1 h2 => (g1 k' h1 h2).2) g2
  · have tb := bit_test1 (nI c) (s := k) (by omega)
    refine ⟨fun q0 => ?_, fun q0 => ?_⟩
    · have hb : bt (nI c) k = false := by
        cases e : bt (nI c) k with
        | false => rfl
        | true => exact absurd (tb.mpr e) q0
      unfold w_X10_lay_161
      intro n3 e3
      rw [nI_1] at e3
      subst e3
      refine kk hz r ⟨fun k' hk' hbk => ?_, fun i hi => (g2 i hi).trans ?_⟩
      · by_cases e : k' = k
        · subst e; rw [hb] at hbk; exact absurd hbk (by decide)
        · exact g1 k' (by omega) hbk
      · constructor
        · rintro ⟨k', h1, h2⟩; exact ⟨k', by omega, h2⟩
        · rintro ⟨k', h1, h2⟩
          by_cases e : k' = k
          · subst e; rw [hb] at h2; exact absurd h2.1 (by decide)
          · exact ⟨k', by omega, h2⟩
    · have hb := tb.mp q0
      have hob := oXY_le mi q hz
      have go : ∀ x0 : Nat, x0 = (if mi then 4 - k % 5 else k % 5) → w_X10_lay_40 Po K (nI c) (nI q) a3 (nI dx - nI 4) (nI dy - nI 4) r (nI k) (nI x0) I := by
        intro x0 hx0
        have hx04 : x0 ≤ 4 := by rw [hx0]; split <;> omega
        unfold w_X10_lay_40
        refine ⟨by decide, ?_⟩
        rw [i_5, pk_div (by omega) (by decide) (by decide)]
        intro n7 e7
        subst e7
        unfold w_X10_lay_51
        refine gl3c (N := q) (i0 := 0) (fun K2 a b v => w_X10_lay_51b Po K K2 (nI c) (nI q) a3 (nI dx - nI 4) (nI dy - nI 4) r (nI k) a b v I) (fun j a b => ∃ x1 y1, a = nI x1 ∧ b = nI y1 ∧ x1 ≤ 4 ∧ y1 ≤ 4 ∧ trq (q - j) x1 y1 = trq q x0 (k / 5)) (by omega) (by omega) ⟨x0, k / 5, rfl, rfl, hx04, by omega, rfl⟩ ?_
        rintro j a b hj ⟨x1, y1, rfl, rfl, hx1, hy1, ht⟩ K2 kk2
        unfold w_X10_lay_51b
        refine pk_le q j (fun hz3 => ?_) (fun hz3 => ?_) rfl rfl
        · obtain rfl : j = q := by omega
          rw [Nat.sub_self] at ht
          have ht : (x1, y1) = trq j x0 (k / 5) := ht
          have ex : x1 = oX mi j k := by unfold oX; rw [← hx0, ← ht]
          have ey : y1 = oY mi j k := by unfold oY; rw [← hx0, ← ht]
          rw [i32_add4, i32_add4]
          intro n9 e9 n10 e10
          subst e9 e10
          rw [e13, e14, e15, i_1, pk_sub hw1, pk_sub hh1]
          have bx := i32_sub4 (a := x1 + dx) (b := w - 1) (by omega) (by omega)
          have by' := i32_sub4 (a := y1 + dy) (b := h - 1) (by omega) (by omega)
          refine p_isIn (fun q1 => ⟨fun z => absurd z (by decide), fun _ => ?_⟩) (fun q1 => ⟨fun _ => hbd (fun z => q1 (bx.mpr ?_)), fun z => absurd rfl z⟩)
          · have q1 := bx.mp q1
            refine p_isIn (fun q2 => ⟨fun z => absurd z (by decide), fun _ => ?_⟩) (fun q2 => ⟨fun _ => hbd (fun z => q2 (by'.mpr ?_)), fun z => absurd rfl z⟩)
            · have q2 := by'.mp q2
              rw [pk_sub q1.1, pk_sub q2.1, pk_mul, nI_add]
              have hlt : (y1 + dy - 4) * w + (x1 + dx - 4) < 20 := by
                have : (y1 + dy - 4 + 1) * w ≤ h * w := Nat.mul_le_mul_right w (by omega)
                rw [Nat.add_mul, Nat.one_mul, Nat.mul_comm h w] at this
                omega
              have epl : (y1 + dy - 4) * w + (x1 + dx - 4) = plB w mi j dx dy k := by
                unfold plB
                rw [← ex, ← ey, Nat.mul_comm]
              rw [epl] at hlt ⊢
              have th := bit_test1 (nI hs) (s := plB w mi j dx dy k) (by omega)
              refine ⟨fun q3 => ?_, fun q3 => hbd (fun z => ?_)⟩
              · intro n16 e16
                have hf : bt (nI hs) (plB w mi j dx dy k) = false := by
                  cases e : bt (nI hs) (plB w mi j dx dy k) with
                  | false => rfl
                  | true => exact absurd (th.mpr e) q3
                unfold w_X10_lay_161
                intro n3 e3
                rw [nI_1] at e3
                subst e3
                refine kk hz n16 ⟨fun k' hk' hbk => ?_, fun i hi => ?_⟩
                · by_cases e : k' = k
                  · subst e; exact ⟨by rw [← ex, ← ey]; omega, hf⟩
                  · exact g1 k' (by omega) hbk
                · rw [e16, ← i_1, b_or, bit_one (by omega) hi, Bool.or_eq_true, g2 i hi, decide_eq_true_eq]
                  constructor
                  · rintro (⟨k', h1, h2⟩ | e)
                    · exact ⟨k', by omega, h2⟩
                    · exact ⟨k, by omega, hb, e⟩
                  · rintro ⟨k', h1, h2, h3⟩
                    by_cases e : k' = k
                    · subst e; exact Or.inr h3
                    · exact Or.inl ⟨k', by omega, h2, h3⟩
              · rw [z.2 k hz hb] at th
                exact absurd (th.mp q3) (by decide)
            · have := z.1 k hz hb
              rw [← ex, ← ey] at this
              omega
          · have := z.1 k hz hb
            rw [← ex, ← ey] at this
            omega
        · intro n17 e17 n18 e18
          rw [i_4, pk_sub hy1] at e17
          rw [nI_1] at e18
          subst e17 e18
          refine kk2 hz3 _ _ ⟨4 - y1, x1, rfl, rfl, by omega, hx1, ?_⟩
          rw [← ht, show q - j = (q - (j + 1)) + 1 by omega]
          rfl
      rw [i_5, pk_rem (by omega) (by decide) (by decide)]
      refine ⟨fun q2 => ⟨by decide, go _ ?_⟩, fun q2 => ⟨by decide, ?_⟩⟩
      · rw [ha.mp q2]; rfl
      · rw [show ((4 : Int32) - nI (k % 5)) = nI (4 - k % 5) by rw [i_4, pk_sub (by omega)]]
        refine go _ ?_
        cases hm : mi with
        | true => rfl
        | false => exact absurd (ha.mpr hm) q2
theorem p_insert {I : gI} {fr : Nat} {l : List Nat} (hso : srt l) (hm : ∀ i, i < l.length → I 211 (fr + i) = nI (gt0 l i) ∧ gt0 l i < 1048576) {M : Nat} (hM : M < 1048576) (hb : fr + l.length < 1200) {Po : Int32 → gI → Prop} (h : ∀ I' l', gSm [211] I I' → srt l' → (∀ x, x ∈ l' ↔ x = M ∨ x ∈ l) → (∀ i, i < l'.length → I' 211 (fr + i) = nI (gt0 l' i) ∧ gt0 l' i < 1048576) → (∀ i, i < fr → I' 211 i = I 211 i) → Po (nI (fr + l'.length)) I') : wp_X10_insert (nI fr) (nI (fr + l.length)) (nI M) I Po := by
  unfold wp_X10_insert w_X10_insert_3
  refine gr1 (m0 := l.length) (fun K v => w_X10_insert_3b Po K (nI fr) (nI (fr + l.length)) (nI M) v I) (fun m v => ∃ a, m = a ∧ a ≤ l.length ∧ v = nI (fr + a) ∧ ∀ i, a ≤ i → i < l.length → M < gt0 l i) ⟨l.length, rfl, Nat.le_refl _, rfl, fun i h1 h2 => by omega⟩ ?_
  rintro m v ⟨a, rfl, ha, rfl, hgt⟩ K kk
  have at1 : ∀ a', a' ≤ l.length → 0 < a' → vp_in (nI (fr + a') - 1) 1200 ∧ I 211 (nI (fr + a') - 1).toNatClampNeg = nI (gt0 l (a' - 1)) := fun a' h1 h2 => by
    rw [i_1, pk_sub (by omega), nI_clamp (by omega), show fr + a' - 1 = fr + (a' - 1) by omega]
    exact ⟨vp_in_nI (by omega) (by decide), (hm (a' - 1) (by omega)).1⟩
  have ins : (∀ i, i < m → gt0 l i < M) → w_X10_insert_49 Po (nI (fr + l.length)) (nI M) (nI (fr + m)) I := by
    intro hlt
    unfold w_X10_insert_49 w_X10_insert_52
    refine gr2 (m0 := l.length - m) (fun K v I => w_X10_insert_52b Po K (nI (fr + l.length)) (nI M) (nI (fr + m)) v I) (fun m' v I' => ∃ e, m' + m = e ∧ e ≤ l.length ∧ v = nI (fr + e) ∧ gSm [211] I I' ∧ ∀ i, I' 211 i = if fr + e < i ∧ i ≤ fr + l.length then I 211 (i - 1) else I 211 i) ⟨l.length, by omega, by omega, rfl, gSm_r I, fun i => by rw [if_neg (by omega)]⟩ ?_
    rintro m' v I1 ⟨e, hm', he, rfl, g1, g2⟩ K2 kk2
    unfold w_X10_insert_52b
    refine pk_le (fr + e) (fr + m) (fun hz => ?_) (fun hz => ?_) rfl rfl
    · obtain rfl : e = m := by omega
      refine ⟨vp_in_nI (by omega) (by decide), ?_⟩
      rw [nI_clamp (by omega), nI_1]
      intro I5 e5
      have hl := insAt_len (M := M) ha
      have := h I5 (insAt l e M) (by rw [e5]; exact gSm_u g1 (by decide)) (insAt_srt ha hso hlt hgt) (fun x => insAt_mem) (fun i hi => ?_) (fun i hi => by rw [e5, gup_ne (by omega), g2, if_neg (by omega)])
      · rw [hl, ← Nat.add_assoc] at this; exact this
      · rw [hl] at hi
        rw [insAt_get ha, e5]
        by_cases c1 : i < e
        · rw [if_pos c1, gup_ne (by omega), g2, if_neg (by omega)]; exact hm i (by omega)
        · rw [if_neg c1]
          by_cases c2 : i = e
          · rw [if_pos c2, c2, gup_at]; exact ⟨rfl, hM⟩
          · rw [if_neg c2, gup_ne (by omega), g2, if_pos (by omega), show fr + i - 1 = fr + (i - 1) by omega]
            exact hm (i - 1) (by omega)
    · rw [show (nI (fr + e) - 1) = nI (fr + e - 1) by rw [i_1, pk_sub (by omega)], nI_clamp (n := fr + e - 1) (by omega), nI_clamp (n := fr + e) (by omega)]
      refine ⟨vp_in_nI (by omega) (by decide), vp_in_nI (by omega) (by decide), ?_⟩
      intro I8 e8 n9 e9
      rw [show fr + e = (fr + (e - 1)) + 1 by omega, pk_m1] at e9
      subst e9
      refine kk2 (m' - 1) _ _ (by omega) ⟨e - 1, by omega, by omega, rfl, by rw [e8]; exact gSm_u g1 (by decide), fun i => ?_⟩
      rw [e8]
      by_cases c : i = fr + e
      · subst c; rw [gup_at, if_pos (by omega), g2, if_neg (by omega)]
      · rw [gup_ne c, g2]
        by_cases c2 : fr + e < i ∧ i ≤ fr + l.length
        · rw [if_pos c2, if_pos (by omega)]
        · rw [if_neg c2, if_neg (by omega)]
  have at28 : (0 < m → gt0 l (m - 1) ≤ M) → w_X10_insert_28 Po (nI fr) (nI (fr + l.length)) (nI M) (nI (fr + m)) I := by
    intro hle
    unfold w_X10_insert_28
    refine pk_le (fr + m) fr (fun hz => ins (fun i hi => by omega)) (fun hz => ?_) rfl rfl
    obtain ⟨k1, k2⟩ := at1 m ha (by omega)
    have hb1 := (hm (m - 1) (by omega)).2
    rw [k2]
    refine ⟨k1, fun q => ?_, fun q => ?_⟩
    · have hne : gt0 l (m - 1) ≠ M := fun e => q (by rw [e])
      have h1 := hle (by omega)
      refine ins (fun i hi => ?_)
      by_cases c : i = m - 1
      · rw [c]; omega
      · have := hso i (m - 1) (by omega) (by omega); omega
    · have e : gt0 l (m - 1) = M := (nI_eq (by omega) (by omega)).mp q
      have hmem : M ∈ l := by rw [← e]; exact gt0_mem (by omega)
      exact h I l (gSm_r I) hso (fun x => ⟨Or.inr, fun z => z.elim (fun e => by rw [e]; exact hmem) id⟩) hm (fun _ _ => rfl)
  unfold w_X10_insert_3b
  refine pk_le (fr + m) fr (fun hz => at28 (fun z => by omega)) (fun hz => ?_) rfl rfl
  obtain ⟨k1, k2⟩ := at1 m ha (by omega)
  have hb1 := (hm (m - 1) (by omega)).2
  rw [k2]
  refine ⟨k1, pk_le (gt0 l (m - 1)) M (fun q => at28 (fun _ => q)) (fun q => ?_) rfl rfl⟩
  intro n14 e14
  rw [show fr + m = (fr + (m - 1)) + 1 by omega, pk_m1] at e14
  subst e14
  refine kk (m - 1) _ (by omega) ⟨m - 1, rfl, by omega, rfl, fun i h1 h2 => ?_⟩
  by_cases c : i = m - 1
  · rw [c]; exact q
  · exact hgt i (by omega) h2
