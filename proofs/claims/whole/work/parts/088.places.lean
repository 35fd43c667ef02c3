/-! placements: side by side -/
theorem low_ex {M : Nat} (hM : M < 1048576) {i : Nat} (hi : bt (nI M) i = true) : ∃ s, s < 20 ∧ lowC M s := by
  obtain ⟨s, h1, h2⟩ := g_least (P := fun i => bt (nI M) i = true) ⟨i, hi⟩
  refine ⟨s, ?_, h1, fun j hj => ?_⟩
  · rcases Nat.lt_or_ge s 20 with z | z
    · exact z
    · rw [← bt_u32, u_nI (by omega)] at h1
      have : M.testBit s = false := Nat.testBit_lt_two_pow (Nat.lt_of_lt_of_le hM (Nat.pow_le_pow_right (n := 2) (by decide) z))
      rw [this] at h1
      exact absurd h1 (by decide)
  · cases e : bt (nI M) j with
    | false => rfl
    | true => exact absurd e (h2 j hj)
theorem low_un {M s s' : Nat} (h : lowC M s) (h' : lowC M s') : s = s' := by
  rcases Nat.lt_trichotomy s s' with z | z | z
  · have := h'.2 s z; rw [h.1] at this; exact absurd this (by decide)
  · exact z
  · have := h.2 s' z; rw [h'.1] at this; exact absurd this (by decide)
theorem plc_low {w h hs : Nat} {tu mr : Int32} {c M : Nat} (hwh : w * h ≤ 20) (hc : pcOk c) (h0 : plc w h hs tu mr c M) : M < 1048576 ∧ ∃ s, s < 20 ∧ lowC M s := by
  obtain ⟨mi, q, _, _, _, dx, dy, _, _, h3, h4, _, h6⟩ := h0
  obtain ⟨k, hk, hbk⟩ := pc_some hc
  have hlt := plB_lt h3 hk hbk
  exact ⟨h6, low_ex h6 ((h4 _ (by omega)).mpr ⟨k, hk, hbk, rfl⟩)⟩
theorem cN_one {p : Nat → Bool} {c n : Nat} (hc : c < n) (h1 : p c = true) (h0 : ∀ i, i < n → i ≠ c → p i = false) : cN p n = 1 := by
  have h := cN_set (p := fun _ => false) (q := fun i => decide (i = c)) (c := c) rfl (decide_eq_true rfl) (fun i hi => decide_eq_false hi) hc
  rw [cN_zero (fun _ _ => rfl)] at h
  have e : cN p n = cN (fun i => decide (i = c)) n := cN_congr (fun i hi => by
    by_cases z : i = c
    · subst z; rw [h1]; exact (decide_eq_true rfl).symm
    · rw [h0 i hi z]; exact (decide_eq_false z).symm)
  rw [e, h]
theorem plN_cons {x : Nat} {l : List Nat} : ∀ s, plN (fun s => (x :: l).filter (lowB s)) s = plN (fun s => l.filter (lowB s)) s + cN (fun s => lowB s x) s
  | 0 => rfl
  | s + 1 => by
    show plN (fun s => (x :: l).filter (lowB s)) s + ((x :: l).filter (lowB s)).length = (plN (fun s => l.filter (lowB s)) s + (l.filter (lowB s)).length) + (cN (fun s => lowB s x) s + if lowB s x = true then 1 else 0)
    rw [plN_cons s]
    cases hb : lowB s x with
    | true => rw [List.filter_cons_of_pos hb, List.length_cons]; simp; omega
    | false => rw [List.filter_cons_of_neg (by rw [hb]; decide)]; simp; omega
theorem plN_all : ∀ {l : List Nat}, (∀ x, x ∈ l → ∃ s, s < 20 ∧ lowC x s) → plN (fun s => l.filter (lowB s)) 20 = l.length
  | [], _ => rfl
  | x :: l, h => by
    rw [plN_cons, plN_all (fun y hy => h y (List.mem_cons_of_mem _ hy)), List.length_cons]
    obtain ⟨s, h1, h2⟩ := h x List.mem_cons_self
    rw [cN_one (p := fun s => lowB s x) h1 (lowB_t.mpr h2) (fun i _ hi => by
      cases e : lowB i x with
      | false => rfl
      | true => exact absurd (low_un (lowB_t.mp e) h2) hi)]
theorem plN_cg {L L' : Nat → List Nat} : ∀ {n : Nat}, (∀ s, s < n → L s = L' s) → plN L n = plN L' n
  | 0, _ => rfl
  | n + 1, h => by
    show plN L n + _ = plN L' n + _
    rw [plN_cg (fun s hs => h s (by omega)), h n (by omega)]
theorem plN_le {L : Nat → List Nat} {b : Nat} : ∀ {n : Nat}, (∀ s, s < n → (L s).length ≤ b) → plN L n ≤ b * n
  | 0, _ => by show 0 ≤ b * 0; omega
  | n + 1, h => by
    show plN L n + (L n).length ≤ b * (n + 1)
    have h1 := plN_le (n := n) (fun s hs => h s (by omega))
    have h2 := h n (by omega)
    rw [Nat.mul_add, Nat.mul_one]
    omega
section
variable {n : Nat} {pc : Nat → Nat} {w h hs : Nat} {tu mr : Int32} {ver lv : Nat}
theorem p_places {I I0 : gI} (hR : RelP n pc w h hs tu mr ver lv I) {L : Nat → Nat → List Nat} (hL : Lst n pc w h hs tu mr L I0) {Po : gI → Prop} (hk : ∀ (I' : gI) (fpf : Nat → Nat), gSm [211, 212, 213, 214, 215] I I' → (∀ p, p < n → I' 212 p = nI (fpf p) ∧ I' 212 (p + 1) = nI (fpf p + plN (L p) 20) ∧ fpf p ≤ 960) → (∀ s, s ≤ 20 → I' 215 s = nI (tot n L s).length) → I' 215 21 = nI (tot n L 20).length → elM (tot n L 20) I' → Po I') : wp_X10_placeAll I Po := by
  have hwh := RelP_wh hR
  have hn := hR.1.1
  have hd := hR.2.2.2
  have hb160 : ∀ p, p < n → ∀ l, srt l → (∀ x, x ∈ l → plc w h hs tu mr (pc p) x) → l.length ≤ 160 := by
    intro p hp l h1 h2
    rw [← plN_all (l := l) (fun x hx => (plc_low hwh.1 (hd p hp).1 (h2 x hx)).2)]
    refine plN_le (b := 8) (fun s hs => ?_)
    obtain ⟨q1, q2⟩ := hL p hp
    have := srt_le (q := L p s) (srt_filter h1 (lowB s)) (fun x hx => ?_)
    · have := (q1 s hs).1; omega
    · rw [List.mem_filter, lowB_t] at hx
      exact ((q2 s hs).2 x).mpr ⟨h2 x hx.1, hx.2⟩
  refine p_placeAll hR hb160 (fun I1 PL g1 g2 g3 => ?_)
  have hfp : fp PL n ≤ 160 * n := fp_le (fun p' hp' => hb160 p' hp' _ (g2 p' hp').1 (fun x hx => ((g2 p' hp').2.1 x).mp hx))
  have hLL : ∀ p s, p < n → s < 20 → (L p s).length ≤ 8 ∧ srt (L p s) ∧ ∀ x, x ∈ L p s ↔ plc w h hs tu mr (pc p) x ∧ lowC x s := fun p s hp hs => ⟨((hL p hp).1 s hs).1, ((hL p hp).2 s hs).1, ((hL p hp).2 s hs).2⟩
  refine p_sortLow hn (by rw [g1 200 (by decide)]; exact hR.2.2.1.1) g2 g3 (by omega) hLL (fun I2 k1 k2 k3 k4 => ?_)
  refine hk I2 (fp PL) (gSm_t (gSm_w g1 (by decide)) (gSm_w k1 (by decide))) (fun p hp => ?_) k2 k3 k4
  have hlen : (PL p).length = plN (L p) 20 := by
    rw [← plN_all (l := PL p) (fun x hx => (plc_low hwh.1 (hd p hp).1 (((g2 p hp).2.1 x).mp hx)).2)]
    refine plN_cg (fun s hs => srt_uniq (srt_filter (g2 p hp).1 _) (hLL p s hp hs).2.1 (fun x => ?_))
    rw [List.mem_filter, (g2 p hp).2.1 x, lowB_t, (hLL p s hp hs).2.2 x]
  have hup := fp_up (PL := PL) hp
  refine ⟨by rw [k1 212 (by decide)]; exact (g2 p hp).2.2.1, ?_, by omega⟩
  rw [k1 212 (by decide), ← hlen]
  rcases Nat.lt_or_ge (p + 1) n with z | z
  · exact (g2 (p + 1) z).2.2.1
  · rw [show p + 1 = n by omega, g3, show n = p + 1 by omega]; rfl
theorem RelP_21 {I I' : gI} (hR : RelP n pc w h hs tu mr ver lv I) (g : gSm [211, 212, 213, 214, 215] I I') : RelP n pc w h hs tu mr ver lv I' := RelP_k hR (fun j _ => by rw [g 20 (by decide)]) (g 21 (by decide)) (fun j _ => by rw [g 200 (by decide)]) (g 210 (by decide))
theorem Lst_k {I I' : gI} {L : Nat → Nat → List Nat} {S : List Nat} (hL : Lst n pc w h hs tu mr L I) (hn : n ≤ 6) (g : gSm S I I') (hS : ∀ k, 23 ≤ k → k ≤ 35 → k ∉ S) : Lst n pc w h hs tu mr L I' := fun p hp => LstP_k (hL p hp) (g _ (hS _ (by omega) (by omega))) (g _ (hS _ (by omega) (by omega)))
theorem q_placements {I : gI} (hR : RelP n pc w h hs tu mr ver lv I) (hver : ver < 1073741824) {L : Nat → Nat → List Nat} (hL : lv = ver → Lst n pc w h hs tu mr L I) (a : Int32) {Po : Int32 → Int32 → gI → Prop} (hbad : Po (-2) (-2) I) (hok : ∀ x I' L', gSm (lsC ++ [211, 212, 213, 214, 215]) I I' → RelP n pc w h hs tu mr ver ver I' → Lst n pc w h hs tu mr L' I' → (lv = ver → L' = L) → Po x x I') : wp_X9_placements a I (fun r I1 => wp_X10_placements a I1 (fun r2 I2 => Po r r2 I2)) := by
  have hn := hR.1.1
  have hb : n = 0 → ¬ inR a 0 (nI n - 1) := fun e z => by
    subst e
    obtain ⟨z1, z2⟩ := z
    rw [Int32.le_iff_toInt_le] at z1 z2
    have e1 : (nI 0 - 1).toInt = -1 := by decide
    have e0 : (0 : Int32).toInt = 0 := rfl
    omega
  unfold wp_X9_placements
  rw [hR.2.1.1]
  refine p_isBetween (fun b => ⟨fun z => absurd z one_ne, fun _ => ?_⟩) (fun b => ⟨fun _ => ?_, fun z => absurd rfl z⟩)
  · have hn0 : 0 < n := by
      rcases Nat.eq_zero_or_pos n with z | z
      · exact absurd b (hb z)
      · exact z
    have b0 := b
    rw [i_1, pk_sub (by omega)] at b
    obtain ⟨p, _, hp, rfl⟩ := inR_nI (lo := 0) (by decide) (by omega) b
    refine p_countP hR hver hL (by omega) (fun I1 L1 g1 hR1 hL1 hLe => ?_)
    show wp_X10_placements (nI p) I1 (fun r2 I2 => Po (nI (plN (L1 p) 20)) r2 I2)
    unfold wp_X10_placements
    rw [hR1.2.2.1.1]
    refine p_isIn (fun _ => ⟨fun _ => ?_, fun z => absurd z one_ne⟩) (fun z => absurd b0 z)
    refine p_places hR1 hL1 (fun I2 fpf k1 k2 k3 k4 k5 => ?_)
    obtain ⟨m1, m2, m3⟩ := k2 p (by omega)
    rw [nI_1, nI_clamp (by omega), nI_clamp (by omega), m1, m2, pk_sub (by omega), Nat.add_sub_cancel_left]
    refine ⟨vp_in_nI (by omega) (by decide), vp_in_nI (by omega) (by decide), ?_⟩
    exact hok _ I2 L1 (gSm_t (gSm_w g1 (fun k hk => List.mem_append_left _ hk)) (gSm_w k1 (fun k hk => List.mem_append_right _ hk))) (RelP_21 hR1 k1) (Lst_k hL1 hn k1 (fun k h1 h2 => by simp only [List.mem_cons, List.not_mem_nil, or_false]; omega)) hLe
  · show wp_X10_placements a I (fun r2 I2 => Po (-2) r2 I2)
    unfold wp_X10_placements
    rw [hR.2.2.1.1]
    exact p_isIn (fun z => absurd z b) (fun _ => ⟨fun z => absurd rfl z, fun _ => hbad⟩)
end
