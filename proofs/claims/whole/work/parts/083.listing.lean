/-! the lists of PLACEMENTS: the class -/
def lowC (M s : Nat) : Prop := bt (nI M) s = true ∧ ∀ j, j < s → bt (nI M) j = false
def plW (w h hs c : Nat) (mi : Bool) (q M : Nat) : Prop := ∃ dx dy, dx ≤ 8 ∧ dy ≤ 8 ∧ inB w h c mi q dx dy ∧ isM w c mi q dx dy (nI M) ∧ nI M &&& nI hs = 0 ∧ M < 1048576
def lsM (p : Nat) (L : Nat → List Nat) (I : gI) : Prop := ∀ s, s < 20 → (L s).length ≤ 8 ∧ I (30 + p) s = nI (L s).length ∧ ∀ i, i < (L s).length → I (23 + p) (s * 8 + i) = nI (gt0 (L s) i) ∧ gt0 (L s) i < 1048576
theorem lsM_k {p : Nat} {L : Nat → List Nat} {I I' : gI} (h : lsM p L I) (h1 : I' (30 + p) = I (30 + p)) (h2 : I' (23 + p) = I (23 + p)) : lsM p L I' := fun s hs => by
  rw [h1, h2]; exact h s hs
theorem p_listIn {p : Nat} (hp : p < 6) {L : Nat → List Nat} {I : gI} (hL : lsM p L I) {M s : Nat} (hM : M < 1048576) (hs : s < 20) (hlow : lowC M s) (hso : srt (L s)) (hlen : (L s).length < 8) {Po : gI → Prop} (h : ∀ I' L', gSm [23 + p, 30 + p] I I' → lsM p L' I' → (∀ c, c ≠ s → L' c = L c) → srt (L' s) → (∀ x, x ∈ L' s ↔ x = M ∨ x ∈ L s) → (L' s).length ≤ (L s).length + 1 → Po I') : wp_X4_listInOrder (nI p) (nI M) I Po := by
  obtain ⟨k1, k2, k3⟩ := hL s hs
  unfold wp_X4_listInOrder
  refine p_ntz (by omega) hlow.1 hlow.2 ?_
  refine pk_le 20 s (fun z => by omega) (fun _ => ?_) rfl rfl
  rw [nI_clamp (n := p) (by omega), nI_clamp (n := s) (by omega), k2]
  refine ⟨vp_in_nI hp (by decide), vp_in_nI hs (by decide), pk_lt (L s).length 8 (fun _ => ?_) (fun z => by omega) rfl rfl⟩
  refine ⟨vp_in_nI hp (by decide), ?_⟩
  rw [i_8, pk_mul]
  intro n7 e7
  subst e7
  refine ⟨vp_in_nI hp (by decide), vp_in_nI hs (by decide), ?_⟩
  rw [nI_add]
  intro n10 e10
  subst e10
  unfold w_X4_listInOrder_56
  refine gl1 (N := s * 8 + (L s).length) (i0 := s * 8) (fun K v => w_X4_listInOrder_56b Po K (nI p) (nI M) (nI s) p (nI (s * 8 + (L s).length)) v I) (fun a => s * 8 ≤ a ∧ ∀ i, i < a - s * 8 → gt0 (L s) i < M) (by omega) (by omega) ⟨Nat.le_refl _, fun i hi => absurd hi (by omega)⟩ ?_
  rintro a ha ⟨ha1, ha2⟩ K kk
  have ins : (∀ i, a - s * 8 ≤ i → i < (L s).length → M < gt0 (L s) i) → w_X4_listInOrder_95 Po (nI p) (nI M) (nI s) p (nI (s * 8 + (L s).length)) (nI a) I := by
    intro hgt
    unfold w_X4_listInOrder_95 w_X4_listInOrder_99
    refine gr2 (m0 := s * 8 + (L s).length - a) (fun K v I => w_X4_listInOrder_99b Po K (nI p) (nI M) (nI s) p (nI a) v I) (fun m v I' => ∃ e, m + a = e ∧ e ≤ s * 8 + (L s).length ∧ v = nI e ∧ gSm [23 + p] I I' ∧ ∀ i, I' (23 + p) i = if e < i ∧ i ≤ s * 8 + (L s).length then I (23 + p) (i - 1) else I (23 + p) i) ⟨s * 8 + (L s).length, by omega, by omega, rfl, gSm_r I, fun i => by rw [if_neg (by omega)]⟩ ?_
    rintro m v I1 ⟨e, hm, he, rfl, g1, g2⟩ K2 kk2
    unfold w_X4_listInOrder_99b
    refine pk_le e a (fun hz => ?_) (fun hz => ?_) rfl rfl
    · obtain rfl : e = a := by omega
      refine ⟨vp_in_nI (by omega) (by decide), ?_⟩
      rw [nI_clamp (n := e) (by omega)]
      intro I15 e15
      refine ⟨vp_in_nI hp (by decide), vp_in_nI hs (by decide), vp_in_nI hs (by decide), ?_⟩
      rw [nI_clamp (n := p) (by omega), nI_clamp (n := s) (by omega)]
      have f15 : I15 (30 + p) s = nI (L s).length := by rw [e15, gup_o (by omega), g1 (30 + p) (by simp only [List.mem_cons, List.not_mem_nil, or_false]; omega)]; exact k2
      rw [f15, nI_1]
      intro I19 e19
      have hal : e - s * 8 ≤ (L s).length := by omega
      have hlen' := insAt_len (M := M) hal
      refine h I19 (fun c => if c = s then insAt (L s) (e - s * 8) M else L c) ?_ (fun c hc => ?_) (fun c hc => if_neg hc) ?_ ?_ ?_
      · rw [e19, e15]
        exact gSm_u (gSm_u (gSm_w g1 (fun k hk => by simp only [List.mem_cons, List.not_mem_nil, or_false] at hk ⊢; exact Or.inl hk)) (by simp)) (by simp)
      · show ((if c = s then insAt (L s) (e - s * 8) M else L c)).length ≤ 8 ∧ I19 (30 + p) c = nI (if c = s then insAt (L s) (e - s * 8) M else L c).length ∧ ∀ i, i < (if c = s then insAt (L s) (e - s * 8) M else L c).length → I19 (23 + p) (c * 8 + i) = nI (gt0 (if c = s then insAt (L s) (e - s * 8) M else L c) i) ∧ gt0 (if c = s then insAt (L s) (e - s * 8) M else L c) i < 1048576
        by_cases cs : c = s
        · subst cs
          rw [if_pos rfl, hlen']
          refine ⟨by omega, by rw [e19, gup_at], fun i hi => ?_⟩
          rw [insAt_get hal, e19, gup_o (by omega), e15]
          by_cases c1 : i < e - c * 8
          · rw [if_pos c1, gup_ne (by omega), g2, if_neg (by omega)]
            exact k3 i (by omega)
          · rw [if_neg c1]
            by_cases c2 : i = e - c * 8
            · rw [if_pos c2, show c * 8 + i = e by omega, gup_at]; exact ⟨rfl, hM⟩
            · rw [if_neg c2, gup_ne (by omega), g2, if_pos (by omega), show c * 8 + i - 1 = c * 8 + (i - 1) by omega]
              exact k3 (i - 1) (by omega)
        · rw [if_neg cs]
          obtain ⟨o1, o2, o3⟩ := hL c hc
          refine ⟨o1, ?_, fun i hi => ?_⟩
          · rw [e19, gup_ne cs, e15, gup_o (by omega), g1 (30 + p) (by simp only [List.mem_cons, List.not_mem_nil, or_false]; omega)]; exact o2
          · rw [e19, gup_o (by omega), e15, gup_ne (by omega), g2, if_neg (by omega)]
            exact o3 i hi
      · show srt (if s = s then insAt (L s) (e - s * 8) M else L s)
        rw [if_pos rfl]
        exact insAt_srt hal hso (fun i hi => ha2 i hi) (fun i h1 h2 => hgt i h1 h2)
      · intro x
        show x ∈ (if s = s then insAt (L s) (e - s * 8) M else L s) ↔ _
        rw [if_pos rfl, insAt_mem]
      · show (if s = s then insAt (L s) (e - s * 8) M else L s).length ≤ _
        rw [if_pos rfl, hlen']
        exact Nat.le_refl _
    · rw [i_1, pk_sub (by omega), nI_clamp (n := e - 1) (by omega), nI_clamp (n := e) (by omega)]
      refine ⟨vp_in_nI (by omega) (by decide), vp_in_nI (by omega) (by decide), ?_⟩
      intro I22 e22 n23 e23
      rw [← i_1, show e = (e - 1) + 1 by omega, pk_m1] at e23
      subst e23
      refine kk2 (m - 1) _ _ (by omega) ⟨e - 1, by omega, by omega, rfl, by rw [e22]; exact gSm_u g1 (by simp), fun i => ?_⟩
      rw [e22]
      by_cases c : i = e
      · subst c
        rw [gup_at, if_pos (by omega), g2, if_neg (by omega)]
      · rw [gup_ne c, g2]
        by_cases c2 : e < i ∧ i ≤ s * 8 + (L s).length
        · rw [if_pos c2, if_pos (by omega)]
        · rw [if_neg c2, if_neg (by omega)]
  have same : M ∈ L s → Po I := fun hm => h I L (gSm_r I) hL (fun _ _ => rfl) hso (fun x => ⟨Or.inr, fun z => z.elim (fun e => by rw [e]; exact hm) id⟩) (by omega)
  have at78 : (a < s * 8 + (L s).length → M ≤ gt0 (L s) (a - s * 8)) → w_X4_listInOrder_78 Po (nI p) (nI M) (nI s) p (nI (s * 8 + (L s).length)) (nI a) I := by
    intro hge
    unfold w_X4_listInOrder_78
    refine pk_le (s * 8 + (L s).length) a (fun hz => ins (fun i h1 h2 => by omega)) (fun hz => ?_) rfl rfl
    obtain ⟨q1, q2⟩ := k3 (a - s * 8) (by omega)
    rw [show s * 8 + (a - s * 8) = a by omega] at q1
    rw [nI_clamp (by omega), q1]
    refine ⟨vp_in_nI (by omega) (by decide), fun q => ?_, fun q => ?_⟩
    · have hne : gt0 (L s) (a - s * 8) ≠ M := fun e => q (by rw [e])
      have hle := hge hz
      refine ins (fun i h1 h2 => ?_)
      by_cases c : i = a - s * 8
      · rw [c]; omega
      · have := hso (a - s * 8) i (by omega) h2; omega
    · have e : gt0 (L s) (a - s * 8) = M := (nI_eq (by omega) (by omega)).mp q
      exact same (by rw [← e]; exact gt0_mem (by omega))
  unfold w_X4_listInOrder_56b
  refine pk_le (s * 8 + (L s).length) a (fun hz => at78 (fun z => by omega)) (fun hz => ?_) rfl rfl
  obtain ⟨q1, q2⟩ := k3 (a - s * 8) (by omega)
  rw [show s * 8 + (a - s * 8) = a by omega] at q1
  rw [nI_clamp (by omega), q1]
  refine ⟨vp_in_nI (by omega) (by decide), pk_le M (gt0 (L s) (a - s * 8)) (fun q => at78 (fun _ => q)) (fun q => ?_) rfl rfl⟩
  intro n28 e28
  rw [nI_1] at e28
  subst e28
  refine kk hz ⟨by omega, fun i hi => ?_⟩
  by_cases c : i = a - s * 8
  · rw [c]; exact q
  · exact ha2 i (by omega)
theorem u_ofBt (r : Int32) (n : Nat) (hn : n ≤ 31) (h : ∀ i, n ≤ i → i < 32 → bt r i = false) : ∃ M, M < 2 ^ n ∧ r = nI M := by
  have hlt : u32 r < 2 ^ n := by
    rcases Nat.lt_or_ge (u32 r) (2 ^ n) with z | z
    · exact z
    · exfalso
      have h32 := u_lt r
      have : u32 r = u32 r % 2 ^ n := by
        apply Nat.eq_of_testBit_eq
        intro i
        rw [Nat.testBit_mod_two_pow, bt_u32]
        rcases Nat.lt_or_ge i n with c | c
        · rw [decide_eq_true c, Bool.true_and]
        · rw [decide_eq_false (by omega), Bool.false_and]
          rcases Nat.lt_or_ge i 32 with c2 | c2
          · exact h i c c2
          · exact b_big c2
      have := Nat.mod_lt (u32 r) (Nat.pow_pos (n := n) (show 0 < 2 by decide))
      omega
  have h31 : 2 ^ n ≤ 2 ^ 31 := Nat.pow_le_pow_right (by decide) hn
  exact ⟨u32 r, hlt, u_ext (by rw [u_nI (by omega)])⟩
theorem isM_u {w c : Nat} {mi : Bool} {q dx dy : Nat} {r r' : Int32} (h : isM w c mi q dx dy r) (h' : isM w c mi q dx dy r') : r = r' := b_ext (fun i hi => by rw [Bool.eq_iff_iff, h i hi, h' i hi])
/-- what has been listed when row y, place x is next -/
def dnW (n : Nat) (pc : Nat → Nat) (w h hs p : Nat) (mi : Bool) (q sz : Nat) (kk : Nat → Nat) (lX lY mx my c0 t : Nat) (L : Nat → List Nat) (I : gI) (y x : Nat) (I' : gI) : Prop := gSm [23 + p, 30 + p, 36, 37] I I' ∧ I' 20 = I 20 ∧ spr (pc p) mi q sz kk lX lY I' ∧ ∃ L', lsM p L' I' ∧ ∀ s, s < 20 → srt (L' s) ∧ (L' s).length ≤ t + 1 ∧ (w * y + x + c0 ≤ s → (L' s).length ≤ t) ∧ ∀ z, z ∈ L' s ↔ z ∈ L s ∨ ∃ x' y', x' + mx < w ∧ y' + my < h ∧ (y' < y ∨ y' = y ∧ x' < x) ∧ isM w (pc p) mi q (x' + 4 - lX) (y' + 4 - lY) (nI z) ∧ nI z &&& nI hs = 0 ∧ z < 1048576 ∧ lowC z s
section
variable {n : Nat} {pc : Nat → Nat} {w h hs : Nat} {tu mr : Int32} {ver lv : Nat}
theorem p_listWay {I : gI} (hR : RelP n pc w h hs tu mr ver lv I) {p : Nat} (hp : p < n) {mi : Bool} {q : Nat} (hq : q ≤ 3) {a2 : Int32} (ha : a2 = 0 ↔ mi = false) {L : Nat → List Nat} (hL : lsM p L I) (hso : ∀ s, s < 20 → srt (L s)) {t : Nat} (ht : t < 8) (hlen : ∀ s, s < 20 → (L s).length ≤ t) {Po : gI → Prop}
    (hk : ∀ I' L', gSm [23 + p, 30 + p, 36, 37] I I' → lsM p L' I' → (∀ s, s < 20 → srt (L' s) ∧ (L' s).length ≤ t + 1 ∧ ∀ x, x ∈ L' s ↔ x ∈ L s ∨ (plW w h hs (pc p) mi q x ∧ lowC x s)) → Po I') : wp_X4_listWay (nI p) a2 (nI q) I Po := by
  have hwh := RelP_wh hR
  obtain ⟨⟨hn, hw1, hw2, hh1, hh2, hhs, _, _, _⟩, ⟨b0, b1, b2, b3, b4, b5, b6, b7⟩, _, d⟩ := id hR
  obtain ⟨hpc, e21, _⟩ := d p hp
  unfold wp_X4_listWay
  refine ⟨vp_in_nI (by omega) (by decide), ?_⟩
  rw [nI_clamp (by omega), e21]
  refine p_spread hpc hq ha (fun sz kk lX lY I1 g1 hS => ?_)
  have hS0 := hS
  obtain ⟨s1, s5, a1, a2, a3, ⟨kx, hkx, hbx, ekx⟩, ⟨ky, hky, hby, eky⟩⟩ := hS
  have hlx4 : lX ≤ 4 := by have := (oXY_le mi q hkx).1; omega
  have hly4 : lY ≤ 4 := by have := (oXY_le mi q hky).2; omega
  have ne : ∀ k, k ≠ 36 → k ≠ 37 → k ∉ [36, 37] := fun k h1 h2 => by simp only [List.mem_cons, List.not_mem_nil, or_false]; omega
  have hL1 : lsM p L I1 := lsM_k hL (g1 _ (ne _ (by omega) (by omega))) (g1 _ (ne _ (by omega) (by omega)))
  unfold w_X4_listWay_23
  refine gl3c (N := sz) (i0 := 0) (fun K a b v => w_X4_listWay_23b Po K (nI p) (nI sz) a b v I1) (fun i a b => ∃ mx my, a = nI mx ∧ b = nI my ∧ mx ≤ 4 ∧ my ≤ 4 ∧ (∀ i', i' < i → oX mi q (kk i') - lX ≤ mx ∧ oY mi q (kk i') - lY ≤ my) ∧ (mx = 0 ∨ ∃ i', i' < sz ∧ oX mi q (kk i') - lX = mx) ∧ (my = 0 ∨ ∃ i', i' < sz ∧ oY mi q (kk i') - lY = my)) (by omega) (by omega) ⟨0, 0, rfl, rfl, by omega, by omega, fun i' hi' => absurd hi' (by omega), Or.inl rfl, Or.inl rfl⟩ ?_
  rintro i a b hi ⟨mx, my, rfl, rfl, hmx, hmy, m1, m2, m3⟩ K kk1
  unfold w_X4_listWay_23b
  refine pk_le sz i (fun hz => ?_) (fun hz => ?_) rfl rfl
  · obtain rfl : i = sz := by omega
    -- the lowest cell of the shape where it stands first
    obtain ⟨c0, ⟨k0, hk0, hb0, ec0⟩, hc0⟩ := g_least (P := fun v => ∃ k, k < 25 ∧ bt (nI (pc p)) k = true ∧ v = w * (oY mi q k - lY) + (oX mi q k - lX)) ⟨_, kx, hkx, hbx, rfl⟩
    have shift : ∀ x y k, k < 25 → bt (nI (pc p)) k = true → plB w mi q (x + 4 - lX) (y + 4 - lY) k = w * y + x + (w * (oY mi q k - lY) + (oX mi q k - lX)) := by
      intro x y k hk hbk
      have := a3 k hk hbk
      unfold plB
      rw [show oY mi q k + (y + 4 - lY) - 4 = y + (oY mi q k - lY) by omega, Nat.mul_add]
      omega
    have inb : ∀ x y, x + mx < w → y + my < h → inB w h (pc p) mi q (x + 4 - lX) (y + 4 - lY) := by
      intro x y hx hy k hk hbk
      obtain ⟨i', hi', rfl⟩ := a2 k hk hbk
      have := m1 i' hi'
      have := a3 _ hk hbk
      omega
    have low : ∀ x y M, inB w h (pc p) mi q (x + 4 - lX) (y + 4 - lY) → isM w (pc p) mi q (x + 4 - lX) (y + 4 - lY) (nI M) → lowC M (w * y + x + c0) ∧ w * y + x + c0 < 20 := by
      intro x y M hb hm
      have e0 := shift x y k0 hk0 hb0
      have hlt := plB_lt hb hk0 hb0
      rw [← ec0] at e0
      refine ⟨⟨(hm _ (by omega)).mpr ⟨k0, hk0, hb0, e0.symm⟩, fun j hj => ?_⟩, by omega⟩
      cases e : bt (nI M) j with
      | false => rfl
      | true =>
        obtain ⟨k, hk, hbk, ek⟩ := (hm j (by omega)).mp e
        rw [shift x y k hk hbk] at ek
        exact absurd ⟨k, hk, hbk, rfl⟩ (hc0 (w * (oY mi q k - lY) + (oX mi q k - lX)) (by omega))
    have neP : ∀ k, k ≠ 23 + p → k ≠ 30 + p → k ≠ 36 → k ≠ 37 → k ∉ [23 + p, 30 + p, 36, 37] := fun k h1 h2 h3 h4 => by simp only [List.mem_cons, List.not_mem_nil, or_false]; omega
    have w36 : ∀ k, k ∈ [36, 37] → k ∈ [23 + p, 30 + p, 36, 37] := fun k hk => by simp only [List.mem_cons, List.not_mem_nil, or_false] at hk ⊢; omega
    have wpp : ∀ k, k ∈ [23 + p, 30 + p] → k ∈ [23 + p, 30 + p, 36, 37] := fun k hk => by simp only [List.mem_cons, List.not_mem_nil, or_false] at hk ⊢; omega
    unfold w_X4_listWay_67
    refine gl2 (N := h) (i0 := 0) (fun K v I => w_X4_listWay_67b Po K (nI p) (nI i) (nI mx) (nI my) v I) (fun y I' => dnW n pc w h hs p mi q i kk lX lY mx my c0 t L I y 0 I') (by omega) (by omega) ⟨gSm_w g1 w36, by rw [g1 20 (by decide)], hS0, L, hL1, fun s hs => ⟨hso s hs, by have := hlen s hs; omega, fun _ => hlen s hs, fun z => ⟨Or.inl, fun q => q.elim id (fun ⟨_, _, _, _, q, _⟩ => by omega)⟩⟩⟩ ?_
    rintro y I2 hy ⟨k1, k2, k3, L2, k4, k5⟩ K2 kk2
    unfold w_X4_listWay_67b
    have f2 : I2 20 2 = nI h := by rw [k2]; exact b2
    rw [nI_add]
    refine pk_le h (y + my) (fun hz => ?_) (fun hz => ?_) f2 rfl
    · refine hk I2 L2 k1 k4 (fun s hs => ⟨(k5 s hs).1, (k5 s hs).2.1, fun z => ((k5 s hs).2.2.2 z).trans ?_⟩)
      constructor
      · rintro (q1 | ⟨x', y', h1, h2, _, h4, h5, h6, h7⟩)
        · exact Or.inl q1
        · exact Or.inr ⟨⟨x' + 4 - lX, y' + 4 - lY, by omega, by omega, inb x' y' h1 h2, h4, h5, h6⟩, h7⟩
      · rintro (q1 | ⟨⟨dx, dy, _, _, h3, h4, h5, h6⟩, h7⟩)
        · exact Or.inl q1
        · have bx := h3 kx hkx hbx
          have by' := h3 ky hky hby
          have ex : lX + dx - 4 + 4 - lX = dx := by omega
          have ey : lY + dy - 4 + 4 - lY = dy := by omega
          have hx : lX + dx - 4 + mx < w := by
            rcases m2 with z | ⟨i', hi', z⟩
            · omega
            · have b1 := h3 _ (a1 i' hi').1 (a1 i' hi').2.1
              have b2 := a3 _ (a1 i' hi').1 (a1 i' hi').2.1
              omega
          have hy' : lY + dy - 4 + my < h := by
            rcases m3 with z | ⟨i', hi', z⟩
            · omega
            · have b1 := h3 _ (a1 i' hi').1 (a1 i' hi').2.1
              have b2 := a3 _ (a1 i' hi').1 (a1 i' hi').2.1
              omega
          exact Or.inr ⟨lX + dx - 4, lY + dy - 4, hx, hy', by omega, by rw [ex, ey]; exact h4, h5, h6, h7⟩
    · unfold w_X4_listWay_82
      refine gl2 (N := w) (i0 := 0) (fun K3 v I => w_X4_listWay_82b Po K2 K3 (nI p) (nI i) (nI mx) (nI my) (nI y) v I) (fun x I' => dnW n pc w h hs p mi q i kk lX lY mx my c0 t L I y x I') (by omega) (by omega) ⟨k1, k2, k3, L2, k4, k5⟩ ?_
      rintro x I3 hx ⟨o1, o2, o3, L3, o4, o5⟩ K3 kk3
      unfold w_X4_listWay_82b
      have f1 : I3 20 1 = nI w := by rw [o2]; exact b1
      have f3 : I3 20 3 = nI hs := by rw [o2]; exact b3
      rw [nI_add]
      refine pk_le w (x + mx) (fun hz2 => ?_) (fun hz2 => ?_) f1 rfl
      · intro n7 e7
        rw [nI_1] at e7
        subst e7
        refine kk2 (by omega) I3 ⟨o1, o2, o3, L3, o4, fun s hs => ⟨(o5 s hs).1, (o5 s hs).2.1, fun q1 => (o5 s hs).2.2.1 (by rw [Nat.mul_add] at q1; omega), fun z => ((o5 s hs).2.2.2 z).trans ?_⟩⟩
        constructor
        · rintro (q1 | ⟨x', y', h1, h2, h3, h4⟩)
          · exact Or.inl q1
          · exact Or.inr ⟨x', y', h1, h2, by omega, h4⟩
        · rintro (q1 | ⟨x', y', h1, h2, h3, h4⟩)
          · exact Or.inl q1
          · exact Or.inr ⟨x', y', h1, h2, by omega, h4⟩
      · have hb := inb x y hz2 hz
        refine p_cellsFrom f1 hwh.1 o3 hlx4 hly4 hb (fun r hr => ?_)
        obtain ⟨M, hM, rfl⟩ := u_ofBt r 20 (by omega) (fun i' h1 h2 => by
          cases e : bt r i' with
          | false => rfl
          | true =>
            obtain ⟨k, hk, hbk, ek⟩ := (hr i' h2).mp e
            have := plB_lt hb hk hbk
            omega)
        obtain ⟨hlow, hl20⟩ := low x y M hb hr
        rw [f3]
        have nxt : ∀ I4 L4, gSm [23 + p, 30 + p] I3 I4 → lsM p L4 I4 → (∀ s, s < 20 → srt (L4 s) ∧ (L4 s).length ≤ t + 1 ∧ (w * y + (x + 1) + c0 ≤ s → (L4 s).length ≤ t) ∧ ∀ z, z ∈ L4 s ↔ z ∈ L3 s ∨ (z = M ∧ nI M &&& nI hs = 0 ∧ s = w * y + x + c0)) → w_X4_listWay_123 Po K2 K3 (nI p) (nI i) (nI mx) (nI my) (nI y) (nI x) I4 := by
          intro I4 L4 r1 r2 r3
          unfold w_X4_listWay_123
          intro n10 e10
          rw [nI_1] at e10
          subst e10
          have ne2 : ∀ k, k ≠ 23 + p → k ≠ 30 + p → k ∉ [23 + p, 30 + p] := fun k h1 h2 => by simp only [List.mem_cons, List.not_mem_nil, or_false]; omega
          refine kk3 (by omega) I4 ⟨gSm_t o1 (gSm_w r1 wpp), by rw [r1 20 (ne2 _ (by omega) (by omega))]; exact o2, ?_, L4, r2, fun s hs => ⟨(r3 s hs).1, (r3 s hs).2.1, (r3 s hs).2.2.1, fun z => ((r3 s hs).2.2.2 z).trans ?_⟩⟩
          · obtain ⟨z1, z2, z3, z4⟩ := o3
            exact ⟨z1, z2, fun i' hi' => by rw [r1 36 (ne2 _ (by omega) (by omega)), r1 37 (ne2 _ (by omega) (by omega))]; exact z3 i' hi', z4⟩
          · rw [(o5 s hs).2.2.2 z]
            constructor
            · rintro ((q1 | ⟨x', y', h1, h2, h3, h4⟩) | ⟨rfl, h5, rfl⟩)
              · exact Or.inl q1
              · exact Or.inr ⟨x', y', h1, h2, by omega, h4⟩
              · exact Or.inr ⟨x, y, hz2, hz, by omega, hr, h5, hM, hlow⟩
            · rintro (q1 | ⟨x', y', h1, h2, h3, h4, h5, h6, h7⟩)
              · exact Or.inl (Or.inl q1)
              · by_cases e : y' = y ∧ x' = x
                · obtain ⟨rfl, rfl⟩ := e
                  have hz : z = M := by
                    have := isM_u h4 hr
                    exact (nI_eq (by omega) (by omega)).mp this
                  subst hz
                  refine Or.inr ⟨rfl, h5, ?_⟩
                  rcases Nat.lt_trichotomy s (w * y' + x' + c0) with z1 | z1 | z1
                  · have := hlow.2 s z1; rw [h7.1] at this; exact absurd this (by decide)
                  · exact z1
                  · have := h7.2 _ z1; rw [hlow.1] at this; exact absurd this (by decide)
                · exact Or.inl (Or.inr ⟨x', y', h1, h2, by omega, h4, h5, h6, h7⟩)
        refine ⟨fun q1 => nxt I3 L3 (gSm_r I3) o4 (fun s hs => ⟨(o5 s hs).1, (o5 s hs).2.1, fun q2 => (o5 s hs).2.2.1 (by omega), fun z => ⟨Or.inl, fun q2 => q2.elim id (fun q2 => absurd q2.2.1 q1)⟩⟩), fun q1 => ?_⟩
        refine p_listIn (by omega) o4 hM hl20 hlow (o5 _ hl20).1 (by have := (o5 _ hl20).2.2.1 (Nat.le_refl _); omega) (fun I4 L4 r1 r2 r3 r4 r5 r6 => nxt I4 L4 r1 r2 (fun s hs => ?_))
        by_cases e : s = w * y + x + c0
        · subst e
          refine ⟨r4, by have := (o5 _ hl20).2.2.1 (Nat.le_refl _); omega, fun q2 => by omega, fun z => ?_⟩
          rw [r5 z]
          exact ⟨fun q2 => q2.elim (fun q3 => Or.inr ⟨q3, q1, rfl⟩) Or.inl, fun q2 => q2.elim Or.inr (fun q3 => Or.inl q3.1)⟩
        · rw [r3 s e]
          exact ⟨(o5 s hs).1, (o5 s hs).2.1, fun q2 => (o5 s hs).2.2.1 (by omega), fun z => ⟨Or.inl, fun q2 => q2.elim id (fun q3 => absurd q3.2.2 e)⟩⟩
  · have f36 := (a1 i hz).2.2.1
    have f37 := (a1 i hz).2.2.2
    have hX := oXY_le mi q (a1 i hz).1
    refine ⟨vp_in_nI (by omega) (by decide), ?_⟩
    rw [nI_clamp (by omega), f36, f37, nI_maxI (by omega) (by omega)]
    intro n13 e13
    refine ⟨vp_in_nI (by omega) (by decide), ?_⟩
    rw [nI_maxI (by omega) (by omega)]
    intro n15 e15 n16 e16
    rw [nI_1] at e16
    subst e13 e15 e16
    refine kk1 hz _ _ ⟨max mx (oX mi q (kk i) - lX), max my (oY mi q (kk i) - lY), rfl, rfl, by omega, by omega, fun i' hi' => ?_, ?_, ?_⟩
    · by_cases e : i' = i
      · subst e; omega
      · have := m1 i' (by omega); omega
    · by_cases e : mx ≤ oX mi q (kk i) - lX
      · exact Or.inr ⟨i, hz, by omega⟩
      · rcases m2 with z | ⟨i', hi', z⟩
        · omega
        · exact Or.inr ⟨i', hi', by omega⟩
    · by_cases e : my ≤ oY mi q (kk i) - lY
      · exact Or.inr ⟨i, hz, by omega⟩
      · rcases m3 with z | ⟨i', hi', z⟩
        · omega
        · exact Or.inr ⟨i', hi', by omega⟩
end
