/-! block, letter: GROWN -/
theorem RelL_ix {a x y : Nat} (h2 : 2 ≤ a) (h3 : a ≤ 3) (hx : x < a) (hy : y < a) : a * y + x < 9 := by
  rcases (show a = 2 ∨ a = 3 by omega) with rfl | rfl <;> omega
theorem p_atC {n a : Nat} {bl : Nat → Nat → Nat} {I : gI} (hR : RelL n a bl I) {l x y : Nat} (hl : l < 6) (hx : x < a) (hy : y < a) {Po : Int32 → Prop} (h : Po (nI (bl l (a * y + x)))) : wp_X0_at (nI l) (nI x) (nI y) I Po := by
  obtain ⟨hn1, hn6, ha2, ha3, l0, m0, l1, m1, hb⟩ := hR
  have hix := RelL_ix ha2 ha3 hx hy
  unfold wp_X0_at
  rw [l1, pk_mul, nI_add]
  refine ⟨vp_in_nI hl (by decide), vp_in_nI hix (by decide), ?_⟩
  rw [nI_clamp (by omega), nI_clamp (by omega), (hb l hl _ hix).2.1]
  exact h
theorem p_atM {n a : Nat} {bl : Nat → Nat → Nat} {I : gI} (hR : RelL n a bl I) {l x y : Nat} (hl : l < 6) (hx : x < a) (hy : y < a) {Po : Int32 → Prop} (h : Po (nI (bl l (a * y + x)))) : wp_X10_at (nI l) (nI x) (nI y) I Po := by
  obtain ⟨hn1, hn6, ha2, ha3, l0, m0, l1, m1, hb⟩ := hR
  have hix := RelL_ix ha2 ha3 hx hy
  unfold wp_X10_at
  rw [m1, i_9, pk_mul, pk_mul, nI_add, nI_add, show 9 * l + a * y + x = 9 * l + (a * y + x) by omega]
  refine ⟨vp_in_nI (by omega) (by decide), ?_⟩
  rw [nI_clamp (by omega), (hb l hl _ hix).2.2]
  exact h
theorem p_isLetterC {n a : Nat} {bl : Nat → Nat → Nat} {I : gI} (hR : RelL n a bl I) {v : Int32} {Po : Int32 → Prop} (h1 : ∀ l : Nat, l < n → v = nI l → Po 1) (h0 : ¬ inR v 0 (nI (n - 1)) → Po 0) : wp_X9_isLetter v I Po := by
  obtain ⟨hn1, hn6, ha2, ha3, l0, m0, l1, m1, hb⟩ := hR
  unfold wp_X9_isLetter
  rw [l0, i_1, pk_sub (by omega)]
  refine p_isBetween (fun b => ⟨Or.inr rfl, ?_⟩) (fun b => ⟨Or.inl rfl, h0 b⟩)
  obtain ⟨l, -, hl, rfl⟩ := inR_nI (lo := 0) (by decide) (by omega) b
  exact h1 l (by omega) rfl
theorem p_isLetterM {n a : Nat} {bl : Nat → Nat → Nat} {I : gI} (hR : RelL n a bl I) {v : Int32} {Po : Int32 → Prop} (h1 : ∀ l : Nat, l < n → v = nI l → Po 1) (h0 : ¬ inR v 0 (nI (n - 1)) → Po 0) : wp_X10_isLetter v I Po := by
  obtain ⟨hn1, hn6, ha2, ha3, l0, m0, l1, m1, hb⟩ := hR
  unfold wp_X10_isLetter
  rw [m0, i_1, pk_sub (by omega)]
  refine p_isIn (fun b => ⟨Or.inr rfl, ?_⟩) (fun b => ⟨Or.inl rfl, h0 b⟩)
  obtain ⟨l, -, hl, rfl⟩ := inR_nI (lo := 0) (by decide) (by omega) b
  exact h1 l (by omega) rfl
theorem inR_lt {v n : Nat} (h : v < n) (hn : n < 2147483648) : inR (nI v) 0 (nI (n - 1)) := inR_of (lo := 0) (by omega) (by omega) (by omega)
theorem q_block {n a : Nat} {bl : Nat → Nat → Nat} {I : gI} (hR : RelL n a bl I) (a1 a2 a3 a4 : Int32) {Po : Int32 → Int32 → gI → Prop} (hbad : Po (-2) (-2) I)
    (hok : ∀ (v : Int32) (bl' : Nat → Nat → Nat) (I' : gI), RelL n a bl' I' → gSm [42, 43, 44, 45, 46, 47, 222] I I' → Po v v I') : wp_X9_block a1 a2 a3 a4 I (fun r I1 => wp_X10_block a1 a2 a3 a4 I1 (fun r2 I2 => Po r r2 I2)) := by
  have hR0 := hR
  obtain ⟨hn1, hn6, ha2, ha3, l0, m0, l1, m1, hb⟩ := hR
  have bad : (¬ inR a1 0 (nI (n - 1)) ∨ ¬ inR a4 0 (nI (n - 1)) ∨ ¬ inR a2 0 (nI (a - 1)) ∨ ¬ inR a3 0 (nI (a - 1))) → wp_X10_block a1 a2 a3 a4 I (fun r2 I2 => Po (-2) r2 I2) := by
    intro hb4
    unfold wp_X10_block
    refine p_isLetterM hR0 (fun x1 y1 e1 => ⟨fun q => absurd q one_ne, fun _ => ?_⟩) (fun b1 => ⟨fun _ => hbad, fun q => absurd rfl q⟩)
    refine p_isLetterM hR0 (fun x4 y4 e4 => ⟨fun q => absurd q one_ne, fun _ => ?_⟩) (fun b4 => ⟨fun _ => hbad, fun q => absurd rfl q⟩)
    rw [m1, i_1, pk_sub (by omega)]
    refine p_isIn (fun b2 => ⟨fun q => absurd q (by decide), fun _ => ?_⟩) (fun b2 => ⟨fun _ => hbad, fun q => absurd rfl q⟩)
    refine p_isIn (fun b3 => ?_) (fun b3 => ⟨fun q => absurd rfl q, fun _ => hbad⟩)
    rcases hb4 with z | z | z | z
    · exact absurd (by rw [e1]; exact inR_lt y1 (by omega)) z
    · exact absurd (by rw [e4]; exact inR_lt y4 (by omega)) z
    · exact absurd b2 z
    · exact absurd b3 z
  unfold wp_X9_block
  refine p_isLetterC hR0 (fun l hl e1 => ⟨fun q => absurd q one_ne, fun _ => ?_⟩) (fun b1 => ⟨fun _ => bad (Or.inl b1), fun q => absurd rfl q⟩)
  refine p_isLetterC hR0 (fun m hm e4 => ⟨fun _ => ?_, fun q => absurd q one_ne⟩) (fun b4 => ⟨fun q => absurd rfl q, fun _ => bad (Or.inr (Or.inl b4))⟩)
  rw [l1, i_1, pk_sub (by omega)]
  refine p_isBetween (fun b2 => ⟨fun q => absurd q (by decide), fun _ => ?_⟩) (fun b2 => ⟨fun _ => bad (Or.inr (Or.inr (Or.inl b2))), fun q => absurd rfl q⟩)
  refine p_isBetween (fun b3 => ⟨fun _ => ?_, fun q => absurd q (by decide)⟩) (fun b3 => ⟨fun q => absurd rfl q, fun _ => bad (Or.inr (Or.inr (Or.inr b3)))⟩)
  obtain ⟨x, -, hx, rfl⟩ := inR_nI (lo := 0) (by decide) (by omega) b2
  obtain ⟨y, -, hy, rfl⟩ := inR_nI (lo := 0) (by decide) (by omega) b3
  subst e1 e4
  have hix := RelL_ix ha2 ha3 (show x < a by omega) (show y < a by omega)
  unfold wp_X0_replace
  refine p_atC hR0 (by omega) (by omega) (by omega) ?_
  rw [l1, pk_mul, nI_add]
  refine ⟨vp_in_nI (by omega) (by decide), vp_in_nI hix (by decide), ?_⟩
  intro I4 e4
  rw [nI_clamp (by omega), nI_clamp (by omega)] at e4
  show wp_X10_block (nI l) (nI x) (nI y) (nI m) I4 (fun r2 I2 => Po (nI (bl l (a * y + x))) r2 I2)
  have o4 : ∀ k, k ≠ 42 + l → I4 k = I k := fun k hk => by rw [e4, gup_o hk]
  unfold wp_X10_block
  have m0' : I4 200 31 = nI n := by rw [o4 200 (by omega)]; exact m0
  have m1' : I4 200 32 = nI a := by rw [o4 200 (by omega)]; exact m1
  have isl : ∀ {v : Nat} {Q : Int32 → Prop}, v < n → Q 1 → wp_X10_isLetter (nI v) I4 Q := by
    intro v Q hv hq
    unfold wp_X10_isLetter
    rw [m0', i_1, pk_sub (by omega)]
    exact p_isIn (fun _ => ⟨Or.inr rfl, hq⟩) (fun z => absurd (inR_lt hv (by omega)) z)
  refine isl hl ⟨fun q => absurd q one_ne, fun _ => ?_⟩
  refine isl hm ⟨fun q => absurd q one_ne, fun _ => ?_⟩
  rw [m1', i_1, pk_sub (by omega)]
  refine p_isIn (fun _ => ⟨fun q => absurd q (by decide), fun _ => ?_⟩) (fun z => absurd b2 z)
  refine p_isIn (fun _ => ⟨fun _ => ?_, fun q => absurd q (by decide)⟩) (fun z => absurd b3 z)
  unfold wp_X10_at
  rw [m1', i_9, pk_mul, pk_mul, nI_add, nI_add, show 9 * l + a * y + x = 9 * l + (a * y + x) by omega]
  refine ⟨vp_in_nI (by omega) (by decide), vp_in_nI (by omega) (by decide), ?_⟩
  intro I11 e11
  rw [nI_clamp (by omega)] at e11 ⊢
  rw [o4 222 (by omega), (hb l (by omega) _ hix).2.2]
  subst e11
  refine hok _ (fun l' j' => if l' = l ∧ j' = a * y + x then m else bl l' j') _ ⟨hn1, hn6, ha2, ha3, ?_, ?_, ?_, ?_, fun l' hl' j' hj' => ?_⟩ (fun k hk => ?_)
  · rw [gup_o (by omega), o4 40 (by omega)]; exact l0
  · rw [gup_o (by omega)]; exact m0'
  · rw [gup_o (by omega), o4 40 (by omega)]; exact l1
  · rw [gup_o (by omega)]; exact m1'
  · have hh := hb l' hl' j' hj'
    by_cases c : l' = l ∧ j' = a * y + x
    · obtain ⟨rfl, rfl⟩ := c
      refine ⟨by simp [hm], ?_, ?_⟩
      · rw [gup_o (by omega), e4, gup_at]; simp
      · rw [gup_at]; simp
    · refine ⟨by simp only [c, if_false]; exact hh.1, ?_, ?_⟩
      · simp only [c, if_false]
        rw [gup_o (by omega)]
        by_cases e : l' = l
        · subst e
          rw [e4, gup_ne (by intro z; exact c ⟨rfl, z⟩)]; exact hh.2.1
        · rw [o4 (42 + l') (by omega)]; exact hh.2.1
      · simp only [c, if_false]
        rw [gup_ne (by
          intro z
          rcases Nat.lt_trichotomy l' l with w | w | w
          · omega
          · exact c ⟨w, by omega⟩
          · omega), o4 222 (by omega)]
        exact hh.2.2
  · simp only [List.mem_cons, List.not_mem_nil, or_false, not_or] at hk
    rw [gup_o (by omega), o4 k (by omega)]
