/-! GROWN(l, k) at (x, y); letter -/
def grw (a : Nat) (bl : Nat → Nat → Nat) : Nat → Nat → Nat → Nat → Nat
  | 0, l, _, _ => l
  | k + 1, l, x, y => grw a bl k (bl l (a * (y / a ^ k) + x / a ^ k)) (x % a ^ k) (y % a ^ k)
theorem pw_pos {a : Nat} (h : 2 ≤ a) (k : Nat) : 0 < a ^ k := Nat.pow_pos (by omega)
theorem pw_le {a : Nat} (h3 : a ≤ 3) {k : Nat} (hk : k ≤ 12) : a ^ k ≤ 531441 := by
  calc a ^ k ≤ 3 ^ k := Nat.pow_le_pow_left h3 k
    _ ≤ 3 ^ 12 := Nat.pow_le_pow_right (by decide) hk
    _ = 531441 := by decide
theorem pw_div {a k x : Nat} (h : x < a ^ (k + 1)) : x / a ^ k < a := by
  rw [Nat.pow_succ] at h
  exact Nat.div_lt_of_lt_mul h
theorem p_grownAt {n a : Nat} {bl : Nat → Nat → Nat} {I : gI} (hR : RelL n a bl I) {l k x y : Nat} (hl : l < n) (hk : k ≤ 12) (hx : x < a ^ k) (hy : y < a ^ k) {Po : Int32 → Prop} (h : Po (nI (grw a bl k l x y))) : wp_X0_grownAt (nI l) (nI k) (nI x) (nI y) I Po := by
  have hR0 := hR
  obtain ⟨hn1, hn6, ha2, ha3, l0, m0, l1, m1, hb⟩ := hR
  have ha0 : ¬ nI a = 0 := nI_ne0 (by omega) (by omega)
  unfold wp_X0_grownAt
  rw [l1]
  refine p_power (by omega) ?_
  have hpk := pw_le ha3 hk
  unfold w_X0_grownAt_23
  refine ⟨fun v5 v6 v7 v8 v9 => ∃ i j l' x' y' : Nat, i + j = k ∧ v5 = nI l' ∧ v6 = nI x' ∧ v7 = nI y' ∧ v8 = nI (a ^ j) ∧ v9 = nI i ∧ l' < n ∧ x' < a ^ j ∧ y' < a ^ j ∧ grw a bl j l' x' y' = grw a bl k l x y, fun _ _ _ _ v9 => k - v9.toNatClampNeg, ⟨0, k, l, x, y, by omega, rfl, rfl, rfl, rfl, rfl, hl, hx, hy, rfl⟩, ?_⟩
  rintro v5 v6 v7 v8 v9 ⟨i, j, l', x', y', hj, rfl, rfl, rfl, rfl, rfl, hl', hx', hy', hg⟩
  have hpj := pw_le ha3 (show j ≤ 12 by omega)
  unfold w_X0_grownAt_23b
  cases j with
  | zero =>
    refine ⟨fun _ => ?_, fun q => absurd ((nI_leI (a := k) (b := i) (by omega) (by omega)).mpr (by omega)) q⟩
    rw [← hg] at h
    exact h
  | succ j =>
    have hz : a ^ (j + 1) / a = a ^ j := by rw [Nat.pow_succ, Nat.mul_div_cancel _ (by omega)]
    have hp := pw_pos ha2 j
    have hpa : a ≤ a ^ (j + 1) := by rw [Nat.pow_succ]; exact Nat.le_mul_of_pos_left a hp
    have hdj : a ^ j ≤ a ^ (j + 1) := by rw [Nat.pow_succ]; exact Nat.le_mul_of_pos_right _ (by omega)
    have hne : ¬ nI (a ^ j) = 0 := nI_ne0 hp (by omega)
    refine ⟨fun q => absurd ((nI_leI (a := k) (b := i) (by omega) (by omega)).mp q) (by omega), fun _ => ?_⟩
    rw [l1]
    refine ⟨fun q => absurd ((nI_leI (a := a) (b := 1) (by omega) (by decide)).mp q) (by omega), fun _ => ?_⟩
    refine ⟨fun q => absurd ((nI_ltI (a := a ^ (j + 1)) (b := a) (by omega) (by omega)).mp q) (Nat.not_lt.mpr hpa), fun _ => ?_⟩
    refine ⟨ha0, ?_⟩
    rw [pk_div (by omega) (by omega) (by omega), hz]
    intro n6 e6
    subst e6
    refine ⟨hne, hne, ?_⟩
    rw [pk_div (by omega) hp (by omega), pk_div (by omega) hp (by omega)]
    refine p_atC hR0 (by omega) (pw_div hx') (pw_div hy') ?_
    rw [← pk_div (a := x') (by omega) hp (by omega), ← pk_div (a := y') (by omega) hp (by omega), pk_rem (by omega) hp (by omega), pk_rem (by omega) hp (by omega)]
    refine ⟨hne, ?_⟩
    intro n11 e11
    subst e11
    refine ⟨hne, ?_⟩
    intro n13 e13
    subst e13
    intro n14 e14
    rw [i_1, nI_add] at e14
    subst e14
    have hix := RelL_ix ha2 ha3 (pw_div hx') (pw_div hy')
    refine ⟨⟨i + 1, j, _, x' % a ^ j, y' % a ^ j, by omega, rfl, rfl, rfl, rfl, rfl, (hb l' (by omega) _ hix).1, Nat.mod_lt _ hp, Nat.mod_lt _ hp, ?_⟩, mu_lt (by omega) (by omega)⟩
    rw [← hg]; rfl
theorem p_grownM {n a : Nat} {bl : Nat → Nat → Nat} {I : gI} (hR : RelL n a bl I) {l k x y : Nat} (hl : l < n) (hk : k ≤ 12) (hx : x < a ^ k) (hy : y < a ^ k) {Po : Int32 → Prop} (h : Po (nI (grw a bl k l x y))) : wp_X10_grown (nI l) (nI k) (nI x) (nI y) I Po := by
  have hR0 := hR
  obtain ⟨hn1, hn6, ha2, ha3, l0, m0, l1, m1, hb⟩ := hR
  have ha0 : ¬ nI a = 0 := nI_ne0 (by omega) (by omega)
  have hpk := pw_le ha3 hk
  unfold wp_X10_grown
  refine p_width m1 (by omega) ?_
  unfold w_X10_grown_10
  refine ⟨fun v5 v6 => ∃ j l' : Nat, j ≤ k ∧ v5 = nI (a ^ j) ∧ v6 = nI l' ∧ l' < n ∧ grw a bl j l' (x % a ^ j) (y % a ^ j) = grw a bl k l x y, fun v5 _ => v5.toNatClampNeg, ⟨k, l, Nat.le_refl _, rfl, rfl, hl, by rw [Nat.mod_eq_of_lt hx, Nat.mod_eq_of_lt hy]⟩, ?_⟩
  rintro v5 v6 ⟨j, l', hj, rfl, rfl, hl', hg⟩
  have hpj := pw_le ha3 (show j ≤ 12 by omega)
  unfold w_X10_grown_10b
  cases j with
  | zero =>
    refine ⟨fun _ => ?_, fun q => absurd (show nI (a ^ 0) ≤ 1 by rw [Nat.pow_zero]; decide) q⟩
    rw [← hg] at h
    exact h
  | succ j =>
    have hp := pw_pos ha2 j
    have hz : a ^ (j + 1) / a = a ^ j := by rw [Nat.pow_succ, Nat.mul_div_cancel _ (by omega)]
    have hlt : a ^ j < a ^ (j + 1) := Nat.pow_lt_pow_right (by omega) (by omega)
    have hne : ¬ nI (a ^ j) = 0 := nI_ne0 hp (by omega)
    refine ⟨fun q => absurd ((nI_leI (b := 1) (by omega) (by decide)).mp q) (by omega), fun _ => ?_⟩
    rw [m1]
    refine ⟨ha0, ?_⟩
    rw [pk_div (by omega) (by omega) (by omega), hz]
    intro n4 e4
    subst e4
    refine ⟨hne, ha0, hne, ha0, ?_⟩
    rw [pk_div (a := x) (by omega) hp (by omega), pk_div (a := y) (by omega) hp (by omega)]
    have dx : x / a ^ j ≤ x := Nat.div_le_self _ _
    have dy : y / a ^ j ≤ y := Nat.div_le_self _ _
    rw [pk_rem (by omega) (by omega) (by omega), pk_rem (by omega) (by omega) (by omega)]
    have hix := RelL_ix ha2 ha3 (Nat.mod_lt (x / a ^ j) (by omega)) (Nat.mod_lt (y / a ^ j) (by omega))
    refine p_atM hR0 (by omega) (Nat.mod_lt _ (by omega)) (Nat.mod_lt _ (by omega)) ?_
    refine ⟨⟨j, _, by omega, rfl, rfl, (hb l' (by omega) _ hix).1, ?_⟩, ?_⟩
    · rw [← hg]
      show _ = grw a bl j (bl l' (a * (y % a ^ (j + 1) / a ^ j) + x % a ^ (j + 1) / a ^ j)) (x % a ^ (j + 1) % a ^ j) (y % a ^ (j + 1) % a ^ j)
      have e1 : ∀ z, z % a ^ (j + 1) / a ^ j = z / a ^ j % a := fun z => by rw [Nat.pow_succ, Nat.mod_mul_right_div_self]
      have e2 : ∀ z, z % a ^ (j + 1) % a ^ j = z % a ^ j := fun z => Nat.mod_mod_of_dvd _ (Nat.pow_dvd_pow a (by omega))
      rw [e1, e1, e2, e2]
    · show (nI (a ^ j)).toNatClampNeg < (nI (a ^ (j + 1))).toNatClampNeg
      rw [nI_clamp (by omega), nI_clamp (by omega)]
      exact hlt
theorem q_letter {n a : Nat} {bl : Nat → Nat → Nat} {I : gI} (hR : RelL n a bl I) (a1 a2 a3 a4 : Int32) {Po : Int32 → Int32 → Prop} (h : ∀ r, Po r r) : wp_X9_letter a1 a2 a3 a4 I (fun r => wp_X10_letter a1 a2 a3 a4 I (fun r2 => Po r r2)) := by
  have hR0 := hR
  obtain ⟨hn1, hn6, ha2, ha3, l0, m0, l1, m1, hb⟩ := hR
  unfold wp_X9_letter
  refine p_isLetterC hR0 (fun l hl e1 => ⟨fun q => absurd q one_ne, fun _ => ?_⟩) (fun b1 => ⟨fun _ => ?_, fun q => absurd rfl q⟩)
  · subst e1
    have isl : ∀ {Q : Int32 → Prop}, Q 1 → wp_X10_isLetter (nI l) I Q := fun {Q} hq => p_isLetterM hR0 (fun _ _ _ => hq) (fun z => absurd (inR_lt hl (by omega)) z)
    refine p_isBetween (fun b2 => ⟨fun _ => ?_, fun q => absurd q one_ne⟩) (fun b2 => ⟨fun q => absurd rfl q, fun _ => ?_⟩)
    · obtain ⟨k, -, hk, rfl⟩ := inR_nI (lo := 0) (hi := 12) (by decide) (by decide) b2
      have hpk := pw_le ha3 hk
      have hp := pw_pos ha2 k
      rw [l1]
      refine p_power (by omega) ?_
      rw [i_1, pk_sub (by omega)]
      intro n6 e6
      subst e6
      have head : ∀ {r : Int32}, (inR a3 0 (nI (a ^ k - 1)) → inR a4 0 (nI (a ^ k - 1)) → wp_X10_grown (nI l) (nI k) a3 a4 I (fun r2 => Po r r2)) → (¬ inR a3 0 (nI (a ^ k - 1)) ∨ ¬ inR a4 0 (nI (a ^ k - 1)) → Po r (-2)) → wp_X10_letter (nI l) (nI k) a3 a4 I (fun r2 => Po r r2) := by
        intro r hg hbd
        unfold wp_X10_letter
        refine isl ⟨fun q => absurd q one_ne, fun _ => ?_⟩
        refine p_isIn (fun _ => ⟨fun q => absurd q one_ne, fun _ => ?_⟩) (fun z => absurd b2 z)
        refine p_width m1 (by omega) ?_
        rw [i_1, pk_sub (by omega)]
        refine p_isIn (fun b3 => ⟨fun q => absurd q (by decide), fun _ => ?_⟩) (fun b3 => ⟨fun _ => hbd (Or.inl b3), fun q => absurd rfl q⟩)
        refine p_width m1 (by omega) ?_
        rw [pk_sub (by omega)]
        exact p_isIn (fun b4 => ⟨fun _ => hg b3 b4, fun q => absurd q (by decide)⟩) (fun b4 => ⟨fun q => absurd rfl q, fun _ => hbd (Or.inr b4)⟩)
      refine p_isBetween (fun b3 => ⟨fun q => absurd q (by decide), fun _ => ?_⟩) (fun b3 => ⟨fun _ => head (fun z _ => absurd z b3) (fun _ => h _), fun q => absurd rfl q⟩)
      refine p_isBetween (fun b4 => ⟨fun _ => ?_, fun q => absurd q (by decide)⟩) (fun b4 => ⟨fun q => absurd rfl q, fun _ => head (fun _ z => absurd z b4) (fun _ => h _)⟩)
      obtain ⟨x, -, hx, rfl⟩ := inR_nI (lo := 0) (by decide) (by omega) b3
      obtain ⟨y, -, hy, rfl⟩ := inR_nI (lo := 0) (by decide) (by omega) b4
      refine p_grownAt hR0 hl hk (by omega) (by omega) ?_
      refine head (fun _ _ => p_grownM hR0 hl hk (by omega) (by omega) (h _)) (fun z => ?_)
      rcases z with z | z
      · exact absurd b3 z
      · exact absurd b4 z
    · show wp_X10_letter (nI l) a2 a3 a4 I (fun r2 => Po (-2) r2)
      unfold wp_X10_letter
      refine isl ⟨fun q => absurd q one_ne, fun _ => ?_⟩
      exact p_isIn (fun z => absurd z b2) (fun _ => ⟨fun _ => h _, fun q => absurd rfl q⟩)
  · show wp_X10_letter a1 a2 a3 a4 I (fun r2 => Po (-2) r2)
    unfold wp_X10_letter
    refine p_isLetterM hR0 (fun l hl e => absurd (by rw [e]; exact inR_lt hl (by omega)) b1) (fun _ => ⟨fun _ => h _, fun q => absurd rfl q⟩)
