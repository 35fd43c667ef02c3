/-! many in the model, and side by side -/
theorem lt_of_nle {a b : Nat} (ha : a < 2147483648) (hb : b < 2147483648) (q : ¬ nI a ≤ nI b) : b < a := by
  rcases Nat.lt_or_ge b a with z | z
  · exact z
  · exact absurd ((nI_leI ha hb).mpr z) q
/-- what has been counted so far of the next row: letters before i whole, of letter i the places before z -/
def cntP (n q : Nat) (bl : Nat → Nat → Nat) (g : Nat → Nat) (i z c : Nat) : Nat := sm i (fun c' => sm q (fun w => if bl c' w = c then g c' else 0)) + sm z (fun w => if bl i w = c then g i else 0)
theorem p_manyM {n a : Nat} {bl : Nat → Nat → Nat} {I : gI} {J : gL} (hR : RelL n a bl I) {l k m : Nat} (hl : l < n) (hk : k ≤ 18) (hm : m < n) {Po : Int64 → gL → Prop} (h : ∀ J' : gL, gJm [223, 224] J J' → Po (lN (cntF n (a * a) bl k l m)) J') : w_X10_many_33 Po (nI l) (nI k) (nI m) (0 : Int32) I J := by
  obtain ⟨hn1, hn6, ha2, ha3, l0, m0, l1, m1, hb⟩ := hR
  have hq := RelL_q ha2 ha3
  have run : ∀ J0 : gL, gJm [223, 224] J J0 → (∀ c, c < 6 → J0 223 c = lN (if c = l then 1 else 0)) → w_X10_many_67 Po (nI k) (nI m) (0 : Int32) I J0 := by
    intro J0 d1 d2
    unfold w_X10_many_67
    refine ⟨fun v J' => ∃ s : Nat, s ≤ k ∧ v = nI s ∧ gJm [223, 224] J J' ∧ ∀ c, c < n → J' 223 c = lN (cntF n (a * a) bl s l c), fun v _ => k - v.toNatClampNeg, ⟨0, by omega, rfl, d1, fun c hc => d2 c (by omega)⟩, ?_⟩
    rintro v J4 ⟨s, hs, rfl, g1, g2⟩
    unfold w_X10_many_67b
    refine ⟨fun q => ?_, fun q => ?_⟩
    · have hle := (nI_leI (a := k) (b := s) (by omega) (by omega)).mp q
      obtain rfl : s = k := by omega
      refine ⟨vp_in_nI (by omega) (by decide), ?_⟩
      rw [nI_clamp (by omega), g2 m hm]
      exact h J4 g1
    · have hlt := lt_of_nle (a := k) (b := s) (by omega) (by omega) q
      unfold w_X10_many_76
      refine ⟨fun v J' => ∃ i : Nat, i ≤ 6 ∧ v = nI i ∧ gJm [223, 224] J J' ∧ (∀ c, c < n → J' 223 c = lN (cntF n (a * a) bl s l c)) ∧ ∀ c, c < i → J' 224 c = 0, fun v _ => 6 - v.toNatClampNeg, ⟨0, by omega, rfl, g1, g2, fun c hc => absurd hc (by omega)⟩, ?_⟩
      rintro v J5 ⟨i, hi, rfl, g3, g4, g5⟩
      unfold w_X10_many_76b
      refine ⟨fun q2 => ?_, fun q2 => ?_⟩
      · have hle := (nI_leI (a := 6) (b := i) (by omega) (by omega)).mp q2
        obtain rfl : i = 6 := by omega
        unfold w_X10_many_100
        refine ⟨fun v J' => ∃ i : Nat, i ≤ n ∧ v = nI i ∧ gJm [223, 224] J J' ∧ (∀ c, c < n → J' 223 c = lN (cntF n (a * a) bl s l c)) ∧ ∀ c, c < 6 → J' 224 c = lN (cntP n (a * a) bl (cntF n (a * a) bl s l) i 0 c), fun v _ => n - v.toNatClampNeg, ⟨0, by omega, rfl, g3, g4, fun c hc => by rw [g5 c hc]; rfl⟩, ?_⟩
        rintro v J6 ⟨i, hi2, rfl, k1, k2, k3⟩
        unfold w_X10_many_100b
        rw [m0]
        refine ⟨fun q3 => ?_, fun q3 => ?_⟩
        · have hle := (nI_leI (a := n) (b := i) (by omega) (by omega)).mp q3
          obtain rfl : i = n := by omega
          unfold w_X10_many_169
          refine ⟨fun v J' => ∃ z : Nat, z ≤ 6 ∧ v = nI z ∧ gJm [223, 224] J J' ∧ (∀ c, c < 6 → J' 224 c = J6 224 c) ∧ ∀ c, c < z → J' 223 c = J6 224 c, fun v _ => 6 - v.toNatClampNeg, ⟨0, by omega, rfl, k1, fun _ _ => rfl, fun c hc => absurd hc (by omega)⟩, ?_⟩
          rintro v J7 ⟨z, hz, rfl, o1, o2, o3⟩
          unfold w_X10_many_169b
          refine ⟨fun q4 => ?_, fun q4 => ?_⟩
          · have hle := (nI_leI (a := 6) (b := z) (by omega) (by omega)).mp q4
            obtain rfl : z = 6 := by omega
            intro n13 e13
            rw [i_1, nI_add] at e13
            subst e13
            refine ⟨⟨s + 1, by omega, rfl, o1, fun c hc => ?_⟩, mu_lt hlt (by omega)⟩
            rw [o3 c (by omega), k3 c (by omega)]
            rfl
          · have hz6 := lt_of_nle (a := 6) (b := z) (by omega) (by omega) q4
            refine ⟨vp_in_nI hz6 (by decide), vp_in_nI hz6 (by decide), ?_⟩
            rw [nI_clamp (by omega)]
            intro J16 e16 n17 e17
            rw [i_1, nI_add] at e17
            rw [o2 z hz6] at e16
            subst e16 e17
            refine ⟨⟨z + 1, by omega, rfl, fun y hy => ?_, fun c hc => ?_, fun c hc => ?_⟩, mu_lt hz6 (by omega)⟩
            · have hy' := hy
              simp only [List.mem_cons, List.not_mem_nil, or_false, not_or] at hy
              rw [gup_o hy.1]; exact o1 y hy'
            · rw [gup_o (by decide)]; exact o2 c hc
            · by_cases e : c = z
              · subst e; exact gup_at
              · rw [gup_ne e]; exact o3 c (by omega)
        · have hin := lt_of_nle (a := n) (b := i) (by omega) (by omega) q3
          unfold w_X10_many_112
          refine ⟨fun v J' => ∃ z : Nat, z ≤ a * a ∧ v = nI z ∧ gJm [223, 224] J J' ∧ (∀ c, c < n → J' 223 c = lN (cntF n (a * a) bl s l c)) ∧ ∀ c, c < 6 → J' 224 c = lN (cntP n (a * a) bl (cntF n (a * a) bl s l) i z c), fun v _ => a * a - v.toNatClampNeg, ⟨0, by omega, rfl, k1, k2, k3⟩, ?_⟩
          rintro v J7 ⟨z, hz, rfl, o1, o2, o3⟩
          unfold w_X10_many_112b
          rw [m1, pk_mul]
          refine ⟨fun q4 => ?_, fun q4 => ?_⟩
          · have hle := (nI_leI (a := a * a) (b := z) (by omega) (by omega)).mp q4
            obtain rfl : z = a * a := by omega
            intro n19 e19
            rw [i_1, nI_add] at e19
            subst e19
            refine ⟨⟨i + 1, by omega, rfl, o1, o2, fun c hc => ?_⟩, mu_lt hin (by omega)⟩
            rw [o3 c hc]
            rfl
          · have hza := lt_of_nle (a := a * a) (b := z) (by omega) (by omega) q4
            have hbf := hb i (by omega) z (by omega)
            rw [i_9, pk_mul, nI_add, nI_clamp (n := 9 * i + z) (by omega), hbf.2.2, nI_clamp (by omega), nI_clamp (n := i) (by omega)]
            refine ⟨vp_in_nI (by omega) (by decide), vp_in_nI (by omega) (by decide), vp_in_nI (by omega) (by decide), vp_in_nI (by omega) (by decide), ?_⟩
            intro J24 e24 n25 e25
            rw [i_1, nI_add] at e25
            rw [o3 _ (by omega), o2 i hin, lN_add] at e24
            subst e24 e25
            refine ⟨⟨z + 1, by omega, rfl, fun y hy => ?_, fun c hc => ?_, fun c hc => ?_⟩, mu_lt hza (by omega)⟩
            · have hy' := hy
              simp only [List.mem_cons, List.not_mem_nil, or_false, not_or] at hy
              rw [gup_o hy.2]; exact o1 y hy'
            · rw [gup_o (by decide)]; exact o2 c hc
            · by_cases e : c = bl i z
              · subst e
                rw [gup_at]
                unfold cntP
                simp only [sm]
                rw [if_pos trivial, Nat.add_assoc]
              · rw [gup_ne e, o3 c hc]
                unfold cntP
                simp only [sm]
                rw [if_neg (fun w => e w.symm), Nat.add_zero]
      · have hi6 := lt_of_nle (a := 6) (b := i) (by omega) (by omega) q2
        refine ⟨vp_in_nI hi6 (by decide), ?_⟩
        rw [nI_clamp (by omega)]
        intro J27 e27 n28 e28
        rw [i_1, nI_add] at e28
        subst e27 e28
        refine ⟨⟨i + 1, by omega, rfl, fun y hy => ?_, fun c hc => ?_, fun c hc => ?_⟩, mu_lt hi6 (by omega)⟩
        · have hy' := hy
          simp only [List.mem_cons, List.not_mem_nil, or_false, not_or] at hy
          rw [gup_o hy.2]; exact g3 y hy'
        · rw [gup_o (by decide)]; exact g4 c hc
        · by_cases e : c = i
          · subst e; exact gup_at
          · rw [gup_ne e]; exact g5 c (by omega)
  unfold w_X10_many_33
  refine ⟨fun v J' => ∃ i : Nat, i ≤ 6 ∧ v = nI i ∧ gJm [223, 224] J J' ∧ ∀ c, c < i → J' 223 c = lN (if c = l then 1 else 0), fun v _ => 6 - v.toNatClampNeg, ⟨0, by omega, rfl, fun _ _ => rfl, fun c hc => absurd hc (by omega)⟩, ?_⟩
  rintro v J1 ⟨i, hi, rfl, g1, g2⟩
  unfold w_X10_many_33b
  refine ⟨fun q => ?_, fun q => ?_⟩
  · have hle := (nI_leI (a := 6) (b := i) (by omega) (by omega)).mp q
    obtain rfl : i = 6 := by omega
    exact run J1 g1 g2
  · have hi6 := lt_of_nle (a := 6) (b := i) (by omega) (by omega) q
    have one : ∀ v : Int64, v = lN (if i = l then 1 else 0) → w_X10_many_57 Po (fun u4 J1' => (∃ i : Nat, i ≤ 6 ∧ u4 = nI i ∧ gJm [223, 224] J J1' ∧ ∀ c, c < i → J1' 223 c = lN (if c = l then 1 else 0)) ∧ 6 - u4.toNatClampNeg < 6 - (nI i).toNatClampNeg) (nI l) (nI k) (nI m) (nI i) v (nI i) I J1 := by
      intro v hv
      unfold w_X10_many_57
      refine ⟨vp_in_nI hi6 (by decide), ?_⟩
      rw [nI_clamp (by omega)]
      intro J31 e31 n32 e32
      rw [i_1, nI_add] at e32
      subst e31 e32
      refine ⟨⟨i + 1, by omega, rfl, fun y hy => ?_, fun c hc => ?_⟩, by rw [nI_clamp (by omega)]; omega⟩
      · have hy' := hy
        simp only [List.mem_cons, List.not_mem_nil, or_false, not_or] at hy
        rw [gup_o hy.1]; exact g1 y hy'
      · by_cases e : c = i
        · subst e; rw [gup_at]; exact hv
        · rw [gup_ne e]; exact g2 c (by omega)
    refine ⟨fun q2 => ?_, fun q2 => ?_⟩
    · exact one 0 (by rw [if_neg (fun e => q2 (by rw [e]))]; rfl)
    · have hil := (nI_eq (by omega) (by omega)).mp q2
      exact one 1 (by rw [if_pos hil]; rfl)
theorem q_many {n a : Nat} {bl : Nat → Nat → Nat} {I : gI} {J : gL} (hR : RelL n a bl I) (a1 a2 a3 : Int32) {Po : Int64 → Int64 → gL → Prop} (hbad : Po (-2) (-2) J) (hok : ∀ (v : Int64) (J' : gL), gJm [48, 49, 223, 224] J J' → Po v v J') : wp_X9_many a1 a2 a3 I J (fun r J1 => wp_X10_many a1 a2 a3 I J1 (fun r2 J2 => Po r r2 J2)) := by
  have hR0 := hR
  obtain ⟨hn1, hn6, ha2, ha3, l0, m0, l1, m1, hb⟩ := hR
  have hq := RelL_q ha2 ha3
  unfold wp_X9_many
  refine p_isLetterC hR0 (fun l hl e1 => ⟨fun q => absurd q one_ne, fun _ => ?_⟩) (fun b1 => ⟨fun _ => ?_, fun q => absurd rfl q⟩)
  · subst e1
    have isl : ∀ {v : Nat} {Q : Int32 → Prop}, v < n → Q 1 → wp_X10_isLetter (nI v) I Q := fun {v Q} hv hq => p_isLetterM hR0 (fun _ _ _ => hq) (fun z => absurd (inR_lt hv (by omega)) z)
    refine p_isLetterC hR0 (fun m hm e3 => ⟨fun q => absurd q one_ne, fun _ => ?_⟩) (fun b3 => ⟨fun _ => ?_, fun q => absurd rfl q⟩)
    · subst e3
      refine p_isBetween (fun b2 => ⟨fun _ => ?_, fun q => absurd q one_ne⟩) (fun b2 => ⟨fun q => absurd rfl q, fun _ => ?_⟩)
      · obtain ⟨k, -, hk, rfl⟩ := inR_nI (lo := 0) (hi := 18) (by decide) (by decide) b2
        refine p_countGrown hR0 hl hk hm (fun J1 j1 => ?_)
        show wp_X10_many (nI l) (nI k) (nI m) I J1 (fun r2 J2 => Po (lN (cntB (a * a) bl k m l)) r2 J2)
        unfold wp_X10_many
        refine isl hl ⟨fun q => absurd q one_ne, fun _ => ?_⟩
        refine isl hm ⟨fun q => absurd q one_ne, fun _ => ?_⟩
        refine p_isIn (fun _ => ⟨fun _ => ?_, fun q => absurd q one_ne⟩) (fun z => absurd b2 z)
        refine p_manyM hR0 hl hk hm (fun J2 j2 => ?_)
        rw [cnt_eq (fun c hc i hi => (hb c (by omega) i (by omega)).1) hl hm k]
        refine hok _ J2 (fun y hy => ?_)
        simp only [List.mem_cons, List.not_mem_nil, or_false, not_or] at hy
        rw [j2 y (by simp [hy]), j1 y (by simp [hy])]
      · show wp_X10_many (nI l) a2 (nI m) I J (fun r2 J2 => Po (-2) r2 J2)
        unfold wp_X10_many
        refine isl hl ⟨fun q => absurd q one_ne, fun _ => ?_⟩
        refine isl hm ⟨fun q => absurd q one_ne, fun _ => ?_⟩
        exact p_isIn (fun z => absurd z b2) (fun _ => ⟨fun q => absurd rfl q, fun _ => hbad⟩)
    · show wp_X10_many (nI l) a2 a3 I J (fun r2 J2 => Po (-2) r2 J2)
      unfold wp_X10_many
      refine isl hl ⟨fun q => absurd q one_ne, fun _ => ?_⟩
      exact p_isLetterM hR0 (fun m hm e => absurd (by rw [e]; exact inR_lt hm (by omega)) b3) (fun _ => ⟨fun _ => hbad, fun q => absurd rfl q⟩)
  · show wp_X10_many a1 a2 a3 I J (fun r2 J2 => Po (-2) r2 J2)
    unfold wp_X10_many
    exact p_isLetterM hR0 (fun l hl e => absurd (by rw [e]; exact inR_lt hl (by omega)) b1) (fun _ => ⟨fun _ => hbad, fun q => absurd rfl q⟩)
