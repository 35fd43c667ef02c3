/-! untile, turn, count, unpiece: class and model side by side -/
theorem RelT_num {t : Nat} {c : Nat → Nat → Nat} {I : gI} (h : RelT t c I) : t < 2147483648 := by have := h.1; omega
theorem q_untile {t : Nat} {c : Nat → Nat → Nat} {I : gI} (hR : RelT t c I) {Po : Int32 → Int32 → gI → Prop} (h0 : t = 0 → Po (-1) (-1) I)
    (h1 : ∀ I' : gI, 0 < t → RelT (t - 1) c I' → gSm [10, 200] I I' → (∀ j, j ≠ 0 → I' 200 j = I 200 j) → Po (nI (t - 1)) (nI (t - 1)) I') : wp_X9_untile I (fun r I1 => wp_X10_untile I1 (fun r2 I2 => Po r r2 I2)) := by
  have hR0 := hR
  obtain ⟨ht, h10, h200, hc⟩ := hR
  unfold wp_X9_untile
  rw [h10]
  refine ⟨fun q => ?_, fun q => ?_⟩
  · have ht0 : 0 < t := by
      rcases Nat.eq_zero_or_pos t with h | h
      · exact absurd (by rw [h]; rfl) q
      · exact h
    unfold wp_X8_dropLast
    intro I1 e1
    rw [h10, i_1, pk_sub (by omega)] at e1
    have f1 : I1 10 4 = nI (t - 1) := by rw [e1, gup_at]
    have f2 : I1 200 0 = nI t := by rw [e1, gup_o (by decide)]; exact h200
    rw [f1]
    unfold wp_X10_untile
    rw [f2]
    refine ⟨fun _ => ?_, fun z => absurd z q⟩
    intro I2 e2
    rw [i_1, pk_sub (by omega)] at e2
    have f3 : I2 200 0 = nI (t - 1) := by rw [e2, gup_at]
    rw [f3]
    subst e1 e2
    refine h1 _ ht0 ⟨by omega, by simp [gup], by simp [gup], fun j hj d hd => ?_⟩ (fun k hk => ?_) (fun j hj => ?_)
    · have h4 := hc j (by omega) d hd
      refine ⟨h4.1, ?_, ?_⟩
      · rw [gup_o (by omega), gup_o (by omega)]; exact h4.2.1
      · rw [gup_o (by decide), gup_o (by decide)]; exact h4.2.2
    · simp only [List.mem_cons, List.not_mem_nil, or_false, not_or] at hk
      rw [gup_o hk.2, gup_o hk.1]
    · rw [gup_ne hj, gup_o (by decide)]
  · have ht0 : t = 0 := (nI_eq (by omega) (by decide)).mp q
    show wp_X10_untile I (fun r2 I2 => Po (-1) r2 I2)
    unfold wp_X10_untile
    rw [h200]
    exact ⟨fun z => absurd q z, fun _ => h0 ht0⟩
theorem q_turn {a : Int32} {I : gI} {Po : Int32 → Int32 → gI → Prop} (hbad : ¬ inR a 1 18 → Po (-2) (-2) I) (hok : inR a 1 18 → Po (I 60 1) (I 200 40) (gup (gup I 60 1 a) 200 40 a)) : wp_X9_turn a I (fun r I1 => wp_X10_turn a I1 (fun r2 I2 => Po r r2 I2)) := by
  unfold wp_X9_turn
  refine p_isBetween (fun b => ⟨fun _ => ?_, fun q => absurd q one_ne⟩) (fun b => ⟨fun q => absurd rfl q, fun _ => ?_⟩)
  · intro n en I1 e1
    subst en e1
    unfold wp_X10_turn
    refine p_isIn (fun _ => ⟨fun _ => ?_, fun q => absurd q one_ne⟩) (fun q => absurd b q)
    intro n2 en2 I2 e2
    subst en2 e2
    rw [gup_o (by decide)]
    exact hok b
  · unfold wp_X10_turn
    exact p_isIn (fun q => absurd q b) (fun _ => ⟨fun q => absurd rfl q, fun _ => hbad b⟩)
theorem q_count {a : Int32} {I : gI} {Po : Int32 → Int32 → Prop} (e0 : I 10 4 = I 200 0) (e1 : I 20 0 = I 200 11) (e2 : I 60 0 = I 200 41) (e3 : I 40 0 = I 200 31) (e4 : I 20 1 = I 200 13) (e5 : I 20 2 = I 200 14) (e6 : I 60 1 = I 200 40) (h : ∀ r, Po r r) : wp_X9_count a I (fun r => wp_X10_count a I (fun r2 => Po r r2)) := by
  unfold wp_X9_count wp_X10_count
  rw [e0, e1, e2, e3, e4, e5, e6]
  refine ⟨fun q => ⟨fun _ => h _, fun z => ?_, fun z => ?_, fun z => ?_, fun z => ?_, fun z => ?_, fun z => ?_⟩, fun q => ?_, fun q => ?_, fun q => ?_, fun q => ?_, fun q => ?_, fun q => ?_⟩
  all_goals first
    | (exfalso; omega)
    | (refine ⟨fun z => ?_, fun z => ?_, fun z => ?_, fun z => ?_, fun z => ?_, fun z => ?_, fun z => ?_⟩ <;> first | exact h _ | (exfalso; omega))
theorem q_unpiece {n : Nat} {I : gI} (hn : n ≤ 6) (h20 : I 20 0 = nI n) (h200 : I 200 11 = nI n) {Po : Int32 → Int32 → gI → Prop} (h0 : n = 0 → Po (-1) (-1) I)
    (h1 : 0 < n → Po (nI (n - 1)) (nI (n - 1)) (gup (gup (gup I 20 0 (nI (n - 1))) 20 4 (I 20 4 + 1)) 200 11 (nI (n - 1)))) : wp_X9_unpiece I (fun r I1 => wp_X10_unpiece I1 (fun r2 I2 => Po r r2 I2)) := by
  unfold wp_X9_unpiece
  rw [h20]
  refine ⟨fun q => ?_, fun q => ?_⟩
  · have hn0 : 0 < n := by
      rcases Nat.eq_zero_or_pos n with h | h
      · exact absurd (by rw [h]; rfl) q
      · exact h
    unfold wp_X4_dropLast
    intro I1 e1 I2 e2
    rw [h20, i_1, pk_sub (by omega)] at e1
    have f1 : I1 20 4 = I 20 4 := by rw [e1, gup_ne (by decide)]
    rw [f1] at e2
    have f2 : I2 20 0 = nI (n - 1) := by rw [e2, gup_ne (by decide), e1, gup_at]
    have f3 : I2 200 11 = nI n := by rw [e2, gup_o (by decide), e1, gup_o (by decide)]; exact h200
    rw [f2]
    unfold wp_X10_unpiece
    rw [f3]
    refine ⟨fun _ => ?_, fun z => absurd z q⟩
    intro I3 e3
    rw [i_1, pk_sub (by omega)] at e3
    have f4 : I3 200 11 = nI (n - 1) := by rw [e3, gup_at]
    rw [f4, e3, e2, e1]
    exact h1 hn0
  · have hn0 : n = 0 := (nI_eq (by omega) (by decide)).mp q
    show wp_X10_unpiece I (fun r2 I2 => Po (-1) r2 I2)
    unfold wp_X10_unpiece
    rw [h200]
    exact ⟨fun z => absurd q z, fun _ => h0 hn0⟩
theorem q_may {a1 a2 : Int32} {I : gI} {Po : Int32 → Int32 → gI → Prop} (h2 : a2 = 0 ∨ a2 = 1) (e5 : I 20 5 = I 200 16) (e6 : I 20 6 = I 200 17) (b5 : I 200 16 = 0 ∨ I 200 16 = 1) (b6 : I 200 17 = 0 ∨ I 200 17 = 1) (hbad : ¬ inR a1 0 1 → Po (-2) (-2) I)
    (ht : a1 = 0 → ∀ I' : gI, I' 20 5 = a2 → I' 200 16 = a2 → I' 20 4 = I 20 4 + 1 → (∀ j, j ≠ 4 → j ≠ 5 → I' 20 j = I 20 j) → (∀ j, j ≠ 16 → I' 200 j = I 200 j) → gSm [20, 200] I I' → Po (I 200 16) (I 200 16) I')
    (hm : a1 = 1 → ∀ I' : gI, I' 20 6 = a2 → I' 200 17 = a2 → I' 20 4 = I 20 4 + 1 → (∀ j, j ≠ 4 → j ≠ 6 → I' 20 j = I 20 j) → (∀ j, j ≠ 17 → I' 200 j = I 200 j) → gSm [20, 200] I I' → Po (I 200 17) (I 200 17) I') :
    wp_X9_may a1 a2 I (fun r I1 => wp_X10_may a1 a2 I1 (fun r2 I2 => Po r r2 I2)) := by
  unfold wp_X9_may
  refine p_isBetween (fun b => ⟨fun _ => ?_, fun q => absurd q one_ne⟩) (fun b => ⟨fun q => absurd rfl q, fun _ => ?_⟩)
  · obtain ⟨n, -, hn, rfl⟩ := inR_nI (lo := 0) (hi := 1) (by decide) (by decide) b
    rcases (show n = 0 ∨ n = 1 by omega) with rfl | rfl
    · refine ⟨fun q => absurd rfl q, fun _ => ?_⟩
      unfold wp_X4_setTurns
      intro n1 en
      subst en
      refine ⟨h2, ?_⟩
      intro I3 e3 I4 e4
      have hI : I4 = gup (gup I 20 5 a2) 20 4 (I 20 4 + 1) := by rw [e4, e3, gup_ne (by decide)]
      rw [e5]
      refine ⟨b5, ?_⟩
      have fin : ∀ v : Int32, v = I 200 16 → wp_X10_may (nI 0) a2 I4 (fun r2 I2 => Po v r2 I2) := by
        intro v hv
        subst hv
        unfold wp_X10_may
        refine p_isIn (fun _ => ⟨fun _ => ⟨fun q => absurd rfl q, fun _ => ?_⟩, fun q => absurd q one_ne⟩) (fun q => absurd b q)
        unfold w_X10_may_27
        refine ⟨fun q => absurd rfl q, fun _ => ?_⟩
        unfold w_X10_may_41
        refine ⟨h2, ?_⟩
        intro I6 e6'
        refine ⟨fun _ => ?_, fun q => absurd q (by decide)⟩
        unfold w_X10_may_58
        have f17 : I6 200 17 = I 200 17 := by rw [e6', gup_ne (by decide), hI, gup_o (by decide), gup_o (by decide)]
        have f16 : I4 200 16 = I 200 16 := by rw [hI, gup_o (by decide), gup_o (by decide)]
        rw [f17, f16]
        refine ⟨b6, ?_⟩
        intro I9 e9
        have hall : Po (I 200 16) (I 200 16) I9 := by
          subst e9 e6' hI
          refine ht rfl _ ?_ ?_ ?_ ?_ ?_ ?_
          · simp [gup]
          · simp [gup]
          · simp [gup]
          · intro j h4 h5
            simp [gup, h4, h5]
          · intro j hj
            by_cases h17 : j = 17
            · subst h17; simp [gup]
            · simp [gup, hj, h17]
          · intro k hk
            simp only [List.mem_cons, List.not_mem_nil, or_false, not_or] at hk
            funext j
            simp [gup, hk]
        rcases b5 with z | z
        · rw [z] at hall ⊢
          exact ⟨fun _ => hall, fun q => absurd rfl q⟩
        · rw [z] at hall ⊢
          exact ⟨fun q => absurd q one_ne, fun _ => hall⟩
      unfold w_X9_may_35
      rcases b5 with z | z
      · exact ⟨fun _ => fin 0 z.symm, fun q => absurd z q⟩
      · exact ⟨fun q => absurd (q.symm.trans z) (by decide), fun _ => fin 1 z.symm⟩
    · refine ⟨fun _ => ?_, fun q => absurd q (by decide)⟩
      unfold wp_X4_setMirrors
      intro n1 en
      subst en
      refine ⟨h2, ?_⟩
      intro I3 e3 I4 e4
      have hI : I4 = gup (gup I 20 6 a2) 20 4 (I 20 4 + 1) := by rw [e4, e3, gup_ne (by decide)]
      rw [e6]
      refine ⟨b6, ?_⟩
      have fin : ∀ v : Int32, v = I 200 17 → wp_X10_may (nI 1) a2 I4 (fun r2 I2 => Po v r2 I2) := by
        intro v hv
        subst hv
        unfold wp_X10_may
        refine p_isIn (fun _ => ⟨fun _ => ⟨fun _ => ?_, fun q => absurd q (by decide)⟩, fun q => absurd q one_ne⟩) (fun q => absurd b q)
        unfold w_X10_may_27
        refine ⟨fun _ => ?_, fun q => absurd q (by decide)⟩
        unfold w_X10_may_41
        have f16 : I4 200 16 = I 200 16 := by rw [hI, gup_o (by decide), gup_o (by decide)]
        have f17 : I4 200 17 = I 200 17 := by rw [hI, gup_o (by decide), gup_o (by decide)]
        rw [f16, f17]
        refine ⟨b5, ?_⟩
        intro I6 e6'
        refine ⟨fun q => absurd rfl q, fun _ => ?_⟩
        unfold w_X10_may_58
        refine ⟨h2, ?_⟩
        intro I9 e9
        have hall : Po (I 200 17) (I 200 17) I9 := by
          subst e9 e6' hI
          refine hm rfl _ ?_ ?_ ?_ ?_ ?_ ?_
          · simp [gup]
          · simp [gup]
          · simp [gup]
          · intro j h4 h5
            simp [gup, h4, h5]
          · intro j hj
            by_cases h16 : j = 16
            · subst h16; simp [gup]
            · simp [gup, hj, h16]
          · intro k hk
            simp only [List.mem_cons, List.not_mem_nil, or_false, not_or] at hk
            funext j
            simp [gup, hk]
        rcases b6 with z | z
        · rw [z] at hall ⊢
          exact ⟨fun _ => hall, fun q => absurd rfl q⟩
        · rw [z] at hall ⊢
          exact ⟨fun q => absurd q one_ne, fun _ => hall⟩
      unfold w_X9_may_35
      rcases b6 with z | z
      · exact ⟨fun _ => fin 0 z.symm, fun q => absurd z q⟩
      · exact ⟨fun q => absurd (q.symm.trans z) (by decide), fun _ => fin 1 z.symm⟩
  · show wp_X10_may a1 a2 I (fun r2 I2 => Po (-2) r2 I2)
    unfold wp_X10_may
    exact p_isIn (fun q => absurd q b) (fun _ => ⟨fun q => absurd rfl q, fun _ => hbad b⟩)
