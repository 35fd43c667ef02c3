/-! the RowGraph is made -/
def Bt (V0 : gV) (ds : List (Nat × Nat × gD)) (V : gV) : Prop := V.1 = V0.1 ++ ds.map (fun q => q.1) ∧ (∀ q, q ∈ ds → V.2.1 q.1 = q.2.1 ∧ V.2.2 q.1 = q.2.2) ∧ ∀ k, k ∉ ds.map (fun q => q.1) → V.2.1 k = V0.2.1 k ∧ V.2.2 k = V0.2.2 k
theorem Bt_add {V0 V : gV} {ds : List (Nat × Nat × gD)} {n a : Nat} {d : gD} (h : Bt V0 ds V) (hn : n ∉ ds.map (fun q => q.1)) : Bt V0 (ds ++ [(n, a, d)]) (gadd V n a d) := by
  obtain ⟨h1, h2, h3⟩ := h
  refine ⟨by show V.1 ++ [n] = _; rw [h1, List.map_append, List.append_assoc]; rfl, fun q hq => ?_, fun k hk => ?_⟩
  · rcases List.mem_append.mp hq with hq | hq
    · have hne : q.1 ≠ n := fun e => hn (by rw [← e]; exact List.mem_map.mpr ⟨q, hq, rfl⟩)
      rw [gadd_o1 hne, gadd_o2 hne]; exact h2 q hq
    · rw [List.mem_singleton.mp hq]; exact ⟨by simp [gadd, va_up], by simp [gadd, va_up]⟩
  · rw [List.map_append, List.mem_append, not_or] at hk
    have hne : k ≠ n := fun e => hk.2 (by rw [e]; exact List.mem_singleton.mpr rfl)
    rw [gadd_o1 hne, gadd_o2 hne]; exact h3 k hk.1
theorem Bt_de {V0 V : gV} {ds1 ds2 : List (Nat × Nat × gD)} {n a : Nat} {d d' : gD} (h : Bt V0 (ds1 ++ (n, a, d) :: ds2) V) (h1 : n ∉ ds1.map (fun q => q.1)) (h2 : n ∉ ds2.map (fun q => q.1)) : Bt V0 (ds1 ++ (n, a, d') :: ds2) (gde V n d') := by
  obtain ⟨g1, g2, g3⟩ := h
  refine ⟨by show V.1 = _; rw [g1, List.map_append, List.map_append]; rfl, fun q hq => ?_, fun k hk => ?_⟩
  · have old : ∀ q, q ∈ ds1 ++ (n, a, d) :: ds2 → q.1 ≠ n → (gde V n d').2.1 q.1 = q.2.1 ∧ (gde V n d').2.2 q.1 = q.2.2 := fun q hq hne => by
      rw [gde_o hne]; exact g2 q hq
    rcases List.mem_append.mp hq with hq | hq
    · exact old q (List.mem_append_left _ hq) (fun e => h1 (by rw [← e]; exact List.mem_map.mpr ⟨q, hq, rfl⟩))
    · rcases List.mem_cons.mp hq with hq | hq
      · rw [hq]
        exact ⟨(g2 (n, a, d) (List.mem_append_right _ (List.mem_cons_self ..))).1, by simp [gde, va_up]⟩
      · exact old q (List.mem_append_right _ (List.mem_cons_of_mem _ hq)) (fun e => h2 (by rw [← e]; exact List.mem_map.mpr ⟨q, hq, rfl⟩))
  · have hk' : k ∉ (ds1 ++ (n, a, d) :: ds2).map (fun q => q.1) := by
      rw [List.map_append] at hk ⊢; exact hk
    have hne : k ≠ n := fun e => hk' (by rw [e]; exact List.mem_map.mpr ⟨(n, a, d), List.mem_append_right _ (List.mem_cons_self ..), rfl⟩)
    rw [gde_o hne]; exact g3 k hk'
theorem Bt_m {V0 V : gV} {ds : List (Nat × Nat × gD)} (h : Bt V0 ds V) {q : Nat × Nat × gD} (hq : q ∈ ds) : q.1 ∈ V.1 := by
  rw [h.1]; exact List.mem_append_right _ (List.mem_map.mpr ⟨q, hq, rfl⟩)
theorem Bt_f {V0 V : gV} {ds : List (Nat × Nat × gD)} (h : Bt V0 ds V) {n : Nat} (h0 : n ∉ V0.1) (hn : n ∉ ds.map (fun q => q.1)) : n ∉ V.1 := by
  rw [h.1, List.mem_append, not_or]; exact ⟨h0, hn⟩
theorem s_X6 {mc ms n0 n1 n2 b0 r : Nat} {V0 V : gV} {ds : List (Nat × Nat × gD)} {I : gI} {J : gL} {Po : gV → gI → gL → Prop} (hr : r ≤ 4096) (hc : 2 ≤ mc) (hs : 2 * r + 1 ≤ ms) (B : Bt V0 (ds ++ [(n0, b0, .inl (6, [.inr none, .inr none]))]) V) (d0 : n0 ∉ ds.map (fun q => q.1)) (d1 : n1 ∉ ds.map (fun q => q.1)) (d2 : n2 ∉ ds.map (fun q => q.1)) (e01 : n1 ≠ n0) (e02 : n2 ≠ n0) (e12 : n2 ≠ n1) (h1 : n1 ∉ V0.1) (h2 : n2 ∉ V0.1) (hPo : ∀ V' I' a1 a2, Bt V0 (ds ++ [(n0, b0, .inl (6, [.inr (some a1), .inr (some a2)])), (n1, a1, .inr (0, r + 1, gno)), (n2, a2, .inr (0, r, gno))]) V' → gSm [n1, n2] I I' → Po V' I' J) : wA_X6_init mc ms n0 n1 n2 b0 (nI r) V I J Po := by
  unfold wA_X6_init
  rw [nI_1]
  have n1f : n1 ∉ (ds ++ [(n0, b0, (.inl (6, [.inr none, .inr none]) : gD))]).map (fun q => q.1) := by rw [List.map_append, List.mem_append, not_or]; exact ⟨d1, by simpa using e01⟩
  refine ⟨r + 1, Bt_f B h1 n1f, nI_pos (by omega), nI_clamp (by omega), by omega, by omega, by omega, ?_⟩
  intro b10 V9 e9 I11 e11
  have B1 : Bt V0 (ds ++ (n0, b0, .inl (6, [.inr none, .inr none])) :: [(n1, b10, .inr (0, r + 1, gno))]) V9 := by
    have := Bt_add (a := b10) (d := .inr (0, r + 1, gno)) B n1f
    rw [List.append_assoc] at this
    rw [e9]; exact this
  have q1 : (n0, b0, (.inl (6, [.inr none, .inr none]) : gD)) ∈ ds ++ (n0, b0, .inl (6, [.inr none, .inr none])) :: [(n1, b10, .inr (0, r + 1, gno))] := List.mem_append_right _ (List.mem_cons_self ..)
  refine ⟨[.inr none, .inr none], Bt_m B1 q1, (B1.2.1 _ q1).1, (B1.2.1 _ q1).2, by decide, ?_⟩
  intro V17 e17
  have B2 : Bt V0 (ds ++ (n0, b0, .inl (6, [.inr (some b10), .inr none])) :: [(n1, b10, .inr (0, r + 1, gno))]) V17 := by
    rw [e17]; exact Bt_de B1 d0 (by simpa using fun e => e01 e.symm)
  have n2f : n2 ∉ (ds ++ (n0, b0, (.inl (6, [.inr (some b10), .inr none]) : gD)) :: [(n1, b10, .inr (0, r + 1, gno))]).map (fun q => q.1) := by rw [List.map_append, List.mem_append, not_or]; exact ⟨d2, by simpa using ⟨e02, e12⟩⟩
  refine ⟨r, Bt_f B2 h2 n2f, nI_pos (by omega), nI_clamp (by omega), by omega, by omega, by omega, ?_⟩
  intro b27 V26 e26 I28 e28
  have B3 : Bt V0 (ds ++ (n0, b0, .inl (6, [.inr (some b10), .inr none])) :: [(n1, b10, .inr (0, r + 1, gno)), (n2, b27, .inr (0, r, gno))]) V26 := by
    have := Bt_add (a := b27) (d := .inr (0, r, gno)) B2 n2f
    rw [List.append_assoc] at this
    rw [e26]; exact this
  have q3 : (n0, b0, (.inl (6, [.inr (some b10), .inr none]) : gD)) ∈ ds ++ (n0, b0, .inl (6, [.inr (some b10), .inr none])) :: [(n1, b10, .inr (0, r + 1, gno)), (n2, b27, .inr (0, r, gno))] := List.mem_append_right _ (List.mem_cons_self ..)
  refine ⟨[.inr (some b10), .inr none], Bt_m B3 q3, (B3.2.1 _ q3).1, (B3.2.1 _ q3).2, Nat.le_refl _, ?_⟩
  intro V34 e34
  refine hPo V34 I28 b10 b27 ?_ (fun k hk => ?_)
  · rw [e34]; exact Bt_de B3 d0 (by simpa using ⟨fun e => e01 e.symm, fun e => e02 e.symm⟩)
  · simp only [List.mem_cons, List.not_mem_nil, or_false, not_or] at hk
    rw [e28, guc_o hk.2, e11, guc_o hk.1]
theorem s_X7 {mc ms n0 n1 n2 b0 r : Nat} {V0 V : gV} {ds : List (Nat × Nat × gD)} {I : gI} {J : gL} {Po : gV → gI → gL → Prop} (hr : r ≤ 4096) (hc : 2 ≤ mc) (hs : 2 * r ≤ ms) (B : Bt V0 (ds ++ [(n0, b0, .inl (7, [.inr none, .inr none, .inl 0]))]) V) (d0 : n0 ∉ ds.map (fun q => q.1)) (d1 : n1 ∉ ds.map (fun q => q.1)) (d2 : n2 ∉ ds.map (fun q => q.1)) (e01 : n1 ≠ n0) (e02 : n2 ≠ n0) (e12 : n2 ≠ n1) (h1 : n1 ∉ V0.1) (h2 : n2 ∉ V0.1) (hPo : ∀ V' I' J' a1 a2, Bt V0 (ds ++ [(n0, b0, .inl (7, [.inr (some a1), .inr (some a2), .inl 0])), (n1, a1, .inr (1, r, gno)), (n2, a2, .inr (0, r, gno))]) V' → gSm [n0, n2] I I' → I' n0 2 = 0 → gJm [n1] J J' → J' n1 = (fun _ => 0) → Po V' I' J') : wA_X7_init mc ms n0 n1 n2 b0 (nI r) V I J Po := by
  unfold wA_X7_init
  have q0 : (n0, b0, (.inl (7, [.inr none, .inr none, .inl 0]) : gD)) ∈ ds ++ [(n0, b0, .inl (7, [.inr none, .inr none, .inl 0]))] := List.mem_append_right _ (List.mem_cons_self ..)
  refine ⟨[.inr none, .inr none, .inl 0], Bt_m B q0, (B.2.1 _ q0).1, (B.2.1 _ q0).2, rfl, ?_⟩
  intro I6 e6
  have n1f : n1 ∉ (ds ++ [(n0, b0, (.inl (7, [.inr none, .inr none, .inl 0]) : gD))]).map (fun q => q.1) := by rw [List.map_append, List.mem_append, not_or]; exact ⟨d1, by simpa using e01⟩
  refine ⟨r, Bt_f B h1 n1f, nI_pos (by omega), nI_clamp (by omega), by omega, by omega, by omega, ?_⟩
  intro b10 V9 e9 J17 e17j
  have B1 : Bt V0 (ds ++ (n0, b0, .inl (7, [.inr none, .inr none, .inl 0])) :: [(n1, b10, .inr (1, r, gno))]) V9 := by
    have := Bt_add (a := b10) (d := .inr (1, r, gno)) B n1f
    rw [List.append_assoc] at this
    rw [e9]; exact this
  have q1 : (n0, b0, (.inl (7, [.inr none, .inr none, .inl 0]) : gD)) ∈ ds ++ (n0, b0, .inl (7, [.inr none, .inr none, .inl 0])) :: [(n1, b10, .inr (1, r, gno))] := List.mem_append_right _ (List.mem_cons_self ..)
  refine ⟨[.inr none, .inr none, .inl 0], Bt_m B1 q1, (B1.2.1 _ q1).1, (B1.2.1 _ q1).2, by decide, ?_⟩
  intro V17 e17
  have B2 : Bt V0 (ds ++ (n0, b0, .inl (7, [.inr (some b10), .inr none, .inl 0])) :: [(n1, b10, .inr (1, r, gno))]) V17 := by
    rw [e17]; exact Bt_de B1 d0 (by simpa using fun e => e01 e.symm)
  have n2f : n2 ∉ (ds ++ (n0, b0, (.inl (7, [.inr (some b10), .inr none, .inl 0]) : gD)) :: [(n1, b10, .inr (1, r, gno))]).map (fun q => q.1) := by rw [List.map_append, List.mem_append, not_or]; exact ⟨d2, by simpa using ⟨e02, e12⟩⟩
  refine ⟨r, Bt_f B2 h2 n2f, nI_pos (by omega), nI_clamp (by omega), by omega, by omega, by omega, ?_⟩
  intro b27 V26 e26 I28 e28
  have B3 : Bt V0 (ds ++ (n0, b0, .inl (7, [.inr (some b10), .inr none, .inl 0])) :: [(n1, b10, .inr (1, r, gno)), (n2, b27, .inr (0, r, gno))]) V26 := by
    have := Bt_add (a := b27) (d := .inr (0, r, gno)) B2 n2f
    rw [List.append_assoc] at this
    rw [e26]; exact this
  have q3 : (n0, b0, (.inl (7, [.inr (some b10), .inr none, .inl 0]) : gD)) ∈ ds ++ (n0, b0, .inl (7, [.inr (some b10), .inr none, .inl 0])) :: [(n1, b10, .inr (1, r, gno)), (n2, b27, .inr (0, r, gno))] := List.mem_append_right _ (List.mem_cons_self ..)
  refine ⟨[.inr (some b10), .inr none, .inl 0], Bt_m B3 q3, (B3.2.1 _ q3).1, (B3.2.1 _ q3).2, Nat.le_of_ble_eq_true rfl, ?_⟩
  intro V34 e34
  refine hPo V34 I28 J17 b10 b27 ?_ (fun k hk => ?_) ?_ (fun k hk => ?_) (by rw [e17j, guc_s])
  · rw [e34]; exact Bt_de B3 d0 (by simpa using ⟨fun e => e01 e.symm, fun e => e02 e.symm⟩)
  · simp only [List.mem_cons, List.not_mem_nil, or_false, not_or] at hk
    rw [e28, guc_o hk.2, e6, gup_o hk.1]
  · rw [e28, guc_o (fun e => e02 e.symm), e6, gup_at]
  · rw [e17j, guc_o (by simpa using hk)]
/-- the room that is made for X rows -/
def rmF (X : Nat) : Nat := 64 * 2 ^ lf (fun k => decide (X ≤ 64 * 2 ^ k)) 6
theorem rmF_b (X : Nat) : 64 ≤ rmF X ∧ rmF X ≤ 4096 ∧ ∃ k, k ≤ 6 ∧ rmF X = 64 * 2 ^ k := by
  have h := lf_le (q := fun k => decide (X ≤ 64 * 2 ^ k)) 6
  have h1 : 2 ^ lf (fun k => decide (X ≤ 64 * 2 ^ k)) 6 ≤ 2 ^ 6 := Nat.pow_le_pow_right (by decide) h
  have h2 : 0 < 2 ^ lf (fun k => decide (X ≤ 64 * 2 ^ k)) 6 := Nat.pow_pos (by decide)
  unfold rmF
  exact ⟨by omega, by omega, _, h, rfl⟩
theorem rmF_x {X : Nat} (hX : X ≤ 4096) : X ≤ rmF X := by
  have h := lf_le (q := fun k => decide (X ≤ 64 * 2 ^ k)) 6
  unfold rmF
  rcases Nat.lt_or_ge (lf (fun k => decide (X ≤ 64 * 2 ^ k)) 6) 6 with z | z
  · exact of_decide_eq_true ((lf_sp (q := fun k => decide (X ≤ 64 * 2 ^ k)) 6).2 z)
  · rw [show lf (fun k => decide (X ≤ 64 * 2 ^ k)) 6 = 6 by omega]; exact hX
/-- made anew, it is at least twice as large -/
theorem rmF_2 {X k : Nat} (hk : k ≤ 6) (hX : X ≤ 4096) (h : 64 * 2 ^ k < X) : 2 * (64 * 2 ^ k) ≤ rmF X := by
  have hx := rmF_x hX
  obtain ⟨_, _, j, hj, e⟩ := rmF_b X
  rw [e] at hx ⊢
  have hlt : k < j := by
    rcases Nat.lt_or_ge k j with z | z
    · exact z
    · have : 2 ^ j ≤ 2 ^ k := Nat.pow_le_pow_right (by decide) z
      omega
  have : 2 ^ (k + 1) ≤ 2 ^ j := Nat.pow_le_pow_right (by decide) hlt
  rw [Nat.pow_succ] at this
  omega
theorem p_roomFor {X : Nat} (hX : X ≤ 4096) {Po : Int32 → Prop} (hk : Po (nI (rmF X))) : wp_X5_roomFor (nI X) Po := by
  unfold wp_X5_roomFor w_X5_roomFor_3
  refine gr1 (m0 := 6) (fun K v => w_X5_roomFor_3b Po K (nI X) v) (fun m v => ∃ k, k ≤ 6 ∧ m = 6 - k ∧ v = nI (64 * 2 ^ k) ∧ ∀ k', k' < k → ¬ X ≤ 64 * 2 ^ k') ⟨0, by decide, rfl, rfl, fun k' h => absurd h (by omega)⟩ ?_
  rintro m _ ⟨k, hk6, rfl, rfl, hno⟩ K kk
  have h2 : 2 ^ k ≤ 2 ^ 6 := Nat.pow_le_pow_right (by decide) hk6
  unfold w_X5_roomFor_3b
  refine pk_le X (64 * 2 ^ k) (fun hz => ?_) (fun hz => ?_) rfl rfl
  · have e : rmF X = 64 * 2 ^ k := by
      unfold rmF
      by_cases c : k < 6
      · rw [lf_at (q := fun k => decide (X ≤ 64 * 2 ^ k)) c (decide_eq_true hz) (fun y hy => decide_eq_false (hno y hy))]
      · rw [lf_no (q := fun k => decide (X ≤ 64 * 2 ^ k)) (fun y hy => decide_eq_false (hno y (by omega))), show k = 6 by omega]
    rw [← e]; exact hk
  · have hk5 : k < 6 := by
      rcases Nat.lt_or_ge k 6 with z | z
      · exact z
      · rw [show k = 6 by omega] at hz
        have : 64 * 2 ^ 6 = 4096 := rfl
        omega
    have h3 : 2 ^ k ≤ 2 ^ 5 := Nat.pow_le_pow_right (by decide) (by omega)
    refine pk_le 4096 (64 * 2 ^ k) (fun hz2 => ?_) (fun hz2 => ?_) rfl rfl
    · omega
    · rw [i_2, pk_mul, Nat.mul_assoc, ← Nat.pow_succ]
      intro n3 e3
      subst e3
      refine kk (6 - (k + 1)) _ (by omega) ⟨k + 1, by omega, rfl, rfl, fun k' hk' => ?_⟩
      by_cases e : k' = k
      · rw [e]; omega
      · exact hno k' (by omega)
abbrev lRG : List Nat := [70, 71, 72, 73, 74, 75, 76, 77, 78, 79, 80, 81, 82, 83, 84, 85, 86, 87, 88, 89, 90, 91, 92, 93]
/-- the cells of the first j tallies, in order -/
def tk : Nat → List Nat
  | 0 => []
  | j + 1 => tk j ++ [82 + j, 86 + j, 90 + j]
theorem tk_m {k : Nat} : ∀ {j : Nat}, k ∈ tk j → (82 ≤ k ∧ k < 82 + j) ∨ (86 ≤ k ∧ k < 86 + j) ∨ (90 ≤ k ∧ k < 90 + j)
  | 0, h => absurd h (by simp [tk])
  | j + 1, h => by
    have h : k ∈ tk j ++ [82 + j, 86 + j, 90 + j] := h
    rcases List.mem_append.mp h with h | h
    · have := tk_m h; omega
    · simp only [List.mem_cons, List.not_mem_nil, or_false] at h; omega
