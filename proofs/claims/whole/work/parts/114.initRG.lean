theorem app4 {α : Type} (A P T M : List α) (x : α) : (A ++ x :: (P ++ T)) ++ M = A ++ x :: (P ++ (T ++ M)) := by simp
theorem gq6 {α β γ δ ε : Type} {N : Nat} {a0 : α} {b0 : β} {c0 : γ} {d0 : δ} {e0 : ε} (B : (Int32 → α → β → γ → δ → ε → Prop) → Int32 → α → β → γ → δ → ε → Prop) (Q : Nat → α → β → γ → δ → ε → Prop) (hN : N < 2147483648) (h0 : Q 0 a0 b0 c0 d0 e0) (st : ∀ i a b c d e, i ≤ N → Q i a b c d e → ∀ K : Int32 → α → β → γ → δ → ε → Prop, (i < N → ∀ a' b' c' d' e', Q (i + 1) a' b' c' d' e' → K (nI (i + 1)) a' b' c' d' e') → B K (nI i) a b c d e) : ∃ (Inv : Int32 → α → β → γ → δ → ε → Prop) (mu : Int32 → α → β → γ → δ → ε → Nat), Inv 0 a0 b0 c0 d0 e0 ∧ ∀ v a b c d e, Inv v a b c d e → B (fun u a1 b1 c1 d1 e1 => Inv u a1 b1 c1 d1 e1 ∧ mu u a1 b1 c1 d1 e1 < mu v a b c d e) v a b c d e := by
  refine ⟨fun v a b c d e => ∃ i, i ≤ N ∧ v = nI i ∧ Q i a b c d e, fun v _ _ _ _ _ => N - v.toNatClampNeg, ⟨0, Nat.zero_le _, rfl, h0⟩, ?_⟩
  rintro _ a b c d e ⟨i, hi, rfl, hq⟩
  refine st i a b c d e hi hq _ (fun hlt a' b' c' d' e' hq' => ⟨⟨i + 1, by omega, rfl, hq'⟩, ?_⟩)
  show N - (nI (i + 1)).toNatClampNeg < N - (nI i).toNatClampNeg
  rw [nI_clamp (by omega), nI_clamp (by omega)]
  omega
/-! the RowGraph's constructor -/
set_option maxRecDepth 100000 in
set_option maxHeartbeats 4000000 in
theorem s_X5_init {mc ms b0 b1 X : Nat} {V0 V : gV} {I : gI} {J : gL} {Po : gV → gI → gL → Prop} (hX : X ≤ 4096) (hc : 23 ≤ mc) (hs : 15 * rmF X + 32 ≤ ms) (B0 : Bt V0 [(70, b0, .inl (5, [.inl 0, .inr none, .inr none, .inr none, .inr none, .inr none, .inr none, .inr none, .inr none, .inl 0, .inl 0, .inl 0, .inl 0, .inl 0]))] V) (hb1 : V0.2.1 10 = b1) (hf : ∀ k, 70 ≤ k → k ≤ 93 → k ∉ V0.1) (hPo : ∀ V' I' J', V'.1 = V0.1 ++ ([70, 71, 81, 72, 73, 74, 75, 76, 77, 78, 79, 80] ++ tk 4) → gModRG (rmF X) V' → V'.2.1 70 = b0 → (∀ k, k < 70 ∨ 93 < k → V'.2.1 k = V0.2.1 k ∧ V'.2.2 k = V0.2.2 k) → gSm lRG I I' → gJm lRG J J' → I' 70 0 = nI (rmF X) → Tls (rmF X) (fun _ _ => 0) I' J' → Po V' I' J') : wA_X5_init mc ms b0 b1 (nI X) V I J Po := by
  obtain ⟨hr1, hr2, _⟩ := rmF_b X
  have hrX := rmF_x hX
  generalize hrm : rmF X = r at *
  unfold wA_X5_init
  refine ⟨10, Bt_f B0 (hf 71 (by decide) (by decide)) (by simp), by decide, by decide, by omega, by omega, by omega, ?_⟩
  intro q71 Va0 ea0 I1 eI1
  have Ba0 : Bt V0 [(70, b0, .inl (5, [.inl 0, .inr none, .inr none, .inr none, .inr none, .inr none, .inr none, .inr none, .inr none, .inl 0, .inl 0, .inl 0, .inl 0, .inl 0])), (71, q71, .inr (0, 10, gno))] Va0 := by rw [ea0]; exact Bt_add B0 (by simp)
  refine ⟨[.inl 0, .inr none, .inr none, .inr none, .inr none, .inr none, .inr none, .inr none, .inr none, .inl 0, .inl 0, .inl 0, .inl 0, .inl 0], Bt_m Ba0 (List.mem_of_getElem? (i := 0) rfl), (Ba0.2.1 _ (List.mem_of_getElem? (i := 0) rfl)).1, (Ba0.2.1 _ (List.mem_of_getElem? (i := 0) rfl)).2, Nat.le_of_ble_eq_true rfl, ?_⟩
  intro V1 ev1
  have B1 : Bt V0 [(70, b0, .inl (5, [.inl 0, .inr none, .inr (some q71), .inr none, .inr none, .inr none, .inr none, .inr none, .inr none, .inl 0, .inl 0, .inl 0, .inl 0, .inl 0])), (71, q71, .inr (0, 10, gno))] V1 := by rw [ev1]; exact Bt_de (ds1 := []) Ba0 (by simp) (by simp)
  refine ⟨4, Bt_f B1 (hf 81 (by decide) (by decide)) (by simp), by decide, by decide, by omega, by omega, by omega, ?_⟩
  intro q81 Va1 ea1
  have Ba1 : Bt V0 [(70, b0, .inl (5, [.inl 0, .inr none, .inr (some q71), .inr none, .inr none, .inr none, .inr none, .inr none, .inr none, .inl 0, .inl 0, .inl 0, .inl 0, .inl 0])), (71, q71, .inr (0, 10, gno)), (81, q81, .inr (5, 4, gno))] Va1 := by rw [ea1]; exact Bt_add B1 (by simp)
  refine ⟨[.inl 0, .inr none, .inr (some q71), .inr none, .inr none, .inr none, .inr none, .inr none, .inr none, .inl 0, .inl 0, .inl 0, .inl 0, .inl 0], Bt_m Ba1 (List.mem_of_getElem? (i := 0) rfl), (Ba1.2.1 _ (List.mem_of_getElem? (i := 0) rfl)).1, (Ba1.2.1 _ (List.mem_of_getElem? (i := 0) rfl)).2, Nat.le_of_ble_eq_true rfl, ?_⟩
  intro V2 ev2
  have B2 : Bt V0 [(70, b0, .inl (5, [.inl 0, .inr none, .inr (some q71), .inr none, .inr none, .inr none, .inr none, .inr none, .inr (some q81), .inl 0, .inl 0, .inl 0, .inl 0, .inl 0])), (71, q71, .inr (0, 10, gno)), (81, q81, .inr (5, 4, gno))] V2 := by rw [ev2]; exact Bt_de (ds1 := []) Ba1 (by simp) (by simp)
  refine ⟨[.inl 0, .inr none, .inr (some q71), .inr none, .inr none, .inr none, .inr none, .inr none, .inr (some q81), .inl 0, .inl 0, .inl 0, .inl 0, .inl 0], Bt_m B2 (List.mem_of_getElem? (i := 0) rfl), (B2.2.1 _ (List.mem_of_getElem? (i := 0) rfl)).1, (B2.2.1 _ (List.mem_of_getElem? (i := 0) rfl)).2, rfl, ?_⟩
  intro I2 eI2
  refine ⟨[.inl 0, .inr none, .inr (some q71), .inr none, .inr none, .inr none, .inr none, .inr none, .inr (some q81), .inl 0, .inl 0, .inl 0, .inl 0, .inl 0], Bt_m B2 (List.mem_of_getElem? (i := 0) rfl), (B2.2.1 _ (List.mem_of_getElem? (i := 0) rfl)).1, (B2.2.1 _ (List.mem_of_getElem? (i := 0) rfl)).2, rfl, ?_⟩
  intro I3 eI3
  refine ⟨[.inl 0, .inr none, .inr (some q71), .inr none, .inr none, .inr none, .inr none, .inr none, .inr (some q81), .inl 0, .inl 0, .inl 0, .inl 0, .inl 0], Bt_m B2 (List.mem_of_getElem? (i := 0) rfl), (B2.2.1 _ (List.mem_of_getElem? (i := 0) rfl)).1, (B2.2.1 _ (List.mem_of_getElem? (i := 0) rfl)).2, rfl, ?_⟩
  intro I4 eI4
  refine ⟨[.inl 0, .inr none, .inr (some q71), .inr none, .inr none, .inr none, .inr none, .inr none, .inr (some q81), .inl 0, .inl 0, .inl 0, .inl 0, .inl 0], Bt_m B2 (List.mem_of_getElem? (i := 0) rfl), (B2.2.1 _ (List.mem_of_getElem? (i := 0) rfl)).1, (B2.2.1 _ (List.mem_of_getElem? (i := 0) rfl)).2, rfl, ?_⟩
  intro I5 eI5
  refine ⟨[.inl 0, .inr none, .inr (some q71), .inr none, .inr none, .inr none, .inr none, .inr none, .inr (some q81), .inl 0, .inl 0, .inl 0, .inl 0, .inl 0], Bt_m B2 (List.mem_of_getElem? (i := 0) rfl), (B2.2.1 _ (List.mem_of_getElem? (i := 0) rfl)).1, (B2.2.1 _ (List.mem_of_getElem? (i := 0) rfl)).2, rfl, ?_⟩
  intro I6 eI6
  refine ⟨[.inl 0, .inr none, .inr (some q71), .inr none, .inr none, .inr none, .inr none, .inr none, .inr (some q81), .inl 0, .inl 0, .inl 0, .inl 0, .inl 0], Bt_m B2 (List.mem_of_getElem? (i := 0) rfl), (B2.2.1 _ (List.mem_of_getElem? (i := 0) rfl)).1, (B2.2.1 _ (List.mem_of_getElem? (i := 0) rfl)).2, Nat.le_of_ble_eq_true rfl, ?_⟩
  intro V3 ev3
  have B3 : Bt V0 [(70, b0, .inl (5, [.inl 0, .inr (some b1), .inr (some q71), .inr none, .inr none, .inr none, .inr none, .inr none, .inr (some q81), .inl 0, .inl 0, .inl 0, .inl 0, .inl 0])), (71, q71, .inr (0, 10, gno)), (81, q81, .inr (5, 4, gno))] V3 := by rw [ev3]; exact Bt_de (ds1 := []) B2 (by simp) (by simp)
  refine p_roomFor hX ?_
  rw [hrm]
  refine ⟨[.inl 0, .inr (some b1), .inr (some q71), .inr none, .inr none, .inr none, .inr none, .inr none, .inr (some q81), .inl 0, .inl 0, .inl 0, .inl 0, .inl 0], Bt_m B3 (List.mem_of_getElem? (i := 0) rfl), (B3.2.1 _ (List.mem_of_getElem? (i := 0) rfl)).1, (B3.2.1 _ (List.mem_of_getElem? (i := 0) rfl)).2, rfl, ?_⟩
  intro I7 eI7
  have r7 : I7 70 0 = nI r := by rw [eI7, gup_at]
  refine ⟨[.inl 0, .inr (some b1), .inr (some q71), .inr none, .inr none, .inr none, .inr none, .inr none, .inr (some q81), .inl 0, .inl 0, .inl 0, .inl 0, .inl 0], Bt_m B3 (List.mem_of_getElem? (i := 0) rfl), (B3.2.1 _ (List.mem_of_getElem? (i := 0) rfl)).1, (B3.2.1 _ (List.mem_of_getElem? (i := 0) rfl)).2, rfl, ?_⟩
  rw [r7]
  refine ⟨r, Bt_f B3 (hf 72 (by decide) (by decide)) (by simp), nI_pos (by omega), nI_clamp (by omega), by omega, by omega, by omega, ?_⟩
  intro q72 Va3 ea3 I8 eI8
  have Ba3 : Bt V0 [(70, b0, .inl (5, [.inl 0, .inr (some b1), .inr (some q71), .inr none, .inr none, .inr none, .inr none, .inr none, .inr (some q81), .inl 0, .inl 0, .inl 0, .inl 0, .inl 0])), (71, q71, .inr (0, 10, gno)), (81, q81, .inr (5, 4, gno)), (72, q72, .inr (0, r, gno))] Va3 := by rw [ea3]; exact Bt_add B3 (by simp)
  refine ⟨[.inl 0, .inr (some b1), .inr (some q71), .inr none, .inr none, .inr none, .inr none, .inr none, .inr (some q81), .inl 0, .inl 0, .inl 0, .inl 0, .inl 0], Bt_m Ba3 (List.mem_of_getElem? (i := 0) rfl), (Ba3.2.1 _ (List.mem_of_getElem? (i := 0) rfl)).1, (Ba3.2.1 _ (List.mem_of_getElem? (i := 0) rfl)).2, Nat.le_of_ble_eq_true rfl, ?_⟩
  intro V4 ev4
  have B4 : Bt V0 [(70, b0, .inl (5, [.inl 0, .inr (some b1), .inr (some q71), .inr (some q72), .inr none, .inr none, .inr none, .inr none, .inr (some q81), .inl 0, .inl 0, .inl 0, .inl 0, .inl 0])), (71, q71, .inr (0, 10, gno)), (81, q81, .inr (5, 4, gno)), (72, q72, .inr (0, r, gno))] V4 := by rw [ev4]; exact Bt_de (ds1 := []) Ba3 (by simp) (by simp)
  have r8 : I8 70 0 = nI r := by rw [eI8, guc_o (by decide)]; exact r7
  refine ⟨[.inl 0, .inr (some b1), .inr (some q71), .inr (some q72), .inr none, .inr none, .inr none, .inr none, .inr (some q81), .inl 0, .inl 0, .inl 0, .inl 0, .inl 0], Bt_m B4 (List.mem_of_getElem? (i := 0) rfl), (B4.2.1 _ (List.mem_of_getElem? (i := 0) rfl)).1, (B4.2.1 _ (List.mem_of_getElem? (i := 0) rfl)).2, rfl, ?_⟩
  rw [r8]
  refine ⟨r, Bt_f B4 (hf 73 (by decide) (by decide)) (by simp), nI_pos (by omega), nI_clamp (by omega), by omega, by omega, by omega, ?_⟩
  intro q73 Va4 ea4 I9 eI9
  have Ba4 : Bt V0 [(70, b0, .inl (5, [.inl 0, .inr (some b1), .inr (some q71), .inr (some q72), .inr none, .inr none, .inr none, .inr none, .inr (some q81), .inl 0, .inl 0, .inl 0, .inl 0, .inl 0])), (71, q71, .inr (0, 10, gno)), (81, q81, .inr (5, 4, gno)), (72, q72, .inr (0, r, gno)), (73, q73, .inr (0, r, gno))] Va4 := by rw [ea4]; exact Bt_add B4 (by simp)
  refine ⟨[.inl 0, .inr (some b1), .inr (some q71), .inr (some q72), .inr none, .inr none, .inr none, .inr none, .inr (some q81), .inl 0, .inl 0, .inl 0, .inl 0, .inl 0], Bt_m Ba4 (List.mem_of_getElem? (i := 0) rfl), (Ba4.2.1 _ (List.mem_of_getElem? (i := 0) rfl)).1, (Ba4.2.1 _ (List.mem_of_getElem? (i := 0) rfl)).2, Nat.le_of_ble_eq_true rfl, ?_⟩
  intro V5 ev5
  have B5 : Bt V0 [(70, b0, .inl (5, [.inl 0, .inr (some b1), .inr (some q71), .inr (some q72), .inr (some q73), .inr none, .inr none, .inr none, .inr (some q81), .inl 0, .inl 0, .inl 0, .inl 0, .inl 0])), (71, q71, .inr (0, 10, gno)), (81, q81, .inr (5, 4, gno)), (72, q72, .inr (0, r, gno)), (73, q73, .inr (0, r, gno))] V5 := by rw [ev5]; exact Bt_de (ds1 := []) Ba4 (by simp) (by simp)
  have r9 : I9 70 0 = nI r := by rw [eI9, guc_o (by decide)]; exact r8
  refine ⟨[.inl 0, .inr (some b1), .inr (some q71), .inr (some q72), .inr (some q73), .inr none, .inr none, .inr none, .inr (some q81), .inl 0, .inl 0, .inl 0, .inl 0, .inl 0], Bt_m B5 (List.mem_of_getElem? (i := 0) rfl), (B5.2.1 _ (List.mem_of_getElem? (i := 0) rfl)).1, (B5.2.1 _ (List.mem_of_getElem? (i := 0) rfl)).2, rfl, ?_⟩
  rw [r9]
  refine ⟨r, Bt_f B5 (hf 74 (by decide) (by decide)) (by simp), nI_pos (by omega), nI_clamp (by omega), by omega, by omega, by omega, ?_⟩
  intro q74 Va5 ea5 I10 eI10
  have Ba5 : Bt V0 [(70, b0, .inl (5, [.inl 0, .inr (some b1), .inr (some q71), .inr (some q72), .inr (some q73), .inr none, .inr none, .inr none, .inr (some q81), .inl 0, .inl 0, .inl 0, .inl 0, .inl 0])), (71, q71, .inr (0, 10, gno)), (81, q81, .inr (5, 4, gno)), (72, q72, .inr (0, r, gno)), (73, q73, .inr (0, r, gno)), (74, q74, .inr (0, r, gno))] Va5 := by rw [ea5]; exact Bt_add B5 (by simp)
  refine ⟨[.inl 0, .inr (some b1), .inr (some q71), .inr (some q72), .inr (some q73), .inr none, .inr none, .inr none, .inr (some q81), .inl 0, .inl 0, .inl 0, .inl 0, .inl 0], Bt_m Ba5 (List.mem_of_getElem? (i := 0) rfl), (Ba5.2.1 _ (List.mem_of_getElem? (i := 0) rfl)).1, (Ba5.2.1 _ (List.mem_of_getElem? (i := 0) rfl)).2, Nat.le_of_ble_eq_true rfl, ?_⟩
  intro V6 ev6
  have B6 : Bt V0 [(70, b0, .inl (5, [.inl 0, .inr (some b1), .inr (some q71), .inr (some q72), .inr (some q73), .inr (some q74), .inr none, .inr none, .inr (some q81), .inl 0, .inl 0, .inl 0, .inl 0, .inl 0])), (71, q71, .inr (0, 10, gno)), (81, q81, .inr (5, 4, gno)), (72, q72, .inr (0, r, gno)), (73, q73, .inr (0, r, gno)), (74, q74, .inr (0, r, gno))] V6 := by rw [ev6]; exact Bt_de (ds1 := []) Ba5 (by simp) (by simp)
  have r10 : I10 70 0 = nI r := by rw [eI10, guc_o (by decide)]; exact r9
  refine ⟨Bt_f B6 (hf 75 (by decide) (by decide)) (by simp), by omega, by omega, ?_⟩
  intro q75 Va6 ea6 I11 J11 eI11 eJ11
  have r11 : I11 70 0 = nI r := by rw [eI11, guc_o (by decide)]; exact r10
  have Ba6 : Bt V0 [(70, b0, .inl (5, [.inl 0, .inr (some b1), .inr (some q71), .inr (some q72), .inr (some q73), .inr (some q74), .inr none, .inr none, .inr (some q81), .inl 0, .inl 0, .inl 0, .inl 0, .inl 0])), (71, q71, .inr (0, 10, gno)), (81, q81, .inr (5, 4, gno)), (72, q72, .inr (0, r, gno)), (73, q73, .inr (0, r, gno)), (74, q74, .inr (0, r, gno)), (75, q75, .inl (6, [.inr none, .inr none]))] Va6 := by rw [ea6]; exact Bt_add B6 (by simp)
  refine ⟨[.inl 0, .inr (some b1), .inr (some q71), .inr (some q72), .inr (some q73), .inr (some q74), .inr none, .inr none, .inr (some q81), .inl 0, .inl 0, .inl 0, .inl 0, .inl 0], Bt_m Ba6 (List.mem_of_getElem? (i := 0) rfl), (Ba6.2.1 _ (List.mem_of_getElem? (i := 0) rfl)).1, (Ba6.2.1 _ (List.mem_of_getElem? (i := 0) rfl)).2, rfl, 2, 2 * r + 1, by omega, by omega, ?_⟩
  rw [r11]
  refine s_X6 (ds := [(70, b0, .inl (5, [.inl 0, .inr (some b1), .inr (some q71), .inr (some q72), .inr (some q73), .inr (some q74), .inr none, .inr none, .inr (some q81), .inl 0, .inl 0, .inl 0, .inl 0, .inl 0])), (71, q71, .inr (0, 10, gno)), (81, q81, .inr (5, 4, gno)), (72, q72, .inr (0, r, gno)), (73, q73, .inr (0, r, gno)), (74, q74, .inr (0, r, gno))]) hr2 (Nat.le_refl _) (Nat.le_refl _) Ba6 (by simp) (by simp) (by simp) (by decide) (by decide) (by decide) (hf 76 (by decide) (by decide)) (hf 77 (by decide) (by decide)) (fun Vb6 I12 q76 q77 Bb6 sm12 => ?_)
  have r12 : I12 70 0 = nI r := by rw [sm12 70 (by decide)]; exact r11
  refine ⟨[.inl 0, .inr (some b1), .inr (some q71), .inr (some q72), .inr (some q73), .inr (some q74), .inr none, .inr none, .inr (some q81), .inl 0, .inl 0, .inl 0, .inl 0, .inl 0], Bt_m Bb6 (List.mem_of_getElem? (i := 0) rfl), (Bb6.2.1 _ (List.mem_of_getElem? (i := 0) rfl)).1, (Bb6.2.1 _ (List.mem_of_getElem? (i := 0) rfl)).2, Nat.le_of_ble_eq_true rfl, ?_⟩
  intro V7 ev7
  have B7 : Bt V0 [(70, b0, .inl (5, [.inl 0, .inr (some b1), .inr (some q71), .inr (some q72), .inr (some q73), .inr (some q74), .inr (some q75), .inr none, .inr (some q81), .inl 0, .inl 0, .inl 0, .inl 0, .inl 0])), (71, q71, .inr (0, 10, gno)), (81, q81, .inr (5, 4, gno)), (72, q72, .inr (0, r, gno)), (73, q73, .inr (0, r, gno)), (74, q74, .inr (0, r, gno)), (75, q75, .inl (6, [.inr (some q76), .inr (some q77)])), (76, q76, .inr (0, r + 1, gno)), (77, q77, .inr (0, r, gno))] V7 := by rw [ev7]; exact Bt_de (ds1 := []) Bb6 (by simp) (by simp)
  refine ⟨Bt_f B7 (hf 78 (by decide) (by decide)) (by simp), by omega, by omega, ?_⟩
  intro q78 Va7 ea7 I13 J13 eI13 eJ13
  have r13 : I13 70 0 = nI r := by rw [eI13, guc_o (by decide)]; exact r12
  have Ba7 : Bt V0 [(70, b0, .inl (5, [.inl 0, .inr (some b1), .inr (some q71), .inr (some q72), .inr (some q73), .inr (some q74), .inr (some q75), .inr none, .inr (some q81), .inl 0, .inl 0, .inl 0, .inl 0, .inl 0])), (71, q71, .inr (0, 10, gno)), (81, q81, .inr (5, 4, gno)), (72, q72, .inr (0, r, gno)), (73, q73, .inr (0, r, gno)), (74, q74, .inr (0, r, gno)), (75, q75, .inl (6, [.inr (some q76), .inr (some q77)])), (76, q76, .inr (0, r + 1, gno)), (77, q77, .inr (0, r, gno)), (78, q78, .inl (6, [.inr none, .inr none]))] Va7 := by rw [ea7]; exact Bt_add B7 (by simp)
  refine ⟨[.inl 0, .inr (some b1), .inr (some q71), .inr (some q72), .inr (some q73), .inr (some q74), .inr (some q75), .inr none, .inr (some q81), .inl 0, .inl 0, .inl 0, .inl 0, .inl 0], Bt_m Ba7 (List.mem_of_getElem? (i := 0) rfl), (Ba7.2.1 _ (List.mem_of_getElem? (i := 0) rfl)).1, (Ba7.2.1 _ (List.mem_of_getElem? (i := 0) rfl)).2, rfl, 2, 2 * r + 1, by omega, by omega, ?_⟩
  rw [r13]
  refine s_X6 (ds := [(70, b0, .inl (5, [.inl 0, .inr (some b1), .inr (some q71), .inr (some q72), .inr (some q73), .inr (some q74), .inr (some q75), .inr none, .inr (some q81), .inl 0, .inl 0, .inl 0, .inl 0, .inl 0])), (71, q71, .inr (0, 10, gno)), (81, q81, .inr (5, 4, gno)), (72, q72, .inr (0, r, gno)), (73, q73, .inr (0, r, gno)), (74, q74, .inr (0, r, gno)), (75, q75, .inl (6, [.inr (some q76), .inr (some q77)])), (76, q76, .inr (0, r + 1, gno)), (77, q77, .inr (0, r, gno))]) hr2 (Nat.le_refl _) (Nat.le_refl _) Ba7 (by simp) (by simp) (by simp) (by decide) (by decide) (by decide) (hf 79 (by decide) (by decide)) (hf 80 (by decide) (by decide)) (fun Vb7 I14 q79 q80 Bb7 sm14 => ?_)
  have r14 : I14 70 0 = nI r := by rw [sm14 70 (by decide)]; exact r13
  refine ⟨[.inl 0, .inr (some b1), .inr (some q71), .inr (some q72), .inr (some q73), .inr (some q74), .inr (some q75), .inr none, .inr (some q81), .inl 0, .inl 0, .inl 0, .inl 0, .inl 0], Bt_m Bb7 (List.mem_of_getElem? (i := 0) rfl), (Bb7.2.1 _ (List.mem_of_getElem? (i := 0) rfl)).1, (Bb7.2.1 _ (List.mem_of_getElem? (i := 0) rfl)).2, Nat.le_of_ble_eq_true rfl, ?_⟩
  intro V8 ev8
  have B8 : Bt V0 [(70, b0, .inl (5, [.inl 0, .inr (some b1), .inr (some q71), .inr (some q72), .inr (some q73), .inr (some q74), .inr (some q75), .inr (some q78), .inr (some q81), .inl 0, .inl 0, .inl 0, .inl 0, .inl 0])), (71, q71, .inr (0, 10, gno)), (81, q81, .inr (5, 4, gno)), (72, q72, .inr (0, r, gno)), (73, q73, .inr (0, r, gno)), (74, q74, .inr (0, r, gno)), (75, q75, .inl (6, [.inr (some q76), .inr (some q77)])), (76, q76, .inr (0, r + 1, gno)), (77, q77, .inr (0, r, gno)), (78, q78, .inl (6, [.inr (some q79), .inr (some q80)])), (79, q79, .inr (0, r + 1, gno)), (80, q80, .inr (0, r, gno))] V8 := by rw [ev8]; exact Bt_de (ds1 := []) Bb7 (by simp) (by simp)
  have smI : gSm lRG I I14 := fun k hk => by
    simp only [List.mem_cons, List.not_mem_nil, or_false, not_or] at hk
    rw [sm14 k (by simp only [List.mem_cons, List.not_mem_nil, or_false, not_or]; omega), eI13, guc_o (by omega), sm12 k (by simp only [List.mem_cons, List.not_mem_nil, or_false, not_or]; omega), eI11, guc_o (by omega), eI10, guc_o (by omega), eI9, guc_o (by omega), eI8, guc_o (by omega), eI7, gup_o (by omega), eI6, gup_o (by omega), eI5, gup_o (by omega), eI4, gup_o (by omega), eI3, gup_o (by omega), eI2, gup_o (by omega), eI1, guc_o (by omega)]
  have smJ : gJm lRG J J13 := fun k hk => by
    simp only [List.mem_cons, List.not_mem_nil, or_false, not_or] at hk
    rw [eJ13, guc_o (by omega), eJ11, guc_o (by omega)]
  clear eI1 eI2 eI3 eI4 eI5 eI6 eI7 eI8 eI9 eI10 eI11 eI13 sm14 sm12 eJ13 eJ11
  unfold wA_X5_init_120
  refine gq6 (N := 4) (fun K v V c s I J => wA_X5_init_120b mc ms Po K b0 v V c s I J) (fun j V' c' s' I' J' => c' = 11 + 3 * j ∧ s' = 20 + 7 * r + j * (3 + 2 * r) ∧ (∃ rf tl, Bt V0 (([(70, b0, .inl (5, [.inl 0, .inr (some b1), .inr (some q71), .inr (some q72), .inr (some q73), .inr (some q74), .inr (some q75), .inr (some q78), .inr (some q81), .inl 0, .inl 0, .inl 0, .inl 0, .inl 0])), (71, q71, .inr (0, 10, gno))] : List (Nat × Nat × gD)) ++ (81, q81, .inr (5, 4, rf)) :: (([(72, q72, .inr (0, r, gno)), (73, q73, .inr (0, r, gno)), (74, q74, .inr (0, r, gno)), (75, q75, .inl (6, [.inr (some q76), .inr (some q77)])), (76, q76, .inr (0, r + 1, gno)), (77, q77, .inr (0, r, gno)), (78, q78, .inl (6, [.inr (some q79), .inr (some q80)])), (79, q79, .inr (0, r + 1, gno)), (80, q80, .inr (0, r, gno))] : List (Nat × Nat × gD)) ++ tl)) V' ∧ tl.map (fun q => q.1) = tk j ∧ (∀ i, rf i = if i < j then some (V'.2.1 (82 + i)) else none) ∧ ∀ i, i < j → V'.2.2 (82 + i) = .inl (7, [.inr (some (V'.2.1 (86 + i))), .inr (some (V'.2.1 (90 + i))), .inl 0]) ∧ V'.2.2 (86 + i) = .inr (1, r, gno) ∧ V'.2.2 (90 + i) = .inr (0, r, gno)) ∧ gSm lRG I I' ∧ gJm lRG J J' ∧ I' 70 0 = nI r ∧ ∀ i, i < j → I' (82 + i) 2 = 0 ∧ J' (86 + i) = fun _ => 0) (by decide) ⟨by omega, by omega, ⟨gno, [], by rw [List.append_nil]; exact B8, rfl, fun i => by rw [if_neg (Nat.not_lt_zero i)]; rfl, fun i hi => absurd hi (by omega)⟩, smI, smJ, r14, fun i hi => absurd hi (by omega)⟩ ?_
  rintro j W c s I' J' hj ⟨rfl, rfl, ⟨rf, tl, Bw, htl, hrf, hts⟩, g1, g2, g3, g4⟩ K kk
  have d70' : (70, b0, (.inl (5, [.inl 0, .inr (some b1), .inr (some q71), .inr (some q72), .inr (some q73), .inr (some q74), .inr (some q75), .inr (some q78), .inr (some q81), .inl 0, .inl 0, .inl 0, .inl 0, .inl 0]) : gD)) ∈ ([(70, b0, .inl (5, [.inl 0, .inr (some b1), .inr (some q71), .inr (some q72), .inr (some q73), .inr (some q74), .inr (some q75), .inr (some q78), .inr (some q81), .inl 0, .inl 0, .inl 0, .inl 0, .inl 0])), (71, q71, .inr (0, 10, gno))] : List (Nat × Nat × gD)) ++ (81, q81, .inr (5, 4, rf)) :: (([(72, q72, .inr (0, r, gno)), (73, q73, .inr (0, r, gno)), (74, q74, .inr (0, r, gno)), (75, q75, .inl (6, [.inr (some q76), .inr (some q77)])), (76, q76, .inr (0, r + 1, gno)), (77, q77, .inr (0, r, gno)), (78, q78, .inl (6, [.inr (some q79), .inr (some q80)])), (79, q79, .inr (0, r + 1, gno)), (80, q80, .inr (0, r, gno))] : List (Nat × Nat × gD)) ++ tl) := List.mem_append_left _ (List.mem_cons_self ..)
  have shp : (([(70, b0, .inl (5, [.inl 0, .inr (some b1), .inr (some q71), .inr (some q72), .inr (some q73), .inr (some q74), .inr (some q75), .inr (some q78), .inr (some q81), .inl 0, .inl 0, .inl 0, .inl 0, .inl 0])), (71, q71, .inr (0, 10, gno))] : List (Nat × Nat × gD)) ++ (81, q81, (.inr (5, 4, rf) : gD)) :: (([(72, q72, .inr (0, r, gno)), (73, q73, .inr (0, r, gno)), (74, q74, .inr (0, r, gno)), (75, q75, .inl (6, [.inr (some q76), .inr (some q77)])), (76, q76, .inr (0, r + 1, gno)), (77, q77, .inr (0, r, gno)), (78, q78, .inl (6, [.inr (some q79), .inr (some q80)])), (79, q79, .inr (0, r + 1, gno)), (80, q80, .inr (0, r, gno))] : List (Nat × Nat × gD)) ++ tl)).map (fun q => q.1) = [70, 71, 81, 72, 73, 74, 75, 76, 77, 78, 79, 80] ++ tk j := by
    rw [List.map_append]
    show [70, 71] ++ 81 :: List.map (fun q : Nat × Nat × gD => q.1) (([(72, q72, .inr (0, r, gno)), (73, q73, .inr (0, r, gno)), (74, q74, .inr (0, r, gno)), (75, q75, .inl (6, [.inr (some q76), .inr (some q77)])), (76, q76, .inr (0, r + 1, gno)), (77, q77, .inr (0, r, gno)), (78, q78, .inl (6, [.inr (some q79), .inr (some q80)])), (79, q79, .inr (0, r + 1, gno)), (80, q80, .inr (0, r, gno))] : List (Nat × Nat × gD)) ++ tl) = _
    rw [List.map_append, htl]
    rfl
  have inL : ∀ k, k ∈ (([(70, b0, .inl (5, [.inl 0, .inr (some b1), .inr (some q71), .inr (some q72), .inr (some q73), .inr (some q74), .inr (some q75), .inr (some q78), .inr (some q81), .inl 0, .inl 0, .inl 0, .inl 0, .inl 0])), (71, q71, .inr (0, 10, gno))] : List (Nat × Nat × gD)) ++ (81, q81, (.inr (5, 4, rf) : gD)) :: (([(72, q72, .inr (0, r, gno)), (73, q73, .inr (0, r, gno)), (74, q74, .inr (0, r, gno)), (75, q75, .inl (6, [.inr (some q76), .inr (some q77)])), (76, q76, .inr (0, r + 1, gno)), (77, q77, .inr (0, r, gno)), (78, q78, .inl (6, [.inr (some q79), .inr (some q80)])), (79, q79, .inr (0, r + 1, gno)), (80, q80, .inr (0, r, gno))] : List (Nat × Nat × gD)) ++ tl)).map (fun q => q.1) ↔ (70 ≤ k ∧ k ≤ 81) ∨ k ∈ tk j := fun k => by
    rw [shp, List.mem_append]
    constructor
    · rintro (h | h)
      · simp only [List.mem_cons, List.not_mem_nil, or_false] at h; exact Or.inl (by omega)
      · exact Or.inr h
    · rintro (h | h)
      · refine Or.inl ?_; simp only [List.mem_cons, List.not_mem_nil, or_false]; omega
      · exact Or.inr h
  unfold wA_X5_init_120b
  rw [i_4]
  refine pk_le 4 j (fun hz => ?_) (fun hz => ?_) rfl rfl
  · obtain rfl : j = 4 := by omega
    have c70 := Bw.2.1 _ d70'

    have h81 : (81, q81, (.inr (5, 4, rf) : gD)) ∈ ([(70, b0, .inl (5, [.inl 0, .inr (some b1), .inr (some q71), .inr (some q72), .inr (some q73), .inr (some q74), .inr (some q75), .inr (some q78), .inr (some q81), .inl 0, .inl 0, .inl 0, .inl 0, .inl 0])), (71, q71, .inr (0, 10, gno))] : List (Nat × Nat × gD)) ++ (81, q81, .inr (5, 4, rf)) :: (([(72, q72, .inr (0, r, gno)), (73, q73, .inr (0, r, gno)), (74, q74, .inr (0, r, gno)), (75, q75, .inl (6, [.inr (some q76), .inr (some q77)])), (76, q76, .inr (0, r + 1, gno)), (77, q77, .inr (0, r, gno)), (78, q78, .inl (6, [.inr (some q79), .inr (some q80)])), (79, q79, .inr (0, r + 1, gno)), (80, q80, .inr (0, r, gno))] : List (Nat × Nat × gD)) ++ tl) := List.mem_append_right _ (List.mem_cons_self ..)
    have c81 := Bw.2.1 _ h81
    have h71 : (71, q71, (.inr (0, 10, gno) : gD)) ∈ ([(70, b0, .inl (5, [.inl 0, .inr (some b1), .inr (some q71), .inr (some q72), .inr (some q73), .inr (some q74), .inr (some q75), .inr (some q78), .inr (some q81), .inl 0, .inl 0, .inl 0, .inl 0, .inl 0])), (71, q71, .inr (0, 10, gno))] : List (Nat × Nat × gD)) ++ (81, q81, .inr (5, 4, rf)) :: (([(72, q72, .inr (0, r, gno)), (73, q73, .inr (0, r, gno)), (74, q74, .inr (0, r, gno)), (75, q75, .inl (6, [.inr (some q76), .inr (some q77)])), (76, q76, .inr (0, r + 1, gno)), (77, q77, .inr (0, r, gno)), (78, q78, .inl (6, [.inr (some q79), .inr (some q80)])), (79, q79, .inr (0, r + 1, gno)), (80, q80, .inr (0, r, gno))] : List (Nat × Nat × gD)) ++ tl) := List.mem_append_left _ (List.mem_of_getElem? (i := 1) rfl)
    have c71 := Bw.2.1 _ h71
    have c72 := Bw.2.1 (72, q72, .inr (0, r, gno)) (List.mem_append_right _ (List.mem_cons_of_mem _ (List.mem_append_left _ (List.mem_of_getElem? (i := 0) rfl))))
    have c73 := Bw.2.1 (73, q73, .inr (0, r, gno)) (List.mem_append_right _ (List.mem_cons_of_mem _ (List.mem_append_left _ (List.mem_of_getElem? (i := 1) rfl))))
    have c74 := Bw.2.1 (74, q74, .inr (0, r, gno)) (List.mem_append_right _ (List.mem_cons_of_mem _ (List.mem_append_left _ (List.mem_of_getElem? (i := 2) rfl))))
    have c75 := Bw.2.1 (75, q75, .inl (6, [.inr (some q76), .inr (some q77)])) (List.mem_append_right _ (List.mem_cons_of_mem _ (List.mem_append_left _ (List.mem_of_getElem? (i := 3) rfl))))
    have c76 := Bw.2.1 (76, q76, .inr (0, r + 1, gno)) (List.mem_append_right _ (List.mem_cons_of_mem _ (List.mem_append_left _ (List.mem_of_getElem? (i := 4) rfl))))
    have c77 := Bw.2.1 (77, q77, .inr (0, r, gno)) (List.mem_append_right _ (List.mem_cons_of_mem _ (List.mem_append_left _ (List.mem_of_getElem? (i := 5) rfl))))
    have c78 := Bw.2.1 (78, q78, .inl (6, [.inr (some q79), .inr (some q80)])) (List.mem_append_right _ (List.mem_cons_of_mem _ (List.mem_append_left _ (List.mem_of_getElem? (i := 6) rfl))))
    have c79 := Bw.2.1 (79, q79, .inr (0, r + 1, gno)) (List.mem_append_right _ (List.mem_cons_of_mem _ (List.mem_append_left _ (List.mem_of_getElem? (i := 7) rfl))))
    have c80 := Bw.2.1 (80, q80, .inr (0, r, gno)) (List.mem_append_right _ (List.mem_cons_of_mem _ (List.mem_append_left _ (List.mem_of_getElem? (i := 8) rfl))))
    have mem : ∀ k, 70 ≤ k → k ≤ 93 → k ∈ W.1 := fun k h1 h2 => by
      rw [Bw.1, List.mem_append, inL]
      refine Or.inr ?_
      by_cases h : k ≤ 81
      · exact Or.inl ⟨h1, h⟩
      · refine Or.inr ?_
        simp only [tk, List.nil_append, List.cons_append, List.mem_cons, List.not_mem_nil, or_false]
        omega
    have a10 : W.2.1 10 = b1 := by
      rw [(Bw.2.2 10 (fun h => by
        rcases (inL 10).mp h with z | z
        · omega
        · have := tk_m z; omega)).1]; exact hb1
    refine hPo W I' J' ?_ ?_ c70.1 (fun k hk => Bw.2.2 k (fun h => by
        rcases (inL k).mp h with z | z
        · omega
        · have := tk_m z; omega)) g1 g2 g3 (fun d hd => ⟨fun c hc => ⟨by rw [(g4 d hd).2]; rfl, Nat.le_of_ble_eq_true rfl⟩, 0, fun _ => 0, (g4 d hd).1, fun i hi => absurd hi (by omega), fun c _ h => absurd rfl h, fun i j hi => absurd hi (by omega)⟩)
    · rw [Bw.1, shp]
    · intro q hq
      simp only [gLsRG, List.mem_cons, List.not_mem_nil, or_false] at hq
      have t0 := hts 0 (by decide)
      have t1 := hts 1 (by decide)
      have t2 := hts 2 (by decide)
      have t3 := hts 3 (by decide)
      rcases hq with rfl | rfl | rfl | rfl | rfl | rfl | rfl | rfl | rfl | rfl | rfl | rfl | rfl | rfl | rfl | rfl | rfl | rfl | rfl | rfl | rfl | rfl | rfl | rfl
      · exact ⟨mem 70 (by decide) (by decide), by rw [a10, c71.1, c72.1, c73.1, c74.1, c75.1, c78.1, c81.1]; exact c70.2⟩
      · exact ⟨mem 71 (by decide) (by decide), c71.2⟩
      · exact ⟨mem 72 (by decide) (by decide), c72.2⟩
      · exact ⟨mem 73 (by decide) (by decide), c73.2⟩
      · exact ⟨mem 74 (by decide) (by decide), c74.2⟩
      · exact ⟨mem 75 (by decide) (by decide), by rw [c76.1, c77.1]; exact c75.2⟩
      · exact ⟨mem 76 (by decide) (by decide), c76.2⟩
      · exact ⟨mem 77 (by decide) (by decide), c77.2⟩
      · exact ⟨mem 78 (by decide) (by decide), by rw [c79.1, c80.1]; exact c78.2⟩
      · exact ⟨mem 79 (by decide) (by decide), c79.2⟩
      · exact ⟨mem 80 (by decide) (by decide), c80.2⟩
      · refine ⟨mem 81 (by decide) (by decide), ?_⟩
        have : rf = gfam W.2.1 82 4 := by funext i; exact hrf i
        rw [← this]; exact c81.2
      · exact ⟨mem 82 (by decide) (by decide), t0.1⟩
      · exact ⟨mem 83 (by decide) (by decide), t1.1⟩
      · exact ⟨mem 84 (by decide) (by decide), t2.1⟩
      · exact ⟨mem 85 (by decide) (by decide), t3.1⟩
      · exact ⟨mem 86 (by decide) (by decide), t0.2.1⟩
      · exact ⟨mem 87 (by decide) (by decide), t1.2.1⟩
      · exact ⟨mem 88 (by decide) (by decide), t2.2.1⟩
      · exact ⟨mem 89 (by decide) (by decide), t3.2.1⟩
      · exact ⟨mem 90 (by decide) (by decide), t0.2.2⟩
      · exact ⟨mem 91 (by decide) (by decide), t1.2.2⟩
      · exact ⟨mem 92 (by decide) (by decide), t2.2.2⟩
      · exact ⟨mem 93 (by decide) (by decide), t3.2.2⟩
  · have out : ∀ k, 82 + j = k ∨ 86 + j = k ∨ 90 + j = k → k ∉ (([(70, b0, .inl (5, [.inl 0, .inr (some b1), .inr (some q71), .inr (some q72), .inr (some q73), .inr (some q74), .inr (some q75), .inr (some q78), .inr (some q81), .inl 0, .inl 0, .inl 0, .inl 0, .inl 0])), (71, q71, .inr (0, 10, gno))] : List (Nat × Nat × gD)) ++ (81, q81, (.inr (5, 4, rf) : gD)) :: (([(72, q72, .inr (0, r, gno)), (73, q73, .inr (0, r, gno)), (74, q74, .inr (0, r, gno)), (75, q75, .inl (6, [.inr (some q76), .inr (some q77)])), (76, q76, .inr (0, r + 1, gno)), (77, q77, .inr (0, r, gno)), (78, q78, .inl (6, [.inr (some q79), .inr (some q80)])), (79, q79, .inr (0, r + 1, gno)), (80, q80, .inr (0, r, gno))] : List (Nat × Nat × gD)) ++ tl)).map (fun q => q.1) := fun k hk h => by
      rcases (inL k).mp h with z | z
      · omega
      · have := tk_m z; omega
    have mj : j * (3 + 2 * r) + (3 + 2 * r) ≤ 4 * (3 + 2 * r) := by
      have : (j + 1) * (3 + 2 * r) ≤ 4 * (3 + 2 * r) := Nat.mul_le_mul_right _ hz
      rw [Nat.add_mul, Nat.one_mul] at this
      exact this
    rw [nI_clamp (n := j) (by omega)]
    refine ⟨[.inl 0, .inr (some b1), .inr (some q71), .inr (some q72), .inr (some q73), .inr (some q74), .inr (some q75), .inr (some q78), .inr (some q81), .inl 0, .inl 0, .inl 0, .inl 0, .inl 0], q81, Bt_m Bw d70', (Bw.2.1 _ d70').1, (Bw.2.1 _ d70').2, rfl, Bt_f Bw (hf (82 + j) (by omega) (by omega)) (out _ (Or.inl rfl)), by omega, by omega, ?_⟩
    intro b4 Va ea I5 J6 e5 e6
    have Ba := Bt_add (a := b4) (d := .inl (7, [.inr none, .inr none, .inl 0])) Bw (out _ (Or.inl rfl))
    rw [← ea] at Ba
    have dA := List.mem_append_left [(82 + j, b4, (.inl (7, [.inr none, .inr none, .inl 0]) : gD))] d70'
    have r5 : I5 70 0 = nI r := by rw [e5, guc_o (by omega)]; exact g3
    refine ⟨[.inl 0, .inr (some b1), .inr (some q71), .inr (some q72), .inr (some q73), .inr (some q74), .inr (some q75), .inr (some q78), .inr (some q81), .inl 0, .inl 0, .inl 0, .inl 0, .inl 0], Bt_m Ba dA, (Ba.2.1 _ dA).1, (Ba.2.1 _ dA).2, rfl, 2, 2 * r, by omega, by omega, ?_⟩
    rw [r5]
    refine s_X7 hr2 (Nat.le_refl _) (Nat.le_refl _) Ba (out _ (Or.inl rfl)) (out _ (Or.inr (Or.inl rfl))) (out _ (Or.inr (Or.inr rfl))) (by omega) (by omega) (by omega) (hf (86 + j) (by omega) (by omega)) (hf (90 + j) (by omega) (by omega)) (fun Vb I7 J7 a1 a2 Bb s1 s2 s3 s4 => ?_)
    have h81 : (81, q81, (.inr (5, 4, rf) : gD)) ∈ (([(70, b0, .inl (5, [.inl 0, .inr (some b1), .inr (some q71), .inr (some q72), .inr (some q73), .inr (some q74), .inr (some q75), .inr (some q78), .inr (some q81), .inl 0, .inl 0, .inl 0, .inl 0, .inl 0])), (71, q71, .inr (0, 10, gno))] : List (Nat × Nat × gD)) ++ (81, q81, (.inr (5, 4, rf) : gD)) :: (([(72, q72, .inr (0, r, gno)), (73, q73, .inr (0, r, gno)), (74, q74, .inr (0, r, gno)), (75, q75, .inl (6, [.inr (some q76), .inr (some q77)])), (76, q76, .inr (0, r + 1, gno)), (77, q77, .inr (0, r, gno)), (78, q78, .inl (6, [.inr (some q79), .inr (some q80)])), (79, q79, .inr (0, r + 1, gno)), (80, q80, .inr (0, r, gno))] : List (Nat × Nat × gD)) ++ tl)) ++ [(82 + j, b4, (.inl (7, [.inr (some a1), .inr (some a2), .inl 0]) : gD)), (86 + j, a1, .inr (1, r, gno)), (90 + j, a2, .inr (0, r, gno))] := List.mem_append_left _ (List.mem_append_right _ (List.mem_cons_self ..))
    have h82 : (82 + j, b4, (.inl (7, [.inr (some a1), .inr (some a2), .inl 0]) : gD)) ∈ (([(70, b0, .inl (5, [.inl 0, .inr (some b1), .inr (some q71), .inr (some q72), .inr (some q73), .inr (some q74), .inr (some q75), .inr (some q78), .inr (some q81), .inl 0, .inl 0, .inl 0, .inl 0, .inl 0])), (71, q71, .inr (0, 10, gno))] : List (Nat × Nat × gD)) ++ (81, q81, (.inr (5, 4, rf) : gD)) :: (([(72, q72, .inr (0, r, gno)), (73, q73, .inr (0, r, gno)), (74, q74, .inr (0, r, gno)), (75, q75, .inl (6, [.inr (some q76), .inr (some q77)])), (76, q76, .inr (0, r + 1, gno)), (77, q77, .inr (0, r, gno)), (78, q78, .inl (6, [.inr (some q79), .inr (some q80)])), (79, q79, .inr (0, r + 1, gno)), (80, q80, .inr (0, r, gno))] : List (Nat × Nat × gD)) ++ tl)) ++ [(82 + j, b4, (.inl (7, [.inr (some a1), .inr (some a2), .inl 0]) : gD)), (86 + j, a1, .inr (1, r, gno)), (90 + j, a2, .inr (0, r, gno))] := List.mem_append_right _ (List.mem_cons_self ..)
    have c82 := Bb.2.1 _ h82
    refine ⟨rf, 4, [.inr (some a1), .inr (some a2), .inl 0], (Bb.2.1 _ h81).1, c82.1, Bt_m Bb h81, (Bb.2.1 _ h81).2, Bt_m Bb h82, c82.2, vp_in_nI (by omega) (by decide), ?_⟩
    intro V229 e229 n230 e230
    rw [nI_1] at e230
    subst e230
    have c82a : Vb.2.1 (82 + j) = b4 := c82.1
    rw [c82a] at e229
    rw [app4] at Bb
    have Bc : Bt V0 (([(70, b0, .inl (5, [.inl 0, .inr (some b1), .inr (some q71), .inr (some q72), .inr (some q73), .inr (some q74), .inr (some q75), .inr (some q78), .inr (some q81), .inl 0, .inl 0, .inl 0, .inl 0, .inl 0])), (71, q71, .inr (0, 10, gno))] : List (Nat × Nat × gD)) ++ (81, q81, .inr (5, 4, va_up rf j (some b4))) :: (([(72, q72, .inr (0, r, gno)), (73, q73, .inr (0, r, gno)), (74, q74, .inr (0, r, gno)), (75, q75, .inl (6, [.inr (some q76), .inr (some q77)])), (76, q76, .inr (0, r + 1, gno)), (77, q77, .inr (0, r, gno)), (78, q78, .inl (6, [.inr (some q79), .inr (some q80)])), (79, q79, .inr (0, r + 1, gno)), (80, q80, .inr (0, r, gno))] : List (Nat × Nat × gD)) ++ (tl ++ [(82 + j, b4, (.inl (7, [.inr (some a1), .inr (some a2), .inl 0]) : gD)), (86 + j, a1, .inr (1, r, gno)), (90 + j, a2, .inr (0, r, gno))]))) V229 := by
      rw [e229]
      refine Bt_de Bb (by simp) ?_
      rw [List.map_append, List.map_append, htl]
      simp only [List.map_cons, List.map_nil, List.mem_append, List.mem_cons, List.not_mem_nil, or_false, not_or]
      refine ⟨by decide, fun h => by have := tk_m h; omega, by omega, by omega, by omega⟩
    have tlm : ∀ q, q ∈ [(82 + j, b4, (.inl (7, [.inr (some a1), .inr (some a2), .inl 0]) : gD)), (86 + j, a1, .inr (1, r, gno)), (90 + j, a2, .inr (0, r, gno))] → q ∈ ([(70, b0, .inl (5, [.inl 0, .inr (some b1), .inr (some q71), .inr (some q72), .inr (some q73), .inr (some q74), .inr (some q75), .inr (some q78), .inr (some q81), .inl 0, .inl 0, .inl 0, .inl 0, .inl 0])), (71, q71, .inr (0, 10, gno))] : List (Nat × Nat × gD)) ++ (81, q81, .inr (5, 4, va_up rf j (some b4))) :: (([(72, q72, .inr (0, r, gno)), (73, q73, .inr (0, r, gno)), (74, q74, .inr (0, r, gno)), (75, q75, .inl (6, [.inr (some q76), .inr (some q77)])), (76, q76, .inr (0, r + 1, gno)), (77, q77, .inr (0, r, gno)), (78, q78, .inl (6, [.inr (some q79), .inr (some q80)])), (79, q79, .inr (0, r + 1, gno)), (80, q80, .inr (0, r, gno))] : List (Nat × Nat × gD)) ++ (tl ++ [(82 + j, b4, (.inl (7, [.inr (some a1), .inr (some a2), .inl 0]) : gD)), (86 + j, a1, .inr (1, r, gno)), (90 + j, a2, .inr (0, r, gno))])) := fun q hq => List.mem_append_right _ (List.mem_cons_of_mem _ (List.mem_append_right _ (List.mem_append_right _ hq)))
    have y82 := Bc.2.1 _ (tlm _ (List.mem_of_getElem? (i := 0) rfl))
    have y86 := Bc.2.1 _ (tlm _ (List.mem_of_getElem? (i := 1) rfl))
    have y90 := Bc.2.1 _ (tlm _ (List.mem_of_getElem? (i := 2) rfl))
    -- the earlier tallies are as they were
    have old : ∀ k, (∃ i, i < j ∧ (k = 82 + i ∨ k = 86 + i ∨ k = 90 + i)) → V229.2.1 k = W.2.1 k ∧ V229.2.2 k = W.2.2 k := by
      rintro k ⟨i, hi, hk⟩
      have hin : k ∈ tl.map (fun q => q.1) := by
        rw [htl]
        have : ∀ m, i < m → 82 + i ∈ tk m ∧ 86 + i ∈ tk m ∧ 90 + i ∈ tk m := fun m hm => by
          induction m with
          | zero => omega
          | succ m ih =>
            show 82 + i ∈ tk m ++ [82 + m, 86 + m, 90 + m] ∧ 86 + i ∈ tk m ++ [82 + m, 86 + m, 90 + m] ∧ 90 + i ∈ tk m ++ [82 + m, 86 + m, 90 + m]
            by_cases e : i = m
            · subst e; simp
            · obtain ⟨x1, x2, x3⟩ := ih (by omega)
              exact ⟨List.mem_append_left _ x1, List.mem_append_left _ x2, List.mem_append_left _ x3⟩
        obtain ⟨x1, x2, x3⟩ := this j hi
        rcases hk with rfl | rfl | rfl
        · exact x1
        · exact x2
        · exact x3
      obtain ⟨q, hq, rfl⟩ := List.mem_map.mp hin
      have p1 := Bc.2.1 q (List.mem_append_right _ (List.mem_cons_of_mem _ (List.mem_append_right _ (List.mem_append_left _ hq))))
      have p2 := Bw.2.1 q (List.mem_append_right _ (List.mem_cons_of_mem _ (List.mem_append_right _ hq)))
      exact ⟨by rw [p1.1, p2.1], by rw [p1.2, p2.2]⟩
    have smm : gSm lRG I I7 := fun k hk => by
      have h1 : k ∉ [82 + j, 90 + j] := fun h => by
        simp only [List.mem_cons, List.not_mem_nil, or_false] at h hk
        omega
      have h2 : k ≠ 82 + j := fun h => h1 (by rw [h]; exact List.mem_cons_self ..)
      rw [s1 k h1, e5, guc_o h2]
      exact g1 k hk
    have smj : gJm lRG J J7 := fun k hk => by
      have h1 : k ∉ [86 + j] := fun h => by
        simp only [List.mem_cons, List.not_mem_nil, or_false] at h hk
        omega
      have h2 : k ≠ 82 + j := fun h => by
        simp only [List.mem_cons, List.not_mem_nil, or_false] at hk
        omega
      rw [s3 k h1, e6, guc_o h2]
      exact g2 k hk
    refine kk hz V229 _ _ I7 J7 ⟨by omega, by rw [Nat.add_mul]; omega, ⟨va_up rf j (some b4), tl ++ [(82 + j, b4, (.inl (7, [.inr (some a1), .inr (some a2), .inl 0]) : gD)), (86 + j, a1, .inr (1, r, gno)), (90 + j, a2, .inr (0, r, gno))], Bc, by rw [List.map_append, htl]; rfl, fun i => ?_, fun i hi => ?_⟩, smm, smj, by rw [s1 70 (by simp only [List.mem_cons, List.not_mem_nil, or_false]; omega)]; exact r5, fun i hi => ?_⟩
    · by_cases e : i = j
      · subst e
        rw [if_pos (by omega), y82.1]
        simp [va_up]
      · have : va_up rf j (some b4) i = rf i := by simp [va_up, e]
        rw [this, hrf i]
        by_cases z : i < j
        · rw [if_pos z, if_pos (by omega), (old (82 + i) ⟨i, z, Or.inl rfl⟩).1]
        · rw [if_neg z, if_neg (by omega)]
    · by_cases e : i = j
      · subst e
        exact ⟨by rw [y86.1, y90.1]; exact y82.2, y86.2, y90.2⟩
      · have z : i < j := by omega
        obtain ⟨t1, t2, t3⟩ := hts i z
        rw [(old (82 + i) ⟨i, z, Or.inl rfl⟩).2, (old (86 + i) ⟨i, z, Or.inr (Or.inl rfl)⟩).2, (old (90 + i) ⟨i, z, Or.inr (Or.inr rfl)⟩).2, (old (86 + i) ⟨i, z, Or.inr (Or.inl rfl)⟩).1, (old (90 + i) ⟨i, z, Or.inr (Or.inr rfl)⟩).1]
        exact ⟨t1, t2, t3⟩
    · by_cases e : i = j
      · subst e; exact ⟨s2, s4⟩
      · have z : i < j := by omega
        obtain ⟨t1, t2⟩ := g4 i z
        rw [s1 (82 + i) (by simp only [List.mem_cons, List.not_mem_nil, or_false]; omega), e5, guc_o (by omega), s3 (86 + i) (by simp only [List.mem_cons, List.not_mem_nil, or_false]; omega), e6, guc_o (by omega)]
        exact ⟨t1, t2⟩
